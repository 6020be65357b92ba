section
theorem W_wide : True := by
  have := @Jvm.Stand.multianewarray2F
  trivial
end
section
-- ===== PART A: goes FIRST, ahead of the names: the tables' words, and 'selects' of the private methods out of them =====
/-- a private method of a class that the tables say can be made, by its rows of tables_1 -/
def lw_okq (q : MethodName × Nat) : Prop := (q.1.cls ≠ "java/lang/invoke/MethodHandle" ∧ q.1.cls ≠ "java/lang/invoke/VarHandle") ∧ Cond.instantiable q.1.cls q.2 ∈ tables_1 ∧ Cond.privateMethod q.1 ∈ tables_1 ∧ Cond.instanceMethod q.1 ∈ tables_1
theorem lw_p0 : lw_okq (⟨"GramFinder", "writeNumber", "(I)V"⟩, 7) := ⟨⟨by decide +kernel, by decide +kernel⟩, List.mem_of_getElem? (i := 20) (by decide +kernel), List.mem_of_getElem? (i := 401) (by decide +kernel), List.mem_of_getElem? (i := 402) (by decide +kernel)⟩
theorem lw_p1 : lw_okq (⟨"GramFinder$Row", "placeOf", "(I)I"⟩, 2) := ⟨⟨by decide +kernel, by decide +kernel⟩, List.mem_of_getElem? (i := 36) (by decide +kernel), List.mem_of_getElem? (i := 469) (by decide +kernel), List.mem_of_getElem? (i := 470) (by decide +kernel)⟩
theorem lw_p2 : lw_okq (⟨"GramFinder$Row", "makeRoom", "(I)V"⟩, 2) := ⟨⟨by decide +kernel, by decide +kernel⟩, List.mem_of_getElem? (i := 36) (by decide +kernel), List.mem_of_getElem? (i := 477) (by decide +kernel), List.mem_of_getElem? (i := 478) (by decide +kernel)⟩
theorem lw_p3 : lw_okq (⟨"GramFinder$Parser", "fail", "(II)V"⟩, 7) := ⟨⟨by decide +kernel, by decide +kernel⟩, List.mem_of_getElem? (i := 77) (by decide +kernel), List.mem_of_getElem? (i := 545) (by decide +kernel), List.mem_of_getElem? (i := 546) (by decide +kernel)⟩
theorem lw_p4 : lw_okq (⟨"GramFinder$Parser", "readAlt", "(I)I"⟩, 7) := ⟨⟨by decide +kernel, by decide +kernel⟩, List.mem_of_getElem? (i := 77) (by decide +kernel), List.mem_of_getElem? (i := 549) (by decide +kernel), List.mem_of_getElem? (i := 550) (by decide +kernel)⟩
theorem lw_p5 : lw_okq (⟨"GramFinder$Parser", "readCat", "(I)I"⟩, 7) := ⟨⟨by decide +kernel, by decide +kernel⟩, List.mem_of_getElem? (i := 77) (by decide +kernel), List.mem_of_getElem? (i := 560) (by decide +kernel), List.mem_of_getElem? (i := 561) (by decide +kernel)⟩
theorem lw_p6 : lw_okq (⟨"GramFinder$Parser", "peek", "()I"⟩, 7) := ⟨⟨by decide +kernel, by decide +kernel⟩, List.mem_of_getElem? (i := 77) (by decide +kernel), List.mem_of_getElem? (i := 564) (by decide +kernel), List.mem_of_getElem? (i := 565) (by decide +kernel)⟩
theorem lw_p7 : lw_okq (⟨"GramFinder$Parser", "readRep", "(I)I"⟩, 7) := ⟨⟨by decide +kernel, by decide +kernel⟩, List.mem_of_getElem? (i := 77) (by decide +kernel), List.mem_of_getElem? (i := 569) (by decide +kernel), List.mem_of_getElem? (i := 570) (by decide +kernel)⟩
theorem lw_p8 : lw_okq (⟨"GramFinder$Parser", "readAtom", "(I)I"⟩, 7) := ⟨⟨by decide +kernel, by decide +kernel⟩, List.mem_of_getElem? (i := 77) (by decide +kernel), List.mem_of_getElem? (i := 573) (by decide +kernel), List.mem_of_getElem? (i := 574) (by decide +kernel)⟩
theorem lw_p9 : lw_okq (⟨"GramFinder$Parser", "readGroup", "(I)I"⟩, 7) := ⟨⟨by decide +kernel, by decide +kernel⟩, List.mem_of_getElem? (i := 77) (by decide +kernel), List.mem_of_getElem? (i := 577) (by decide +kernel), List.mem_of_getElem? (i := 578) (by decide +kernel)⟩
theorem lw_p10 : lw_okq (⟨"GramFinder$Parser", "readClass", "()I"⟩, 7) := ⟨⟨by decide +kernel, by decide +kernel⟩, List.mem_of_getElem? (i := 77) (by decide +kernel), List.mem_of_getElem? (i := 581) (by decide +kernel), List.mem_of_getElem? (i := 582) (by decide +kernel)⟩
theorem lw_p11 : lw_okq (⟨"GramFinder$Parser", "readPiece", "(I)V"⟩, 7) := ⟨⟨by decide +kernel, by decide +kernel⟩, List.mem_of_getElem? (i := 77) (by decide +kernel), List.mem_of_getElem? (i := 595) (by decide +kernel), List.mem_of_getElem? (i := 596) (by decide +kernel)⟩
theorem lw_p12 : lw_okq (⟨"GramFinder$Tree", "wordOf", "(II)I"⟩, 12) := ⟨⟨by decide +kernel, by decide +kernel⟩, List.mem_of_getElem? (i := 83) (by decide +kernel), List.mem_of_getElem? (i := 619) (by decide +kernel), List.mem_of_getElem? (i := 620) (by decide +kernel)⟩
theorem lw_p13 : lw_okq (⟨"GramFinder$Parser", "readOne", "()I"⟩, 7) := ⟨⟨by decide +kernel, by decide +kernel⟩, List.mem_of_getElem? (i := 77) (by decide +kernel), List.mem_of_getElem? (i := 623) (by decide +kernel), List.mem_of_getElem? (i := 624) (by decide +kernel)⟩
theorem lw_p14 : lw_okq (⟨"GramFinder$Parser", "readEscape", "()I"⟩, 7) := ⟨⟨by decide +kernel, by decide +kernel⟩, List.mem_of_getElem? (i := 77) (by decide +kernel), List.mem_of_getElem? (i := 656) (by decide +kernel), List.mem_of_getElem? (i := 657) (by decide +kernel)⟩
theorem lw_p15 : lw_okq (⟨"GramFinder$Parser", "readDot", "()I"⟩, 7) := ⟨⟨by decide +kernel, by decide +kernel⟩, List.mem_of_getElem? (i := 77) (by decide +kernel), List.mem_of_getElem? (i := 661) (by decide +kernel), List.mem_of_getElem? (i := 662) (by decide +kernel)⟩
def lw_privs_1 : List (MethodName × Nat) := [(⟨"GramFinder", "writeNumber", "(I)V"⟩, 7), (⟨"GramFinder$Row", "placeOf", "(I)I"⟩, 2), (⟨"GramFinder$Row", "makeRoom", "(I)V"⟩, 2), (⟨"GramFinder$Parser", "fail", "(II)V"⟩, 7), (⟨"GramFinder$Parser", "readAlt", "(I)I"⟩, 7), (⟨"GramFinder$Parser", "readCat", "(I)I"⟩, 7), (⟨"GramFinder$Parser", "peek", "()I"⟩, 7), (⟨"GramFinder$Parser", "readRep", "(I)I"⟩, 7), (⟨"GramFinder$Parser", "readAtom", "(I)I"⟩, 7), (⟨"GramFinder$Parser", "readGroup", "(I)I"⟩, 7), (⟨"GramFinder$Parser", "readClass", "()I"⟩, 7), (⟨"GramFinder$Parser", "readPiece", "(I)V"⟩, 7), (⟨"GramFinder$Tree", "wordOf", "(II)I"⟩, 12), (⟨"GramFinder$Parser", "readOne", "()I"⟩, 7), (⟨"GramFinder$Parser", "readEscape", "()I"⟩, 7), (⟨"GramFinder$Parser", "readDot", "()I"⟩, 7)]
theorem lw_r1 : ∀ q ∈ lw_privs_1, lw_okq q := List.forall_mem_cons.mpr ⟨lw_p0, List.forall_mem_cons.mpr ⟨lw_p1, List.forall_mem_cons.mpr ⟨lw_p2, List.forall_mem_cons.mpr ⟨lw_p3, List.forall_mem_cons.mpr ⟨lw_p4, List.forall_mem_cons.mpr ⟨lw_p5, List.forall_mem_cons.mpr ⟨lw_p6, List.forall_mem_cons.mpr ⟨lw_p7, List.forall_mem_cons.mpr ⟨lw_p8, List.forall_mem_cons.mpr ⟨lw_p9, List.forall_mem_cons.mpr ⟨lw_p10, List.forall_mem_cons.mpr ⟨lw_p11, List.forall_mem_cons.mpr ⟨lw_p12, List.forall_mem_cons.mpr ⟨lw_p13, List.forall_mem_cons.mpr ⟨lw_p14, List.forall_mem_cons.mpr ⟨lw_p15, fun _ h => absurd h List.not_mem_nil⟩⟩⟩⟩⟩⟩⟩⟩⟩⟩⟩⟩⟩⟩⟩⟩
theorem lw_p16 : lw_okq (⟨"GramFinder$Parser", "readPlain", "(I)I"⟩, 7) := ⟨⟨by decide +kernel, by decide +kernel⟩, List.mem_of_getElem? (i := 77) (by decide +kernel), List.mem_of_getElem? (i := 665) (by decide +kernel), List.mem_of_getElem? (i := 666) (by decide +kernel)⟩
theorem lw_p17 : lw_okq (⟨"GramFinder$Parser", "readBraces", "(I)I"⟩, 7) := ⟨⟨by decide +kernel, by decide +kernel⟩, List.mem_of_getElem? (i := 77) (by decide +kernel), List.mem_of_getElem? (i := 683) (by decide +kernel), List.mem_of_getElem? (i := 684) (by decide +kernel)⟩
theorem lw_p18 : lw_okq (⟨"GramFinder$Parser", "readNumber", "()I"⟩, 7) := ⟨⟨by decide +kernel, by decide +kernel⟩, List.mem_of_getElem? (i := 77) (by decide +kernel), List.mem_of_getElem? (i := 687) (by decide +kernel), List.mem_of_getElem? (i := 688) (by decide +kernel)⟩
theorem lw_p19 : lw_okq (⟨"GramFinder$Parser", "readSecondNumber", "(I)I"⟩, 7) := ⟨⟨by decide +kernel, by decide +kernel⟩, List.mem_of_getElem? (i := 77) (by decide +kernel), List.mem_of_getElem? (i := 691) (by decide +kernel), List.mem_of_getElem? (i := 692) (by decide +kernel)⟩
theorem lw_p20 : lw_okq (⟨"GramFinder$Planner", "becomeNothing", "(LGramFinder$Part;)V"⟩, 11) := ⟨⟨by decide +kernel, by decide +kernel⟩, List.mem_of_getElem? (i := 152) (by decide +kernel), List.mem_of_getElem? (i := 713) (by decide +kernel), List.mem_of_getElem? (i := 714) (by decide +kernel)⟩
theorem lw_p21 : lw_okq (⟨"GramFinder$Texts", "compare", "(I[BI)I"⟩, 3) := ⟨⟨by decide +kernel, by decide +kernel⟩, List.mem_of_getElem? (i := 185) (by decide +kernel), List.mem_of_getElem? (i := 725) (by decide +kernel), List.mem_of_getElem? (i := 726) (by decide +kernel)⟩
theorem lw_p22 : lw_okq (⟨"GramFinder$Texts", "moveUp", "(I)V"⟩, 3) := ⟨⟨by decide +kernel, by decide +kernel⟩, List.mem_of_getElem? (i := 185) (by decide +kernel), List.mem_of_getElem? (i := 738) (by decide +kernel), List.mem_of_getElem? (i := 739) (by decide +kernel)⟩
theorem lw_p23 : lw_okq (⟨"GramFinder$Texts", "write", "(I[BI)V"⟩, 3) := ⟨⟨by decide +kernel, by decide +kernel⟩, List.mem_of_getElem? (i := 185) (by decide +kernel), List.mem_of_getElem? (i := 744) (by decide +kernel), List.mem_of_getElem? (i := 745) (by decide +kernel)⟩
theorem lw_p24 : lw_okq (⟨"GramFinder$Planner", "work", "(II)V"⟩, 11) := ⟨⟨by decide +kernel, by decide +kernel⟩, List.mem_of_getElem? (i := 152) (by decide +kernel), List.mem_of_getElem? (i := 765) (by decide +kernel), List.mem_of_getElem? (i := 766) (by decide +kernel)⟩
theorem lw_p25 : lw_okq (⟨"GramFinder$Planner", "workAlt", "(II)V"⟩, 11) := ⟨⟨by decide +kernel, by decide +kernel⟩, List.mem_of_getElem? (i := 152) (by decide +kernel), List.mem_of_getElem? (i := 773) (by decide +kernel), List.mem_of_getElem? (i := 774) (by decide +kernel)⟩
theorem lw_p26 : lw_okq (⟨"GramFinder$Planner", "part", "(I)LGramFinder$Part;"⟩, 11) := ⟨⟨by decide +kernel, by decide +kernel⟩, List.mem_of_getElem? (i := 152) (by decide +kernel), List.mem_of_getElem? (i := 785) (by decide +kernel), List.mem_of_getElem? (i := 786) (by decide +kernel)⟩
theorem lw_p27 : lw_okq (⟨"GramFinder$Planner", "alternate", "(LGramFinder$Part;LGramFinder$Part;)V"⟩, 11) := ⟨⟨by decide +kernel, by decide +kernel⟩, List.mem_of_getElem? (i := 152) (by decide +kernel), List.mem_of_getElem? (i := 791) (by decide +kernel), List.mem_of_getElem? (i := 792) (by decide +kernel)⟩
theorem lw_p28 : lw_okq (⟨"GramFinder$Planner", "unite", "(LGramFinder$Texts;LGramFinder$Texts;)Z"⟩, 11) := ⟨⟨by decide +kernel, by decide +kernel⟩, List.mem_of_getElem? (i := 152) (by decide +kernel), List.mem_of_getElem? (i := 795) (by decide +kernel), List.mem_of_getElem? (i := 796) (by decide +kernel)⟩
theorem lw_p29 : lw_okq (⟨"GramFinder$Planner", "unfold", "(LGramFinder$Part;)V"⟩, 11) := ⟨⟨by decide +kernel, by decide +kernel⟩, List.mem_of_getElem? (i := 152) (by decide +kernel), List.mem_of_getElem? (i := 801) (by decide +kernel), List.mem_of_getElem? (i := 802) (by decide +kernel)⟩
theorem lw_p30 : lw_okq (⟨"GramFinder$Planner", "shorten", "(LGramFinder$Row;Z)V"⟩, 11) := ⟨⟨by decide +kernel, by decide +kernel⟩, List.mem_of_getElem? (i := 152) (by decide +kernel), List.mem_of_getElem? (i := 811) (by decide +kernel), List.mem_of_getElem? (i := 812) (by decide +kernel)⟩
theorem lw_p31 : lw_okq (⟨"GramFinder$Planner", "offerGrams", "(LGramFinder$Texts;I)V"⟩, 11) := ⟨⟨by decide +kernel, by decide +kernel⟩, List.mem_of_getElem? (i := 152) (by decide +kernel), List.mem_of_getElem? (i := 840) (by decide +kernel), List.mem_of_getElem? (i := 841) (by decide +kernel)⟩
def lw_privs_2 : List (MethodName × Nat) := [(⟨"GramFinder$Parser", "readPlain", "(I)I"⟩, 7), (⟨"GramFinder$Parser", "readBraces", "(I)I"⟩, 7), (⟨"GramFinder$Parser", "readNumber", "()I"⟩, 7), (⟨"GramFinder$Parser", "readSecondNumber", "(I)I"⟩, 7), (⟨"GramFinder$Planner", "becomeNothing", "(LGramFinder$Part;)V"⟩, 11), (⟨"GramFinder$Texts", "compare", "(I[BI)I"⟩, 3), (⟨"GramFinder$Texts", "moveUp", "(I)V"⟩, 3), (⟨"GramFinder$Texts", "write", "(I[BI)V"⟩, 3), (⟨"GramFinder$Planner", "work", "(II)V"⟩, 11), (⟨"GramFinder$Planner", "workAlt", "(II)V"⟩, 11), (⟨"GramFinder$Planner", "part", "(I)LGramFinder$Part;"⟩, 11), (⟨"GramFinder$Planner", "alternate", "(LGramFinder$Part;LGramFinder$Part;)V"⟩, 11), (⟨"GramFinder$Planner", "unite", "(LGramFinder$Texts;LGramFinder$Texts;)Z"⟩, 11), (⟨"GramFinder$Planner", "unfold", "(LGramFinder$Part;)V"⟩, 11), (⟨"GramFinder$Planner", "shorten", "(LGramFinder$Row;Z)V"⟩, 11), (⟨"GramFinder$Planner", "offerGrams", "(LGramFinder$Texts;I)V"⟩, 11)]
theorem lw_r2 : ∀ q ∈ lw_privs_2, lw_okq q := List.forall_mem_cons.mpr ⟨lw_p16, List.forall_mem_cons.mpr ⟨lw_p17, List.forall_mem_cons.mpr ⟨lw_p18, List.forall_mem_cons.mpr ⟨lw_p19, List.forall_mem_cons.mpr ⟨lw_p20, List.forall_mem_cons.mpr ⟨lw_p21, List.forall_mem_cons.mpr ⟨lw_p22, List.forall_mem_cons.mpr ⟨lw_p23, List.forall_mem_cons.mpr ⟨lw_p24, List.forall_mem_cons.mpr ⟨lw_p25, List.forall_mem_cons.mpr ⟨lw_p26, List.forall_mem_cons.mpr ⟨lw_p27, List.forall_mem_cons.mpr ⟨lw_p28, List.forall_mem_cons.mpr ⟨lw_p29, List.forall_mem_cons.mpr ⟨lw_p30, List.forall_mem_cons.mpr ⟨lw_p31, fun _ h => absurd h List.not_mem_nil⟩⟩⟩⟩⟩⟩⟩⟩⟩⟩⟩⟩⟩⟩⟩⟩
theorem lw_p32 : lw_okq (⟨"GramFinder$Family", "markOf", "(I)J"⟩, 3) := ⟨⟨by decide +kernel, by decide +kernel⟩, List.mem_of_getElem? (i := 160) (by decide +kernel), List.mem_of_getElem? (i := 854) (by decide +kernel), List.mem_of_getElem? (i := 855) (by decide +kernel)⟩
theorem lw_p33 : lw_okq (⟨"GramFinder$Family", "swap", "(II)V"⟩, 3) := ⟨⟨by decide +kernel, by decide +kernel⟩, List.mem_of_getElem? (i := 160) (by decide +kernel), List.mem_of_getElem? (i := 869) (by decide +kernel), List.mem_of_getElem? (i := 870) (by decide +kernel)⟩
theorem lw_p34 : lw_okq (⟨"GramFinder$Planner", "leastInto", "(LGramFinder$Family;)V"⟩, 11) := ⟨⟨by decide +kernel, by decide +kernel⟩, List.mem_of_getElem? (i := 152) (by decide +kernel), List.mem_of_getElem? (i := 889) (by decide +kernel), List.mem_of_getElem? (i := 890) (by decide +kernel)⟩
theorem lw_p35 : lw_okq (⟨"GramFinder$Planner", "workCat", "(II)V"⟩, 11) := ⟨⟨by decide +kernel, by decide +kernel⟩, List.mem_of_getElem? (i := 152) (by decide +kernel), List.mem_of_getElem? (i := 901) (by decide +kernel), List.mem_of_getElem? (i := 902) (by decide +kernel)⟩
theorem lw_p36 : lw_okq (⟨"GramFinder$Planner", "join", "(LGramFinder$Part;LGramFinder$Part;)V"⟩, 11) := ⟨⟨by decide +kernel, by decide +kernel⟩, List.mem_of_getElem? (i := 152) (by decide +kernel), List.mem_of_getElem? (i := 905) (by decide +kernel), List.mem_of_getElem? (i := 906) (by decide +kernel)⟩
theorem lw_p37 : lw_okq (⟨"GramFinder$Planner", "multiply", "(LGramFinder$Texts;LGramFinder$Texts;)Z"⟩, 11) := ⟨⟨by decide +kernel, by decide +kernel⟩, List.mem_of_getElem? (i := 152) (by decide +kernel), List.mem_of_getElem? (i := 909) (by decide +kernel), List.mem_of_getElem? (i := 910) (by decide +kernel)⟩
theorem lw_p38 : lw_okq (⟨"GramFinder$Planner", "cross", "(LGramFinder$Row;LGramFinder$Row;)V"⟩, 11) := ⟨⟨by decide +kernel, by decide +kernel⟩, List.mem_of_getElem? (i := 152) (by decide +kernel), List.mem_of_getElem? (i := 913) (by decide +kernel), List.mem_of_getElem? (i := 914) (by decide +kernel)⟩
theorem lw_p39 : lw_okq (⟨"GramFinder$Planner", "offerCrossing", "(II)V"⟩, 11) := ⟨⟨by decide +kernel, by decide +kernel⟩, List.mem_of_getElem? (i := 152) (by decide +kernel), List.mem_of_getElem? (i := 917) (by decide +kernel), List.mem_of_getElem? (i := 918) (by decide +kernel)⟩
theorem lw_p40 : lw_okq (⟨"GramFinder$Planner", "joinHeads", "(LGramFinder$Part;LGramFinder$Row;)V"⟩, 11) := ⟨⟨by decide +kernel, by decide +kernel⟩, List.mem_of_getElem? (i := 152) (by decide +kernel), List.mem_of_getElem? (i := 921) (by decide +kernel), List.mem_of_getElem? (i := 922) (by decide +kernel)⟩
theorem lw_p41 : lw_okq (⟨"GramFinder$Planner", "joinTails", "(LGramFinder$Part;LGramFinder$Texts;)V"⟩, 11) := ⟨⟨by decide +kernel, by decide +kernel⟩, List.mem_of_getElem? (i := 152) (by decide +kernel), List.mem_of_getElem? (i := 928) (by decide +kernel), List.mem_of_getElem? (i := 929) (by decide +kernel)⟩
theorem lw_p42 : lw_okq (⟨"GramFinder$Planner", "both", "(LGramFinder$Family;LGramFinder$Family;)V"⟩, 11) := ⟨⟨by decide +kernel, by decide +kernel⟩, List.mem_of_getElem? (i := 152) (by decide +kernel), List.mem_of_getElem? (i := 932) (by decide +kernel), List.mem_of_getElem? (i := 933) (by decide +kernel)⟩
theorem lw_p43 : lw_okq (⟨"GramFinder$Planner", "bothByCore", "(LGramFinder$Family;LGramFinder$Family;)V"⟩, 11) := ⟨⟨by decide +kernel, by decide +kernel⟩, List.mem_of_getElem? (i := 152) (by decide +kernel), List.mem_of_getElem? (i := 941) (by decide +kernel), List.mem_of_getElem? (i := 942) (by decide +kernel)⟩
theorem lw_p44 : lw_okq (⟨"GramFinder$Planner", "workRepeat", "(II)V"⟩, 11) := ⟨⟨by decide +kernel, by decide +kernel⟩, List.mem_of_getElem? (i := 152) (by decide +kernel), List.mem_of_getElem? (i := 945) (by decide +kernel), List.mem_of_getElem? (i := 946) (by decide +kernel)⟩
theorem lw_p45 : lw_okq (⟨"GramFinder$Planner", "becomeShut", "(LGramFinder$Part;)V"⟩, 11) := ⟨⟨by decide +kernel, by decide +kernel⟩, List.mem_of_getElem? (i := 152) (by decide +kernel), List.mem_of_getElem? (i := 957) (by decide +kernel), List.mem_of_getElem? (i := 958) (by decide +kernel)⟩
theorem lw_p46 : lw_okq (⟨"GramFinder$Planner", "workBytes", "(ILGramFinder$Part;)V"⟩, 11) := ⟨⟨by decide +kernel, by decide +kernel⟩, List.mem_of_getElem? (i := 152) (by decide +kernel), List.mem_of_getElem? (i := 973) (by decide +kernel), List.mem_of_getElem? (i := 974) (by decide +kernel)⟩
theorem lw_p47 : lw_okq (⟨"GramFinder$Machine", "newState", "(IIII)I"⟩, 17) := ⟨⟨by decide +kernel, by decide +kernel⟩, List.mem_of_getElem? (i := 280) (by decide +kernel), List.mem_of_getElem? (i := 1004) (by decide +kernel), List.mem_of_getElem? (i := 1005) (by decide +kernel)⟩
def lw_privs_3 : List (MethodName × Nat) := [(⟨"GramFinder$Family", "markOf", "(I)J"⟩, 3), (⟨"GramFinder$Family", "swap", "(II)V"⟩, 3), (⟨"GramFinder$Planner", "leastInto", "(LGramFinder$Family;)V"⟩, 11), (⟨"GramFinder$Planner", "workCat", "(II)V"⟩, 11), (⟨"GramFinder$Planner", "join", "(LGramFinder$Part;LGramFinder$Part;)V"⟩, 11), (⟨"GramFinder$Planner", "multiply", "(LGramFinder$Texts;LGramFinder$Texts;)Z"⟩, 11), (⟨"GramFinder$Planner", "cross", "(LGramFinder$Row;LGramFinder$Row;)V"⟩, 11), (⟨"GramFinder$Planner", "offerCrossing", "(II)V"⟩, 11), (⟨"GramFinder$Planner", "joinHeads", "(LGramFinder$Part;LGramFinder$Row;)V"⟩, 11), (⟨"GramFinder$Planner", "joinTails", "(LGramFinder$Part;LGramFinder$Texts;)V"⟩, 11), (⟨"GramFinder$Planner", "both", "(LGramFinder$Family;LGramFinder$Family;)V"⟩, 11), (⟨"GramFinder$Planner", "bothByCore", "(LGramFinder$Family;LGramFinder$Family;)V"⟩, 11), (⟨"GramFinder$Planner", "workRepeat", "(II)V"⟩, 11), (⟨"GramFinder$Planner", "becomeShut", "(LGramFinder$Part;)V"⟩, 11), (⟨"GramFinder$Planner", "workBytes", "(ILGramFinder$Part;)V"⟩, 11), (⟨"GramFinder$Machine", "newState", "(IIII)I"⟩, 17)]
theorem lw_r3 : ∀ q ∈ lw_privs_3, lw_okq q := List.forall_mem_cons.mpr ⟨lw_p32, List.forall_mem_cons.mpr ⟨lw_p33, List.forall_mem_cons.mpr ⟨lw_p34, List.forall_mem_cons.mpr ⟨lw_p35, List.forall_mem_cons.mpr ⟨lw_p36, List.forall_mem_cons.mpr ⟨lw_p37, List.forall_mem_cons.mpr ⟨lw_p38, List.forall_mem_cons.mpr ⟨lw_p39, List.forall_mem_cons.mpr ⟨lw_p40, List.forall_mem_cons.mpr ⟨lw_p41, List.forall_mem_cons.mpr ⟨lw_p42, List.forall_mem_cons.mpr ⟨lw_p43, List.forall_mem_cons.mpr ⟨lw_p44, List.forall_mem_cons.mpr ⟨lw_p45, List.forall_mem_cons.mpr ⟨lw_p46, List.forall_mem_cons.mpr ⟨lw_p47, fun _ h => absurd h List.not_mem_nil⟩⟩⟩⟩⟩⟩⟩⟩⟩⟩⟩⟩⟩⟩⟩⟩
theorem lw_p48 : lw_okq (⟨"GramFinder$Machine", "buildNode", "(III)I"⟩, 17) := ⟨⟨by decide +kernel, by decide +kernel⟩, List.mem_of_getElem? (i := 280) (by decide +kernel), List.mem_of_getElem? (i := 1010) (by decide +kernel), List.mem_of_getElem? (i := 1011) (by decide +kernel)⟩
theorem lw_p49 : lw_okq (⟨"GramFinder$Machine", "buildAlt", "(III)I"⟩, 17) := ⟨⟨by decide +kernel, by decide +kernel⟩, List.mem_of_getElem? (i := 280) (by decide +kernel), List.mem_of_getElem? (i := 1016) (by decide +kernel), List.mem_of_getElem? (i := 1017) (by decide +kernel)⟩
theorem lw_p50 : lw_okq (⟨"GramFinder$Machine", "buildCat", "(III)I"⟩, 17) := ⟨⟨by decide +kernel, by decide +kernel⟩, List.mem_of_getElem? (i := 280) (by decide +kernel), List.mem_of_getElem? (i := 1025) (by decide +kernel), List.mem_of_getElem? (i := 1026) (by decide +kernel)⟩
theorem lw_p51 : lw_okq (⟨"GramFinder$Machine", "buildRepeat", "(III)I"⟩, 17) := ⟨⟨by decide +kernel, by decide +kernel⟩, List.mem_of_getElem? (i := 280) (by decide +kernel), List.mem_of_getElem? (i := 1029) (by decide +kernel), List.mem_of_getElem? (i := 1030) (by decide +kernel)⟩
theorem lw_p52 : lw_okq (⟨"GramFinder$Machine", "spread", "(I)V"⟩, 17) := ⟨⟨by decide +kernel, by decide +kernel⟩, List.mem_of_getElem? (i := 280) (by decide +kernel), List.mem_of_getElem? (i := 1064) (by decide +kernel), List.mem_of_getElem? (i := 1065) (by decide +kernel)⟩
theorem lw_p53 : lw_okq (⟨"GramFinder$Machine", "enter", "(III)V"⟩, 17) := ⟨⟨by decide +kernel, by decide +kernel⟩, List.mem_of_getElem? (i := 280) (by decide +kernel), List.mem_of_getElem? (i := 1069) (by decide +kernel), List.mem_of_getElem? (i := 1070) (by decide +kernel)⟩
theorem lw_p54 : lw_okq (⟨"GramFinder$Machine", "push", "(II)V"⟩, 17) := ⟨⟨by decide +kernel, by decide +kernel⟩, List.mem_of_getElem? (i := 280) (by decide +kernel), List.mem_of_getElem? (i := 1073) (by decide +kernel), List.mem_of_getElem? (i := 1074) (by decide +kernel)⟩
theorem lw_p55 : lw_okq (⟨"GramFinder$Machine", "follow", "(III)V"⟩, 17) := ⟨⟨by decide +kernel, by decide +kernel⟩, List.mem_of_getElem? (i := 280) (by decide +kernel), List.mem_of_getElem? (i := 1077) (by decide +kernel), List.mem_of_getElem? (i := 1078) (by decide +kernel)⟩
theorem lw_p56 : lw_okq (⟨"GramFinder$Machine", "noteMatch", "(II)V"⟩, 17) := ⟨⟨by decide +kernel, by decide +kernel⟩, List.mem_of_getElem? (i := 280) (by decide +kernel), List.mem_of_getElem? (i := 1081) (by decide +kernel), List.mem_of_getElem? (i := 1082) (by decide +kernel)⟩
theorem lw_p57 : lw_okq (⟨"GramFinder$Machine", "holdsAt", "(II)Z"⟩, 17) := ⟨⟨by decide +kernel, by decide +kernel⟩, List.mem_of_getElem? (i := 280) (by decide +kernel), List.mem_of_getElem? (i := 1085) (by decide +kernel), List.mem_of_getElem? (i := 1086) (by decide +kernel)⟩
theorem lw_p58 : lw_okq (⟨"GramFinder$Machine", "step", "(I)V"⟩, 17) := ⟨⟨by decide +kernel, by decide +kernel⟩, List.mem_of_getElem? (i := 280) (by decide +kernel), List.mem_of_getElem? (i := 1091) (by decide +kernel), List.mem_of_getElem? (i := 1092) (by decide +kernel)⟩
theorem lw_p59 : lw_okq (⟨"GramFinderModel", "takes", "(I)V"⟩, 74) := ⟨⟨by decide +kernel, by decide +kernel⟩, List.mem_of_getElem? (i := 1159) (by decide +kernel), List.mem_of_getElem? (i := 1402) (by decide +kernel), List.mem_of_getElem? (i := 1403) (by decide +kernel)⟩
theorem lw_p60 : lw_okq (⟨"GramFinderModel", "isFile", "(I)Z"⟩, 74) := ⟨⟨by decide +kernel, by decide +kernel⟩, List.mem_of_getElem? (i := 1159) (by decide +kernel), List.mem_of_getElem? (i := 1410) (by decide +kernel), List.mem_of_getElem? (i := 1411) (by decide +kernel)⟩
theorem lw_p61 : lw_okq (⟨"GramFinderModel", "leaves", "(I)V"⟩, 74) := ⟨⟨by decide +kernel, by decide +kernel⟩, List.mem_of_getElem? (i := 1159) (by decide +kernel), List.mem_of_getElem? (i := 1414) (by decide +kernel), List.mem_of_getElem? (i := 1415) (by decide +kernel)⟩
theorem lw_p62 : lw_okq (⟨"GramFinderModel", "gramAt", "(I)I"⟩, 74) := ⟨⟨by decide +kernel, by decide +kernel⟩, List.mem_of_getElem? (i := 1159) (by decide +kernel), List.mem_of_getElem? (i := 1434) (by decide +kernel), List.mem_of_getElem? (i := 1435) (by decide +kernel)⟩
theorem lw_p63 : lw_okq (⟨"GramFinderModel", "reads", "()V"⟩, 74) := ⟨⟨by decide +kernel, by decide +kernel⟩, List.mem_of_getElem? (i := 1159) (by decide +kernel), List.mem_of_getElem? (i := 1443) (by decide +kernel), List.mem_of_getElem? (i := 1444) (by decide +kernel)⟩
def lw_privs_4 : List (MethodName × Nat) := [(⟨"GramFinder$Machine", "buildNode", "(III)I"⟩, 17), (⟨"GramFinder$Machine", "buildAlt", "(III)I"⟩, 17), (⟨"GramFinder$Machine", "buildCat", "(III)I"⟩, 17), (⟨"GramFinder$Machine", "buildRepeat", "(III)I"⟩, 17), (⟨"GramFinder$Machine", "spread", "(I)V"⟩, 17), (⟨"GramFinder$Machine", "enter", "(III)V"⟩, 17), (⟨"GramFinder$Machine", "push", "(II)V"⟩, 17), (⟨"GramFinder$Machine", "follow", "(III)V"⟩, 17), (⟨"GramFinder$Machine", "noteMatch", "(II)V"⟩, 17), (⟨"GramFinder$Machine", "holdsAt", "(II)Z"⟩, 17), (⟨"GramFinder$Machine", "step", "(I)V"⟩, 17), (⟨"GramFinderModel", "takes", "(I)V"⟩, 74), (⟨"GramFinderModel", "isFile", "(I)Z"⟩, 74), (⟨"GramFinderModel", "leaves", "(I)V"⟩, 74), (⟨"GramFinderModel", "gramAt", "(I)I"⟩, 74), (⟨"GramFinderModel", "reads", "()V"⟩, 74)]
theorem lw_r4 : ∀ q ∈ lw_privs_4, lw_okq q := List.forall_mem_cons.mpr ⟨lw_p48, List.forall_mem_cons.mpr ⟨lw_p49, List.forall_mem_cons.mpr ⟨lw_p50, List.forall_mem_cons.mpr ⟨lw_p51, List.forall_mem_cons.mpr ⟨lw_p52, List.forall_mem_cons.mpr ⟨lw_p53, List.forall_mem_cons.mpr ⟨lw_p54, List.forall_mem_cons.mpr ⟨lw_p55, List.forall_mem_cons.mpr ⟨lw_p56, List.forall_mem_cons.mpr ⟨lw_p57, List.forall_mem_cons.mpr ⟨lw_p58, List.forall_mem_cons.mpr ⟨lw_p59, List.forall_mem_cons.mpr ⟨lw_p60, List.forall_mem_cons.mpr ⟨lw_p61, List.forall_mem_cons.mpr ⟨lw_p62, List.forall_mem_cons.mpr ⟨lw_p63, fun _ h => absurd h List.not_mem_nil⟩⟩⟩⟩⟩⟩⟩⟩⟩⟩⟩⟩⟩⟩⟩⟩
theorem lw_p64 : lw_okq (⟨"GramFinderModel", "fail", "(II)V"⟩, 74) := ⟨⟨by decide +kernel, by decide +kernel⟩, List.mem_of_getElem? (i := 1159) (by decide +kernel), List.mem_of_getElem? (i := 1447) (by decide +kernel), List.mem_of_getElem? (i := 1448) (by decide +kernel)⟩
theorem lw_p65 : lw_okq (⟨"GramFinderModel", "emit", "(III)V"⟩, 74) := ⟨⟨by decide +kernel, by decide +kernel⟩, List.mem_of_getElem? (i := 1159) (by decide +kernel), List.mem_of_getElem? (i := 1451) (by decide +kernel), List.mem_of_getElem? (i := 1452) (by decide +kernel)⟩
theorem lw_p66 : lw_okq (⟨"GramFinderModel", "readsOne", "()Z"⟩, 74) := ⟨⟨by decide +kernel, by decide +kernel⟩, List.mem_of_getElem? (i := 1159) (by decide +kernel), List.mem_of_getElem? (i := 1455) (by decide +kernel), List.mem_of_getElem? (i := 1456) (by decide +kernel)⟩
theorem lw_p67 : lw_okq (⟨"GramFinderModel", "see", "(I)I"⟩, 74) := ⟨⟨by decide +kernel, by decide +kernel⟩, List.mem_of_getElem? (i := 1159) (by decide +kernel), List.mem_of_getElem? (i := 1459) (by decide +kernel), List.mem_of_getElem? (i := 1460) (by decide +kernel)⟩
theorem lw_p68 : lw_okq (⟨"GramFinderModel", "atom", "(I)Z"⟩, 74) := ⟨⟨by decide +kernel, by decide +kernel⟩, List.mem_of_getElem? (i := 1159) (by decide +kernel), List.mem_of_getElem? (i := 1463) (by decide +kernel), List.mem_of_getElem? (i := 1464) (by decide +kernel)⟩
theorem lw_p69 : lw_okq (⟨"GramFinderModel", "listed", "()Z"⟩, 74) := ⟨⟨by decide +kernel, by decide +kernel⟩, List.mem_of_getElem? (i := 1159) (by decide +kernel), List.mem_of_getElem? (i := 1467) (by decide +kernel), List.mem_of_getElem? (i := 1468) (by decide +kernel)⟩
theorem lw_p70 : lw_okq (⟨"GramFinderModel", "newSet", "()V"⟩, 74) := ⟨⟨by decide +kernel, by decide +kernel⟩, List.mem_of_getElem? (i := 1159) (by decide +kernel), List.mem_of_getElem? (i := 1471) (by decide +kernel), List.mem_of_getElem? (i := 1472) (by decide +kernel)⟩
theorem lw_p71 : lw_okq (⟨"GramFinderModel", "putKind", "(I)V"⟩, 74) := ⟨⟨by decide +kernel, by decide +kernel⟩, List.mem_of_getElem? (i := 1159) (by decide +kernel), List.mem_of_getElem? (i := 1475) (by decide +kernel), List.mem_of_getElem? (i := 1476) (by decide +kernel)⟩
theorem lw_p72 : lw_okq (⟨"GramFinderModel", "put", "(I)V"⟩, 74) := ⟨⟨by decide +kernel, by decide +kernel⟩, List.mem_of_getElem? (i := 1159) (by decide +kernel), List.mem_of_getElem? (i := 1488) (by decide +kernel), List.mem_of_getElem? (i := 1489) (by decide +kernel)⟩
theorem lw_p73 : lw_okq (⟨"GramFinderModel", "piece", "()Z"⟩, 74) := ⟨⟨by decide +kernel, by decide +kernel⟩, List.mem_of_getElem? (i := 1159) (by decide +kernel), List.mem_of_getElem? (i := 1492) (by decide +kernel), List.mem_of_getElem? (i := 1493) (by decide +kernel)⟩
theorem lw_p74 : lw_okq (⟨"GramFinderModel", "one", "()I"⟩, 74) := ⟨⟨by decide +kernel, by decide +kernel⟩, List.mem_of_getElem? (i := 1159) (by decide +kernel), List.mem_of_getElem? (i := 1496) (by decide +kernel), List.mem_of_getElem? (i := 1497) (by decide +kernel)⟩
theorem lw_p75 : lw_okq (⟨"GramFinderModel", "folds", "()V"⟩, 74) := ⟨⟨by decide +kernel, by decide +kernel⟩, List.mem_of_getElem? (i := 1159) (by decide +kernel), List.mem_of_getElem? (i := 1503) (by decide +kernel), List.mem_of_getElem? (i := 1504) (by decide +kernel)⟩
theorem lw_p76 : lw_okq (⟨"GramFinderModel", "has", "(II)Z"⟩, 74) := ⟨⟨by decide +kernel, by decide +kernel⟩, List.mem_of_getElem? (i := 1159) (by decide +kernel), List.mem_of_getElem? (i := 1507) (by decide +kernel), List.mem_of_getElem? (i := 1508) (by decide +kernel)⟩
theorem lw_p77 : lw_okq (⟨"GramFinderModel", "escaped", "()Z"⟩, 74) := ⟨⟨by decide +kernel, by decide +kernel⟩, List.mem_of_getElem? (i := 1159) (by decide +kernel), List.mem_of_getElem? (i := 1511) (by decide +kernel), List.mem_of_getElem? (i := 1512) (by decide +kernel)⟩
theorem lw_p78 : lw_okq (⟨"GramFinderModel", "counted", "()Z"⟩, 74) := ⟨⟨by decide +kernel, by decide +kernel⟩, List.mem_of_getElem? (i := 1159) (by decide +kernel), List.mem_of_getElem? (i := 1518) (by decide +kernel), List.mem_of_getElem? (i := 1519) (by decide +kernel)⟩
theorem lw_p79 : lw_okq (⟨"GramFinderModel", "number", "()I"⟩, 74) := ⟨⟨by decide +kernel, by decide +kernel⟩, List.mem_of_getElem? (i := 1159) (by decide +kernel), List.mem_of_getElem? (i := 1522) (by decide +kernel), List.mem_of_getElem? (i := 1523) (by decide +kernel)⟩
def lw_privs_5 : List (MethodName × Nat) := [(⟨"GramFinderModel", "fail", "(II)V"⟩, 74), (⟨"GramFinderModel", "emit", "(III)V"⟩, 74), (⟨"GramFinderModel", "readsOne", "()Z"⟩, 74), (⟨"GramFinderModel", "see", "(I)I"⟩, 74), (⟨"GramFinderModel", "atom", "(I)Z"⟩, 74), (⟨"GramFinderModel", "listed", "()Z"⟩, 74), (⟨"GramFinderModel", "newSet", "()V"⟩, 74), (⟨"GramFinderModel", "putKind", "(I)V"⟩, 74), (⟨"GramFinderModel", "put", "(I)V"⟩, 74), (⟨"GramFinderModel", "piece", "()Z"⟩, 74), (⟨"GramFinderModel", "one", "()I"⟩, 74), (⟨"GramFinderModel", "folds", "()V"⟩, 74), (⟨"GramFinderModel", "has", "(II)Z"⟩, 74), (⟨"GramFinderModel", "escaped", "()Z"⟩, 74), (⟨"GramFinderModel", "counted", "()Z"⟩, 74), (⟨"GramFinderModel", "number", "()I"⟩, 74)]
theorem lw_r5 : ∀ q ∈ lw_privs_5, lw_okq q := List.forall_mem_cons.mpr ⟨lw_p64, List.forall_mem_cons.mpr ⟨lw_p65, List.forall_mem_cons.mpr ⟨lw_p66, List.forall_mem_cons.mpr ⟨lw_p67, List.forall_mem_cons.mpr ⟨lw_p68, List.forall_mem_cons.mpr ⟨lw_p69, List.forall_mem_cons.mpr ⟨lw_p70, List.forall_mem_cons.mpr ⟨lw_p71, List.forall_mem_cons.mpr ⟨lw_p72, List.forall_mem_cons.mpr ⟨lw_p73, List.forall_mem_cons.mpr ⟨lw_p74, List.forall_mem_cons.mpr ⟨lw_p75, List.forall_mem_cons.mpr ⟨lw_p76, List.forall_mem_cons.mpr ⟨lw_p77, List.forall_mem_cons.mpr ⟨lw_p78, List.forall_mem_cons.mpr ⟨lw_p79, fun _ h => absurd h List.not_mem_nil⟩⟩⟩⟩⟩⟩⟩⟩⟩⟩⟩⟩⟩⟩⟩⟩
theorem lw_p80 : lw_okq (⟨"GramFinderModel", "sized", "()J"⟩, 74) := ⟨⟨by decide +kernel, by decide +kernel⟩, List.mem_of_getElem? (i := 1159) (by decide +kernel), List.mem_of_getElem? (i := 1526) (by decide +kernel), List.mem_of_getElem? (i := 1527) (by decide +kernel)⟩
theorem lw_p81 : lw_okq (⟨"GramFinderModel", "buries", "()V"⟩, 74) := ⟨⟨by decide +kernel, by decide +kernel⟩, List.mem_of_getElem? (i := 1159) (by decide +kernel), List.mem_of_getElem? (i := 1531) (by decide +kernel), List.mem_of_getElem? (i := 1532) (by decide +kernel)⟩
theorem lw_p82 : lw_okq (⟨"GramFinderModel", "isNever", "(I)Z"⟩, 74) := ⟨⟨by decide +kernel, by decide +kernel⟩, List.mem_of_getElem? (i := 1159) (by decide +kernel), List.mem_of_getElem? (i := 1535) (by decide +kernel), List.mem_of_getElem? (i := 1536) (by decide +kernel)⟩
theorem lw_p83 : lw_okq (⟨"GramFinderModel", "wants", "()V"⟩, 74) := ⟨⟨by decide +kernel, by decide +kernel⟩, List.mem_of_getElem? (i := 1159) (by decide +kernel), List.mem_of_getElem? (i := 1539) (by decide +kernel), List.mem_of_getElem? (i := 1540) (by decide +kernel)⟩
theorem lw_p84 : lw_okq (⟨"GramFinderModel", "ofSet", "(II)V"⟩, 74) := ⟨⟨by decide +kernel, by decide +kernel⟩, List.mem_of_getElem? (i := 1159) (by decide +kernel), List.mem_of_getElem? (i := 1543) (by decide +kernel), List.mem_of_getElem? (i := 1544) (by decide +kernel)⟩
theorem lw_p85 : lw_okq (⟨"GramFinderModel", "shuts", "(I)V"⟩, 74) := ⟨⟨by decide +kernel, by decide +kernel⟩, List.mem_of_getElem? (i := 1159) (by decide +kernel), List.mem_of_getElem? (i := 1547) (by decide +kernel), List.mem_of_getElem? (i := 1548) (by decide +kernel)⟩
theorem lw_p86 : lw_okq (⟨"GramFinderModel", "empties", "(I)V"⟩, 74) := ⟨⟨by decide +kernel, by decide +kernel⟩, List.mem_of_getElem? (i := 1159) (by decide +kernel), List.mem_of_getElem? (i := 1551) (by decide +kernel), List.mem_of_getElem? (i := 1552) (by decide +kernel)⟩
theorem lw_p87 : lw_okq (⟨"GramFinderModel", "behind", "(II)V"⟩, 74) := ⟨⟨by decide +kernel, by decide +kernel⟩, List.mem_of_getElem? (i := 1159) (by decide +kernel), List.mem_of_getElem? (i := 1555) (by decide +kernel), List.mem_of_getElem? (i := 1556) (by decide +kernel)⟩
theorem lw_p88 : lw_okq (⟨"GramFinderModel", "joins", "(II)Z"⟩, 74) := ⟨⟨by decide +kernel, by decide +kernel⟩, List.mem_of_getElem? (i := 1159) (by decide +kernel), List.mem_of_getElem? (i := 1559) (by decide +kernel), List.mem_of_getElem? (i := 1560) (by decide +kernel)⟩
theorem lw_p89 : lw_okq (⟨"GramFinderModel", "textByte", "(III)I"⟩, 74) := ⟨⟨by decide +kernel, by decide +kernel⟩, List.mem_of_getElem? (i := 1159) (by decide +kernel), List.mem_of_getElem? (i := 1563) (by decide +kernel), List.mem_of_getElem? (i := 1564) (by decide +kernel)⟩
theorem lw_p90 : lw_okq (⟨"GramFinderModel", "makes", "(I)Z"⟩, 74) := ⟨⟨by decide +kernel, by decide +kernel⟩, List.mem_of_getElem? (i := 1159) (by decide +kernel), List.mem_of_getElem? (i := 1567) (by decide +kernel), List.mem_of_getElem? (i := 1568) (by decide +kernel)⟩
theorem lw_p91 : lw_okq (⟨"GramFinderModel", "isMade", "(II)Z"⟩, 74) := ⟨⟨by decide +kernel, by decide +kernel⟩, List.mem_of_getElem? (i := 1159) (by decide +kernel), List.mem_of_getElem? (i := 1571) (by decide +kernel), List.mem_of_getElem? (i := 1572) (by decide +kernel)⟩
theorem lw_p92 : lw_okq (⟨"GramFinderModel", "copies", "(II)V"⟩, 74) := ⟨⟨by decide +kernel, by decide +kernel⟩, List.mem_of_getElem? (i := 1159) (by decide +kernel), List.mem_of_getElem? (i := 1575) (by decide +kernel), List.mem_of_getElem? (i := 1576) (by decide +kernel)⟩
theorem lw_p93 : lw_okq (⟨"GramFinderModel", "opens", "(I)V"⟩, 74) := ⟨⟨by decide +kernel, by decide +kernel⟩, List.mem_of_getElem? (i := 1159) (by decide +kernel), List.mem_of_getElem? (i := 1579) (by decide +kernel), List.mem_of_getElem? (i := 1580) (by decide +kernel)⟩
theorem lw_p94 : lw_okq (⟨"GramFinderModel", "headOf", "(III)I"⟩, 74) := ⟨⟨by decide +kernel, by decide +kernel⟩, List.mem_of_getElem? (i := 1159) (by decide +kernel), List.mem_of_getElem? (i := 1583) (by decide +kernel), List.mem_of_getElem? (i := 1584) (by decide +kernel)⟩
theorem lw_p95 : lw_okq (⟨"GramFinderModel", "addShort", "(I)V"⟩, 74) := ⟨⟨by decide +kernel, by decide +kernel⟩, List.mem_of_getElem? (i := 1159) (by decide +kernel), List.mem_of_getElem? (i := 1600) (by decide +kernel), List.mem_of_getElem? (i := 1601) (by decide +kernel)⟩
def lw_privs_6 : List (MethodName × Nat) := [(⟨"GramFinderModel", "sized", "()J"⟩, 74), (⟨"GramFinderModel", "buries", "()V"⟩, 74), (⟨"GramFinderModel", "isNever", "(I)Z"⟩, 74), (⟨"GramFinderModel", "wants", "()V"⟩, 74), (⟨"GramFinderModel", "ofSet", "(II)V"⟩, 74), (⟨"GramFinderModel", "shuts", "(I)V"⟩, 74), (⟨"GramFinderModel", "empties", "(I)V"⟩, 74), (⟨"GramFinderModel", "behind", "(II)V"⟩, 74), (⟨"GramFinderModel", "joins", "(II)Z"⟩, 74), (⟨"GramFinderModel", "textByte", "(III)I"⟩, 74), (⟨"GramFinderModel", "makes", "(I)Z"⟩, 74), (⟨"GramFinderModel", "isMade", "(II)Z"⟩, 74), (⟨"GramFinderModel", "copies", "(II)V"⟩, 74), (⟨"GramFinderModel", "opens", "(I)V"⟩, 74), (⟨"GramFinderModel", "headOf", "(III)I"⟩, 74), (⟨"GramFinderModel", "addShort", "(I)V"⟩, 74)]
theorem lw_r6 : ∀ q ∈ lw_privs_6, lw_okq q := List.forall_mem_cons.mpr ⟨lw_p80, List.forall_mem_cons.mpr ⟨lw_p81, List.forall_mem_cons.mpr ⟨lw_p82, List.forall_mem_cons.mpr ⟨lw_p83, List.forall_mem_cons.mpr ⟨lw_p84, List.forall_mem_cons.mpr ⟨lw_p85, List.forall_mem_cons.mpr ⟨lw_p86, List.forall_mem_cons.mpr ⟨lw_p87, List.forall_mem_cons.mpr ⟨lw_p88, List.forall_mem_cons.mpr ⟨lw_p89, List.forall_mem_cons.mpr ⟨lw_p90, List.forall_mem_cons.mpr ⟨lw_p91, List.forall_mem_cons.mpr ⟨lw_p92, List.forall_mem_cons.mpr ⟨lw_p93, List.forall_mem_cons.mpr ⟨lw_p94, List.forall_mem_cons.mpr ⟨lw_p95, fun _ h => absurd h List.not_mem_nil⟩⟩⟩⟩⟩⟩⟩⟩⟩⟩⟩⟩⟩⟩⟩⟩
theorem lw_p96 : lw_okq (⟨"GramFinderModel", "shortsAre", "(IZ)V"⟩, 74) := ⟨⟨by decide +kernel, by decide +kernel⟩, List.mem_of_getElem? (i := 1159) (by decide +kernel), List.mem_of_getElem? (i := 1604) (by decide +kernel), List.mem_of_getElem? (i := 1605) (by decide +kernel)⟩
theorem lw_p97 : lw_okq (⟨"GramFinderModel", "bounds", "(Z)V"⟩, 74) := ⟨⟨by decide +kernel, by decide +kernel⟩, List.mem_of_getElem? (i := 1159) (by decide +kernel), List.mem_of_getElem? (i := 1608) (by decide +kernel), List.mem_of_getElem? (i := 1609) (by decide +kernel)⟩
theorem lw_p98 : lw_okq (⟨"GramFinderModel", "leastShorts", "(Z)V"⟩, 74) := ⟨⟨by decide +kernel, by decide +kernel⟩, List.mem_of_getElem? (i := 1159) (by decide +kernel), List.mem_of_getElem? (i := 1612) (by decide +kernel), List.mem_of_getElem? (i := 1613) (by decide +kernel)⟩
theorem lw_p99 : lw_okq (⟨"GramFinderModel", "tailOf", "(III)I"⟩, 74) := ⟨⟨by decide +kernel, by decide +kernel⟩, List.mem_of_getElem? (i := 1159) (by decide +kernel), List.mem_of_getElem? (i := 1619) (by decide +kernel), List.mem_of_getElem? (i := 1620) (by decide +kernel)⟩
theorem lw_p100 : lw_okq (⟨"GramFinderModel", "ofLongs", "(I)V"⟩, 74) := ⟨⟨by decide +kernel, by decide +kernel⟩, List.mem_of_getElem? (i := 1159) (by decide +kernel), List.mem_of_getElem? (i := 1623) (by decide +kernel), List.mem_of_getElem? (i := 1624) (by decide +kernel)⟩
theorem lw_p101 : lw_okq (⟨"GramFinderModel", "sorted", "(I)I"⟩, 74) := ⟨⟨by decide +kernel, by decide +kernel⟩, List.mem_of_getElem? (i := 1159) (by decide +kernel), List.mem_of_getElem? (i := 1627) (by decide +kernel), List.mem_of_getElem? (i := 1628) (by decide +kernel)⟩
theorem lw_p102 : lw_okq (⟨"GramFinderModel", "least", "(I)V"⟩, 74) := ⟨⟨by decide +kernel, by decide +kernel⟩, List.mem_of_getElem? (i := 1159) (by decide +kernel), List.mem_of_getElem? (i := 1631) (by decide +kernel), List.mem_of_getElem? (i := 1632) (by decide +kernel)⟩
theorem lw_p103 : lw_okq (⟨"GramFinderModel", "leastPairs", "()I"⟩, 74) := ⟨⟨by decide +kernel, by decide +kernel⟩, List.mem_of_getElem? (i := 1159) (by decide +kernel), List.mem_of_getElem? (i := 1635) (by decide +kernel), List.mem_of_getElem? (i := 1636) (by decide +kernel)⟩
theorem lw_p104 : lw_okq (⟨"GramFinderModel", "isWithin", "(II)Z"⟩, 74) := ⟨⟨by decide +kernel, by decide +kernel⟩, List.mem_of_getElem? (i := 1159) (by decide +kernel), List.mem_of_getElem? (i := 1639) (by decide +kernel), List.mem_of_getElem? (i := 1640) (by decide +kernel)⟩
theorem lw_p105 : lw_okq (⟨"GramFinderModel", "cores", "(I)V"⟩, 74) := ⟨⟨by decide +kernel, by decide +kernel⟩, List.mem_of_getElem? (i := 1159) (by decide +kernel), List.mem_of_getElem? (i := 1643) (by decide +kernel), List.mem_of_getElem? (i := 1644) (by decide +kernel)⟩
theorem lw_p106 : lw_okq (⟨"GramFinderModel", "both", "(III)V"⟩, 74) := ⟨⟨by decide +kernel, by decide +kernel⟩, List.mem_of_getElem? (i := 1159) (by decide +kernel), List.mem_of_getElem? (i := 1647) (by decide +kernel), List.mem_of_getElem? (i := 1648) (by decide +kernel)⟩
theorem lw_p107 : lw_okq (⟨"GramFinderModel", "addBoth", "(IIII)V"⟩, 74) := ⟨⟨by decide +kernel, by decide +kernel⟩, List.mem_of_getElem? (i := 1159) (by decide +kernel), List.mem_of_getElem? (i := 1651) (by decide +kernel), List.mem_of_getElem? (i := 1652) (by decide +kernel)⟩
theorem lw_p108 : lw_okq (⟨"GramFinderModel", "coreOf", "(I)V"⟩, 74) := ⟨⟨by decide +kernel, by decide +kernel⟩, List.mem_of_getElem? (i := 1159) (by decide +kernel), List.mem_of_getElem? (i := 1655) (by decide +kernel), List.mem_of_getElem? (i := 1656) (by decide +kernel)⟩
theorem lw_p109 : lw_okq (⟨"GramFinderModel", "addChoice", "(II)V"⟩, 74) := ⟨⟨by decide +kernel, by decide +kernel⟩, List.mem_of_getElem? (i := 1159) (by decide +kernel), List.mem_of_getElem? (i := 1659) (by decide +kernel), List.mem_of_getElem? (i := 1660) (by decide +kernel)⟩
theorem lw_p110 : lw_okq (⟨"GramFinderModel", "meets", "(II)V"⟩, 74) := ⟨⟨by decide +kernel, by decide +kernel⟩, List.mem_of_getElem? (i := 1159) (by decide +kernel), List.mem_of_getElem? (i := 1663) (by decide +kernel), List.mem_of_getElem? (i := 1664) (by decide +kernel)⟩
theorem lw_p111 : lw_okq (⟨"GramFinderModel", "or", "(II)V"⟩, 74) := ⟨⟨by decide +kernel, by decide +kernel⟩, List.mem_of_getElem? (i := 1159) (by decide +kernel), List.mem_of_getElem? (i := 1667) (by decide +kernel), List.mem_of_getElem? (i := 1668) (by decide +kernel)⟩
def lw_privs_7 : List (MethodName × Nat) := [(⟨"GramFinderModel", "shortsAre", "(IZ)V"⟩, 74), (⟨"GramFinderModel", "bounds", "(Z)V"⟩, 74), (⟨"GramFinderModel", "leastShorts", "(Z)V"⟩, 74), (⟨"GramFinderModel", "tailOf", "(III)I"⟩, 74), (⟨"GramFinderModel", "ofLongs", "(I)V"⟩, 74), (⟨"GramFinderModel", "sorted", "(I)I"⟩, 74), (⟨"GramFinderModel", "least", "(I)V"⟩, 74), (⟨"GramFinderModel", "leastPairs", "()I"⟩, 74), (⟨"GramFinderModel", "isWithin", "(II)Z"⟩, 74), (⟨"GramFinderModel", "cores", "(I)V"⟩, 74), (⟨"GramFinderModel", "both", "(III)V"⟩, 74), (⟨"GramFinderModel", "addBoth", "(IIII)V"⟩, 74), (⟨"GramFinderModel", "coreOf", "(I)V"⟩, 74), (⟨"GramFinderModel", "addChoice", "(II)V"⟩, 74), (⟨"GramFinderModel", "meets", "(II)V"⟩, 74), (⟨"GramFinderModel", "or", "(II)V"⟩, 74)]
theorem lw_r7 : ∀ q ∈ lw_privs_7, lw_okq q := List.forall_mem_cons.mpr ⟨lw_p96, List.forall_mem_cons.mpr ⟨lw_p97, List.forall_mem_cons.mpr ⟨lw_p98, List.forall_mem_cons.mpr ⟨lw_p99, List.forall_mem_cons.mpr ⟨lw_p100, List.forall_mem_cons.mpr ⟨lw_p101, List.forall_mem_cons.mpr ⟨lw_p102, List.forall_mem_cons.mpr ⟨lw_p103, List.forall_mem_cons.mpr ⟨lw_p104, List.forall_mem_cons.mpr ⟨lw_p105, List.forall_mem_cons.mpr ⟨lw_p106, List.forall_mem_cons.mpr ⟨lw_p107, List.forall_mem_cons.mpr ⟨lw_p108, List.forall_mem_cons.mpr ⟨lw_p109, List.forall_mem_cons.mpr ⟨lw_p110, List.forall_mem_cons.mpr ⟨lw_p111, fun _ h => absurd h List.not_mem_nil⟩⟩⟩⟩⟩⟩⟩⟩⟩⟩⟩⟩⟩⟩⟩⟩
theorem lw_p112 : lw_okq (⟨"GramFinderModel", "either", "(III)V"⟩, 74) := ⟨⟨by decide +kernel, by decide +kernel⟩, List.mem_of_getElem? (i := 1159) (by decide +kernel), List.mem_of_getElem? (i := 1671) (by decide +kernel), List.mem_of_getElem? (i := 1672) (by decide +kernel)⟩
theorem lw_p113 : lw_okq (⟨"GramFinderModel", "openOnly", "(I)V"⟩, 74) := ⟨⟨by decide +kernel, by decide +kernel⟩, List.mem_of_getElem? (i := 1159) (by decide +kernel), List.mem_of_getElem? (i := 1675) (by decide +kernel), List.mem_of_getElem? (i := 1676) (by decide +kernel)⟩
theorem lw_p114 : lw_okq (⟨"GramFinderModel", "may", "(I)V"⟩, 74) := ⟨⟨by decide +kernel, by decide +kernel⟩, List.mem_of_getElem? (i := 1159) (by decide +kernel), List.mem_of_getElem? (i := 1679) (by decide +kernel), List.mem_of_getElem? (i := 1680) (by decide +kernel)⟩
theorem lw_p115 : lw_okq (⟨"GramFinderModel", "times", "(III)V"⟩, 74) := ⟨⟨by decide +kernel, by decide +kernel⟩, List.mem_of_getElem? (i := 1159) (by decide +kernel), List.mem_of_getElem? (i := 1683) (by decide +kernel), List.mem_of_getElem? (i := 1684) (by decide +kernel)⟩
theorem lw_p116 : lw_okq (⟨"GramFinderModel", "tells", "()V"⟩, 74) := ⟨⟨by decide +kernel, by decide +kernel⟩, List.mem_of_getElem? (i := 1159) (by decide +kernel), List.mem_of_getElem? (i := 1687) (by decide +kernel), List.mem_of_getElem? (i := 1688) (by decide +kernel)⟩
theorem lw_p117 : lw_okq (⟨"GramFinderModel", "tellsChoices", "()V"⟩, 74) := ⟨⟨by decide +kernel, by decide +kernel⟩, List.mem_of_getElem? (i := 1159) (by decide +kernel), List.mem_of_getElem? (i := 1691) (by decide +kernel), List.mem_of_getElem? (i := 1692) (by decide +kernel)⟩
theorem lw_p118 : lw_okq (⟨"GramFinderModel", "isAhead", "(II)Z"⟩, 74) := ⟨⟨by decide +kernel, by decide +kernel⟩, List.mem_of_getElem? (i := 1159) (by decide +kernel), List.mem_of_getElem? (i := 1695) (by decide +kernel), List.mem_of_getElem? (i := 1696) (by decide +kernel)⟩
theorem lw_p119 : lw_okq (⟨"GramFinderModel", "tellsTexts", "(I)V"⟩, 74) := ⟨⟨by decide +kernel, by decide +kernel⟩, List.mem_of_getElem? (i := 1159) (by decide +kernel), List.mem_of_getElem? (i := 1699) (by decide +kernel), List.mem_of_getElem? (i := 1700) (by decide +kernel)⟩
theorem lw_p120 : lw_okq (⟨"GramFinderModel", "isTextAhead", "(II)Z"⟩, 74) := ⟨⟨by decide +kernel, by decide +kernel⟩, List.mem_of_getElem? (i := 1159) (by decide +kernel), List.mem_of_getElem? (i := 1703) (by decide +kernel), List.mem_of_getElem? (i := 1704) (by decide +kernel)⟩
theorem lw_p121 : lw_okq (⟨"GramFinderModel", "addLong", "(I)V"⟩, 74) := ⟨⟨by decide +kernel, by decide +kernel⟩, List.mem_of_getElem? (i := 1159) (by decide +kernel), List.mem_of_getElem? (i := 1707) (by decide +kernel), List.mem_of_getElem? (i := 1708) (by decide +kernel)⟩
theorem lw_p122 : lw_okq (⟨"GramFinderModel", "meetsWant", "(I)Z"⟩, 74) := ⟨⟨by decide +kernel, by decide +kernel⟩, List.mem_of_getElem? (i := 1159) (by decide +kernel), List.mem_of_getElem? (i := 1711) (by decide +kernel), List.mem_of_getElem? (i := 1712) (by decide +kernel)⟩
theorem lw_p123 : lw_okq (⟨"GramFinderModel", "gathers", "(II)I"⟩, 74) := ⟨⟨by decide +kernel, by decide +kernel⟩, List.mem_of_getElem? (i := 1159) (by decide +kernel), List.mem_of_getElem? (i := 1715) (by decide +kernel), List.mem_of_getElem? (i := 1716) (by decide +kernel)⟩
theorem lw_p124 : lw_okq (⟨"GramFinderModel", "isInRow", "(II)Z"⟩, 74) := ⟨⟨by decide +kernel, by decide +kernel⟩, List.mem_of_getElem? (i := 1159) (by decide +kernel), List.mem_of_getElem? (i := 1719) (by decide +kernel), List.mem_of_getElem? (i := 1720) (by decide +kernel)⟩
theorem lw_p125 : lw_okq (⟨"GramFinderModel", "looks", "(I)V"⟩, 74) := ⟨⟨by decide +kernel, by decide +kernel⟩, List.mem_of_getElem? (i := 1159) (by decide +kernel), List.mem_of_getElem? (i := 1723) (by decide +kernel), List.mem_of_getElem? (i := 1724) (by decide +kernel)⟩
theorem lw_p126 : lw_okq (⟨"GramFinderModel", "marks", "(I)V"⟩, 74) := ⟨⟨by decide +kernel, by decide +kernel⟩, List.mem_of_getElem? (i := 1159) (by decide +kernel), List.mem_of_getElem? (i := 1727) (by decide +kernel), List.mem_of_getElem? (i := 1728) (by decide +kernel)⟩
theorem lw_p127 : lw_okq (⟨"GramFinderModel", "mark", "([JII)V"⟩, 74) := ⟨⟨by decide +kernel, by decide +kernel⟩, List.mem_of_getElem? (i := 1159) (by decide +kernel), List.mem_of_getElem? (i := 1731) (by decide +kernel), List.mem_of_getElem? (i := 1732) (by decide +kernel)⟩
def lw_privs_8 : List (MethodName × Nat) := [(⟨"GramFinderModel", "either", "(III)V"⟩, 74), (⟨"GramFinderModel", "openOnly", "(I)V"⟩, 74), (⟨"GramFinderModel", "may", "(I)V"⟩, 74), (⟨"GramFinderModel", "times", "(III)V"⟩, 74), (⟨"GramFinderModel", "tells", "()V"⟩, 74), (⟨"GramFinderModel", "tellsChoices", "()V"⟩, 74), (⟨"GramFinderModel", "isAhead", "(II)Z"⟩, 74), (⟨"GramFinderModel", "tellsTexts", "(I)V"⟩, 74), (⟨"GramFinderModel", "isTextAhead", "(II)Z"⟩, 74), (⟨"GramFinderModel", "addLong", "(I)V"⟩, 74), (⟨"GramFinderModel", "meetsWant", "(I)Z"⟩, 74), (⟨"GramFinderModel", "gathers", "(II)I"⟩, 74), (⟨"GramFinderModel", "isInRow", "(II)Z"⟩, 74), (⟨"GramFinderModel", "looks", "(I)V"⟩, 74), (⟨"GramFinderModel", "marks", "(I)V"⟩, 74), (⟨"GramFinderModel", "mark", "([JII)V"⟩, 74)]
theorem lw_r8 : ∀ q ∈ lw_privs_8, lw_okq q := List.forall_mem_cons.mpr ⟨lw_p112, List.forall_mem_cons.mpr ⟨lw_p113, List.forall_mem_cons.mpr ⟨lw_p114, List.forall_mem_cons.mpr ⟨lw_p115, List.forall_mem_cons.mpr ⟨lw_p116, List.forall_mem_cons.mpr ⟨lw_p117, List.forall_mem_cons.mpr ⟨lw_p118, List.forall_mem_cons.mpr ⟨lw_p119, List.forall_mem_cons.mpr ⟨lw_p120, List.forall_mem_cons.mpr ⟨lw_p121, List.forall_mem_cons.mpr ⟨lw_p122, List.forall_mem_cons.mpr ⟨lw_p123, List.forall_mem_cons.mpr ⟨lw_p124, List.forall_mem_cons.mpr ⟨lw_p125, List.forall_mem_cons.mpr ⟨lw_p126, List.forall_mem_cons.mpr ⟨lw_p127, fun _ h => absurd h List.not_mem_nil⟩⟩⟩⟩⟩⟩⟩⟩⟩⟩⟩⟩⟩⟩⟩⟩
theorem lw_p128 : lw_okq (⟨"GramFinderModel", "isWordAt", "(II)Z"⟩, 74) := ⟨⟨by decide +kernel, by decide +kernel⟩, List.mem_of_getElem? (i := 1159) (by decide +kernel), List.mem_of_getElem? (i := 1735) (by decide +kernel), List.mem_of_getElem? (i := 1736) (by decide +kernel)⟩
theorem lw_p129 : lw_okq (⟨"GramFinderModel", "codes", "(Z)V"⟩, 74) := ⟨⟨by decide +kernel, by decide +kernel⟩, List.mem_of_getElem? (i := 1159) (by decide +kernel), List.mem_of_getElem? (i := 1739) (by decide +kernel), List.mem_of_getElem? (i := 1740) (by decide +kernel)⟩
theorem lw_p130 : lw_okq (⟨"GramFinderModel", "code", "(II)V"⟩, 74) := ⟨⟨by decide +kernel, by decide +kernel⟩, List.mem_of_getElem? (i := 1159) (by decide +kernel), List.mem_of_getElem? (i := 1743) (by decide +kernel), List.mem_of_getElem? (i := 1744) (by decide +kernel)⟩
theorem lw_p131 : lw_okq (⟨"GramFinderModel", "turns", "(II)V"⟩, 74) := ⟨⟨by decide +kernel, by decide +kernel⟩, List.mem_of_getElem? (i := 1159) (by decide +kernel), List.mem_of_getElem? (i := 1747) (by decide +kernel), List.mem_of_getElem? (i := 1748) (by decide +kernel)⟩
theorem lw_p132 : lw_okq (⟨"GramFinderModel", "inserts", "(II)V"⟩, 74) := ⟨⟨by decide +kernel, by decide +kernel⟩, List.mem_of_getElem? (i := 1159) (by decide +kernel), List.mem_of_getElem? (i := 1751) (by decide +kernel), List.mem_of_getElem? (i := 1752) (by decide +kernel)⟩
theorem lw_p133 : lw_okq (⟨"GramFinderModel", "rounds", "(II)V"⟩, 74) := ⟨⟨by decide +kernel, by decide +kernel⟩, List.mem_of_getElem? (i := 1159) (by decide +kernel), List.mem_of_getElem? (i := 1755) (by decide +kernel), List.mem_of_getElem? (i := 1756) (by decide +kernel)⟩
theorem lw_p134 : lw_okq (⟨"GramFinderModel", "mays", "(I)V"⟩, 74) := ⟨⟨by decide +kernel, by decide +kernel⟩, List.mem_of_getElem? (i := 1159) (by decide +kernel), List.mem_of_getElem? (i := 1759) (by decide +kernel), List.mem_of_getElem? (i := 1760) (by decide +kernel)⟩
theorem lw_p135 : lw_okq (⟨"GramFinderModel", "codesTimes", "(III)V"⟩, 74) := ⟨⟨by decide +kernel, by decide +kernel⟩, List.mem_of_getElem? (i := 1159) (by decide +kernel), List.mem_of_getElem? (i := 1763) (by decide +kernel), List.mem_of_getElem? (i := 1764) (by decide +kernel)⟩
theorem lw_p136 : lw_okq (⟨"GramFinderModel", "again", "(I)V"⟩, 74) := ⟨⟨by decide +kernel, by decide +kernel⟩, List.mem_of_getElem? (i := 1159) (by decide +kernel), List.mem_of_getElem? (i := 1767) (by decide +kernel), List.mem_of_getElem? (i := 1768) (by decide +kernel)⟩
theorem lw_p137 : lw_okq (⟨"GramFinderModel", "leads", "(Z)V"⟩, 74) := ⟨⟨by decide +kernel, by decide +kernel⟩, List.mem_of_getElem? (i := 1159) (by decide +kernel), List.mem_of_getElem? (i := 1771) (by decide +kernel), List.mem_of_getElem? (i := 1772) (by decide +kernel)⟩
theorem lw_p138 : lw_okq (⟨"GramFinderModel", "moves", "(IIZ)V"⟩, 74) := ⟨⟨by decide +kernel, by decide +kernel⟩, List.mem_of_getElem? (i := 1159) (by decide +kernel), List.mem_of_getElem? (i := 1775) (by decide +kernel), List.mem_of_getElem? (i := 1776) (by decide +kernel)⟩
theorem lw_p139 : lw_okq (⟨"GramFinderModel", "doubles", "(IZ)V"⟩, 74) := ⟨⟨by decide +kernel, by decide +kernel⟩, List.mem_of_getElem? (i := 1159) (by decide +kernel), List.mem_of_getElem? (i := 1779) (by decide +kernel), List.mem_of_getElem? (i := 1780) (by decide +kernel)⟩
theorem lw_p140 : lw_okq (⟨"GramFinderModel", "news", "(I)Z"⟩, 74) := ⟨⟨by decide +kernel, by decide +kernel⟩, List.mem_of_getElem? (i := 1159) (by decide +kernel), List.mem_of_getElem? (i := 1783) (by decide +kernel), List.mem_of_getElem? (i := 1784) (by decide +kernel)⟩
theorem lw_p141 : lw_okq (⟨"GramFinderModel", "isAt", "(I)Z"⟩, 74) := ⟨⟨by decide +kernel, by decide +kernel⟩, List.mem_of_getElem? (i := 1159) (by decide +kernel), List.mem_of_getElem? (i := 1788) (by decide +kernel), List.mem_of_getElem? (i := 1789) (by decide +kernel)⟩
theorem lw_p142 : lw_okq (⟨"GramFinderModel", "gramsOf", "(Z)I"⟩, 74) := ⟨⟨by decide +kernel, by decide +kernel⟩, List.mem_of_getElem? (i := 1159) (by decide +kernel), List.mem_of_getElem? (i := 1824) (by decide +kernel), List.mem_of_getElem? (i := 1825) (by decide +kernel)⟩
def lw_privs_9 : List (MethodName × Nat) := [(⟨"GramFinderModel", "isWordAt", "(II)Z"⟩, 74), (⟨"GramFinderModel", "codes", "(Z)V"⟩, 74), (⟨"GramFinderModel", "code", "(II)V"⟩, 74), (⟨"GramFinderModel", "turns", "(II)V"⟩, 74), (⟨"GramFinderModel", "inserts", "(II)V"⟩, 74), (⟨"GramFinderModel", "rounds", "(II)V"⟩, 74), (⟨"GramFinderModel", "mays", "(I)V"⟩, 74), (⟨"GramFinderModel", "codesTimes", "(III)V"⟩, 74), (⟨"GramFinderModel", "again", "(I)V"⟩, 74), (⟨"GramFinderModel", "leads", "(Z)V"⟩, 74), (⟨"GramFinderModel", "moves", "(IIZ)V"⟩, 74), (⟨"GramFinderModel", "doubles", "(IZ)V"⟩, 74), (⟨"GramFinderModel", "news", "(I)Z"⟩, 74), (⟨"GramFinderModel", "isAt", "(I)Z"⟩, 74), (⟨"GramFinderModel", "gramsOf", "(Z)I"⟩, 74)]
theorem lw_r9 : ∀ q ∈ lw_privs_9, lw_okq q := List.forall_mem_cons.mpr ⟨lw_p128, List.forall_mem_cons.mpr ⟨lw_p129, List.forall_mem_cons.mpr ⟨lw_p130, List.forall_mem_cons.mpr ⟨lw_p131, List.forall_mem_cons.mpr ⟨lw_p132, List.forall_mem_cons.mpr ⟨lw_p133, List.forall_mem_cons.mpr ⟨lw_p134, List.forall_mem_cons.mpr ⟨lw_p135, List.forall_mem_cons.mpr ⟨lw_p136, List.forall_mem_cons.mpr ⟨lw_p137, List.forall_mem_cons.mpr ⟨lw_p138, List.forall_mem_cons.mpr ⟨lw_p139, List.forall_mem_cons.mpr ⟨lw_p140, List.forall_mem_cons.mpr ⟨lw_p141, List.forall_mem_cons.mpr ⟨lw_p142, fun _ h => absurd h List.not_mem_nil⟩⟩⟩⟩⟩⟩⟩⟩⟩⟩⟩⟩⟩⟩⟩
def lw_privs : List (MethodName × Nat) := lw_privs_1 ++ (lw_privs_2 ++ (lw_privs_3 ++ (lw_privs_4 ++ (lw_privs_5 ++ (lw_privs_6 ++ (lw_privs_7 ++ (lw_privs_8 ++ (lw_privs_9))))))))
def lw_tbl : List Cond := k2_sels lw_privs ++ tables_1
theorem lw_privs_ok : ∀ q ∈ lw_privs, lw_okq q := by
  show ∀ q ∈ lw_privs_1 ++ (lw_privs_2 ++ (lw_privs_3 ++ (lw_privs_4 ++ (lw_privs_5 ++ (lw_privs_6 ++ (lw_privs_7 ++ (lw_privs_8 ++ (lw_privs_9)))))))), lw_okq q
  exact List.forall_mem_append.mpr ⟨lw_r1, List.forall_mem_append.mpr ⟨lw_r2, List.forall_mem_append.mpr ⟨lw_r3, List.forall_mem_append.mpr ⟨lw_r4, List.forall_mem_append.mpr ⟨lw_r5, List.forall_mem_append.mpr ⟨lw_r6, List.forall_mem_append.mpr ⟨lw_r7, List.forall_mem_append.mpr ⟨lw_r8, lw_r9⟩⟩⟩⟩⟩⟩⟩⟩
end
section
/-! EV: a small evaluator of bytecode over an abstract heap (a list of cells; a reference is a place in it). Its steps are shown to be the machine's (part 04 on); what it computes can be computed by the kernel, or reasoned of without the machine. -/
abbrev E_O : Type := (Nat × vp_A) ⊕ (Nat × List Value)
abbrev E_H : Type := List E_O
abbrev E_L : Type := List (Nat × Value)
abbrev E_F : Type := Nat × E_L × List Value
/-- a row of code: pc, instruction, its length, two numbers that its operand stands for -/
abbrev E_C : Type := Nat × Instr × Nat × Nat × Nat
/-- a method: its class, name, bytes, locals, answer, static or not, how many arguments, code -/
abbrev E_MI : Type := Nat × MethodName × ByteArray × Nat × Option FieldType × Bool × Nat × List E_C
/-- the arrays' component types -/
def E_ATY : List FieldType := [.int, .byte, .boolean, .long, .object "GramFinder$Row", .object "GramFinder$Part", .object "GramFinder$Entry", .array .byte]
def E_lk (L : E_L) (i : Nat) : Option Value := match L with
  | [] => none
  | q :: t => if q.1 = i then some q.2 else E_lk t i
def E_s1 (L : E_L) (i : Nat) (v : Value) : E_L := (i, v) :: L.filter (fun q => !(q.1 == i) && !(q.1 + 1 == i && q.2.category == 2))
def E_s2 (L : E_L) (i : Nat) (v : Value) : E_L := (i, v) :: L.filter (fun q => !(q.1 == i) && (!(q.1 == i + 1) && !(q.1 + 1 == i && q.2.category == 2)))
def E_tg (pc : Nat) (off : Int) : Nat := ((pc : Int) + off).toNat
def E_tok (pc : Nat) (off : Int) : Bool := decide (0 ≤ (pc : Int) + off)
def E_bin (len : Nat) (f : E_F) (g : Int32 → Int32 → Int32) : Option E_F := match f with
  | (pc, L, .int y :: .int x :: st) => if len = 1 then some (pc + 1, L, .int (g x y) :: st) else none
  | _ => none
def E_binN (len : Nat) (f : E_F) (g : Int32 → Int32 → Int32) : Option E_F := match f with
  | (pc, L, .int y :: .int x :: st) => if len = 1 ∧ ¬ y = 0 then some (pc + 1, L, .int (g x y) :: st) else none
  | _ => none
def E_binL (len : Nat) (f : E_F) (g : Int64 → Int64 → Int64) : Option E_F := match f with
  | (pc, L, .long y :: .long x :: st) => if len = 1 then some (pc + 1, L, .long (g x y) :: st) else none
  | _ => none
def E_shL (len : Nat) (f : E_F) (g : Int64 → Int32 → Int64) : Option E_F := match f with
  | (pc, L, .int y :: .long x :: st) => if len = 1 then some (pc + 1, L, .long (g x y) :: st) else none
  | _ => none
def E_push (n len : Nat) (f : E_F) (v : Value) : Option E_F := if len = n then some (f.1 + n, f.2.1, v :: f.2.2) else none
def E_ildk (i n len : Nat) (f : E_F) : Option E_F := match E_lk f.2.1 i with
  | some (.int x) => if len = n then some (f.1 + n, f.2.1, .int x :: f.2.2) else none
  | _ => none
def E_lldk (i n len : Nat) (f : E_F) : Option E_F := match E_lk f.2.1 i with
  | some (.long x) => if len = n then some (f.1 + n, f.2.1, .long x :: f.2.2) else none
  | _ => none
def E_aldk (i n len : Nat) (f : E_F) : Option E_F := match E_lk f.2.1 i with
  | some (.ref x) => if len = n then some (f.1 + n, f.2.1, .ref x :: f.2.2) else none
  | some .null => if len = n then some (f.1 + n, f.2.1, .null :: f.2.2) else none
  | _ => none
def E_istk (mx i n len : Nat) (f : E_F) : Option E_F := match f with
  | (pc, L, .int x :: st) => if len = n ∧ i < mx then some (pc + n, E_s1 L i (.int x), st) else none
  | _ => none
def E_lstk (mx i n len : Nat) (f : E_F) : Option E_F := match f with
  | (pc, L, .long x :: st) => if len = n ∧ i + 1 < mx then some (pc + n, E_s2 L i (.long x), st) else none
  | _ => none
def E_astk (mx i n len : Nat) (f : E_F) : Option E_F := match f with
  | (pc, L, .ref x :: st) => if len = n ∧ i < mx then some (pc + n, E_s1 L i (.ref x), st) else none
  | (pc, L, .null :: st) => if len = n ∧ i < mx then some (pc + n, E_s1 L i .null, st) else none
  | _ => none
def E_iinck (mx i : Nat) (n : Int) (len : Nat) (f : E_F) : Option E_F := match E_lk f.2.1 i with
  | some (.int x) => if len = 3 ∧ i < mx then some (f.1 + 3, E_s1 f.2.1 i (.int (x + Int32.ofInt n)), f.2.2) else none
  | _ => none
def E_un (len : Nat) (f : E_F) (g : Int32 → Value) : Option E_F := match f with
  | (pc, L, .int x :: st) => if len = 1 then some (pc + 1, L, g x :: st) else none
  | _ => none
def E_unL (len : Nat) (f : E_F) (g : Int64 → Value) : Option E_F := match f with
  | (pc, L, .long x :: st) => if len = 1 then some (pc + 1, L, g x :: st) else none
  | _ => none
def E_if (len : Nat) (off : Int) (f : E_F) (g : Int32 → Bool) : Option E_F := match f with
  | (pc, L, .int x :: st) => if len = 3 ∧ E_tok pc off = true then (bif g x then some (E_tg pc off, L, st) else some (pc + 3, L, st)) else none
  | _ => none
def E_icmp (len : Nat) (off : Int) (f : E_F) (g : Int32 → Int32 → Bool) : Option E_F := match f with
  | (pc, L, .int y :: .int x :: st) => if len = 3 ∧ E_tok pc off = true then (bif g x y then some (E_tg pc off, L, st) else some (pc + 3, L, st)) else none
  | _ => none
def E_goto (len : Nat) (off : Int) (f : E_F) : Option E_F := if len = 3 ∧ E_tok f.1 off = true then some (E_tg f.1 off, f.2.1, f.2.2) else none
def E_dup (len : Nat) (f : E_F) : Option E_F := match f with
  | (pc, L, v :: st) => if len = 1 ∧ v.category = 1 then some (pc + 1, L, v :: v :: st) else none
  | _ => none
def E_dup2 (len : Nat) (f : E_F) : Option E_F := match f with
  | (pc, L, v :: w :: st) => if len = 1 ∧ v.category = 1 ∧ w.category = 1 then some (pc + 1, L, v :: w :: v :: w :: st) else none
  | _ => none
def E_pop (len : Nat) (f : E_F) : Option E_F := match f with
  | (pc, L, v :: st) => if len = 1 ∧ v.category = 1 then some (pc + 1, L, st) else none
  | _ => none
def E_nul (len : Nat) (off : Int) (f : E_F) (onNull : Bool) : Option E_F := match f with
  | (pc, L, .ref _ :: st) => if len = 3 ∧ E_tok pc off = true then (bif onNull then some (pc + 3, L, st) else some (E_tg pc off, L, st)) else none
  | (pc, L, .null :: st) => if len = 3 ∧ E_tok pc off = true then (bif onNull then some (E_tg pc off, L, st) else some (pc + 3, L, st)) else none
  | _ => none
def E_tsw (dflt lo hi : Int) (offs : Array Int) (f : E_F) : Option E_F := match f with
  | (pc, L, .int x :: st) => bif decide (x.toInt < lo) || decide (hi < x.toInt) then (if E_tok pc dflt = true then some (E_tg pc dflt, L, st) else none) else
    match offs[(x.toInt - lo).toNat]? with
    | some off => if E_tok pc off = true then some (E_tg pc off, L, st) else none
    | none => none
  | _ => none
def E_lsw (dflt : Int) (ps : Array (Int × Int)) (f : E_F) : Option E_F := match f with
  | (pc, L, .int x :: st) => if (ps.toList.zip (ps.toList.drop 1)).all (fun (a, next) => a.1 < next.1) = true ∧ E_tok pc (Op.lookupswitch.offset ps.toList dflt x.toInt) = true then some (E_tg pc (Op.lookupswitch.offset ps.toList dflt x.toInt), L, st) else none
  | _ => none
/-- instructions that neither see the heap nor the tables -/
def E_pure (mx : Nat) (ins : Instr) (len : Nat) (f : E_F) : Option E_F := match ins with
  | .iconst n => E_push 1 len f (.int (Int32.ofInt n))
  | .bipush n => E_push 2 len f (.int (Int8.ofInt n).toInt32)
  | .sipush n => E_push 3 len f (.int (Int16.ofInt n).toInt32)
  | .lconst n => E_push 1 len f (.long (Int64.ofNat (n : Nat)))
  | .aconst_null => E_push 1 len f .null
  | .iload_n k => E_ildk k 1 len f
  | .iload i => E_ildk i 2 len f
  | .lload_n k => E_lldk k 1 len f
  | .lload i => E_lldk i 2 len f
  | .aload_n k => E_aldk k 1 len f
  | .aload i => E_aldk i 2 len f
  | .istore_n k => E_istk mx k 1 len f
  | .istore i => E_istk mx i 2 len f
  | .lstore_n k => E_lstk mx k 1 len f
  | .lstore i => E_lstk mx i 2 len f
  | .astore_n k => E_astk mx k 1 len f
  | .astore i => E_astk mx i 2 len f
  | .iinc i n => E_iinck mx i n len f
  | .iadd => E_bin len f (fun x y => x + y)
  | .isub => E_bin len f (fun x y => x - y)
  | .imul => E_bin len f (fun x y => x * y)
  | .iand => E_bin len f (fun x y => x &&& y)
  | .ior => E_bin len f (fun x y => x ||| y)
  | .ixor => E_bin len f (fun x y => x ^^^ y)
  | .ishl => E_bin len f (fun x y => x <<< (y &&& 31))
  | .ishr => E_bin len f (fun x y => x >>> (y &&& 31))
  | .iushr => E_bin len f (fun x y => (x.toUInt32 >>> (y.toUInt32 &&& Int32.toUInt32 31)).toInt32)
  | .idiv => E_binN len f (fun x y => x / y)
  | .irem => E_binN len f (fun x y => x - x / y * y)
  | .ladd => E_binL len f (fun x y => x + y)
  | .lsub => E_binL len f (fun x y => x - y)
  | .lmul => E_binL len f (fun x y => x * y)
  | .land => E_binL len f (fun x y => x &&& y)
  | .lor => E_binL len f (fun x y => x ||| y)
  | .lxor => E_binL len f (fun x y => x ^^^ y)
  | .lushr => E_shL len f (fun x y => (x.toUInt64 >>> (y.toInt64.toUInt64 &&& Int64.toUInt64 63)).toInt64)
  | .lshl => E_shL len f (fun x y => x <<< (y.toInt64 &&& 63))
  | .lcmp => match f with
    | (pc, L, .long y :: .long x :: st) => if len = 1 then some (pc + 1, L, .int (lg_cmp x y) :: st) else none
    | _ => none
  | .i2l => E_un len f (fun x => .long x.toInt64)
  | .i2b => E_un len f (fun x => .int x.toInt8.toInt32)
  | .l2i => E_unL len f (fun x => .int x.toInt32)
  | .ifCond .eq off => E_if len off f (fun x => decide (x = 0))
  | .ifCond .ne off => E_if len off f (fun x => decide (x ≠ 0))
  | .ifCond .lt off => E_if len off f (fun x => decide (x < 0))
  | .ifCond .ge off => E_if len off f (fun x => decide (0 ≤ x))
  | .ifCond .gt off => E_if len off f (fun x => decide (0 < x))
  | .ifCond .le off => E_if len off f (fun x => decide (x ≤ 0))
  | .if_icmp .eq off => E_icmp len off f (fun x y => decide (x = y))
  | .if_icmp .ne off => E_icmp len off f (fun x y => decide (x ≠ y))
  | .if_icmp .lt off => E_icmp len off f (fun x y => decide (x < y))
  | .if_icmp .ge off => E_icmp len off f (fun x y => decide (y ≤ x))
  | .if_icmp .gt off => E_icmp len off f (fun x y => decide (y < x))
  | .if_icmp .le off => E_icmp len off f (fun x y => decide (x ≤ y))
  | .goto off => E_goto len off f
  | .dup => E_dup len f
  | .dup2 => E_dup2 len f
  | .pop => E_pop len f
  | .ifnull off => E_nul len off f true
  | .ifnonnull off => E_nul len off f false
  | .tableswitch d lo hi offs => E_tsw d lo hi offs f
  | .lookupswitch d ps => E_lsw d ps f
  | _ => none
end
section
/-! the evaluator's pure steps are the machine's -/
/-- an abstract value as the machine has it: the heap's cells stand from sz on -/
def E_v (sz : Nat) : Value → Value
  | .ref k => .ref (sz + k)
  | v => v
def E_q (sz : Nat) (q : Nat × Value) : Nat × Value := (q.1, E_v sz q.2)
theorem E_v_cat (sz : Nat) (v : Value) : (E_v sz v).category = v.category := by cases v <;> rfl
theorem E_lk_mem {L : E_L} {i : Nat} {v : Value} : E_lk L i = some v → (i, v) ∈ L := by
  induction L with
  | nil => intro h; cases h
  | cons q t ih =>
    intro h
    unfold E_lk at h
    split at h
    · rename_i hq
      cases h
      rw [← hq]
      exact List.mem_cons_self
    · exact List.mem_cons_of_mem _ (ih h)
theorem E_has {ls : Array Slot} {n sz : Nat} {L : E_L} (h : lv_has ls n (L.map (E_q sz))) {i : Nat} {v : Value} (hv : E_lk L i = some v) : ls[i]? = some (.val (E_v sz v)) := h.2.2 (i, E_v sz v) (List.mem_map.mpr ⟨(i, v), E_lk_mem hv, rfl⟩)
theorem E_s1_map (sz : Nat) (L : E_L) (i : Nat) (v : Value) : (i, E_v sz v) :: (L.map (E_q sz)).filter (fun q => !(q.1 == i) && !(q.1 + 1 == i && q.2.category == 2)) = (E_s1 L i v).map (E_q sz) := by
  unfold E_s1
  rw [List.map_cons, List.filter_map]
  congr 2
  apply List.filter_congr
  intro q _
  simp [E_q, E_v_cat]
theorem E_s2_map (sz : Nat) (L : E_L) (i : Nat) (v : Value) : (i, E_v sz v) :: (L.map (E_q sz)).filter (fun q => !(q.1 == i) && (!(q.1 == i + 1) && !(q.1 + 1 == i && q.2.category == 2))) = (E_s2 L i v).map (E_q sz) := by
  unfold E_s2
  rw [List.map_cons, List.filter_map]
  congr 2
  apply List.filter_congr
  intro q _
  simp [E_q, E_v_cat]
theorem E_tg_ok {pc : Nat} {off : Int} (h : E_tok pc off = true) : (pc : Int) + off = (E_tg pc off : Int) := by
  unfold E_tok at h
  unfold E_tg
  have := of_decide_eq_true h
  omega
section EP
variable {p : Program} {l : Launch} {e : Env} {R : Room} {s : State} {m : MethodId} {args : Array Value} {below : List Frame} {meth : Method} {c : Code} {H : Heap} {locs : List Loc} {cells slots : Nat} {Q : State → Prop} {cc : ByteArray} {sz nL : Nat}
/-- the machine at an abstract frame -/
def E_W (p : Program) (l : Launch) (e : Env) (R : Room) (s : State) (m : MethodId) (args : Array Value) (below : List Frame) (meth : Method) (c : Code) (sz nL : Nat) (Q : State → Prop) (H : Heap) (locs : List Loc) (cells slots : Nat) (f : E_F) : Prop :=
  ∀ ls : Array Slot, lv_has ls nL (f.2.1.map (E_q sz)) → W p l e R s m args below meth c H locs cells slots Q (F0 m f.1 ls (f.2.2.map (E_v sz)))
theorem E_bin_i {len : Nat} {f f' : E_F} {g : Int32 → Int32 → Int32} (h : E_bin len f g = some f') : ∃ pc L x y st, len = 1 ∧ f = (pc, L, .int y :: .int x :: st) ∧ f' = (pc + 1, L, .int (g x y) :: st) := by
  unfold E_bin at h
  split at h
  · split at h
    · rename_i pc L y x st hl
      cases h
      exact ⟨pc, L, x, y, st, hl, rfl, rfl⟩
    · cases h
  · cases h
theorem E_binN_i {len : Nat} {f f' : E_F} {g : Int32 → Int32 → Int32} (h : E_binN len f g = some f') : ∃ pc L x y st, len = 1 ∧ ¬ y = 0 ∧ f = (pc, L, .int y :: .int x :: st) ∧ f' = (pc + 1, L, .int (g x y) :: st) := by
  unfold E_binN at h
  split at h
  · split at h
    · rename_i pc L y x st hl
      cases h
      exact ⟨pc, L, x, y, st, hl.1, hl.2, rfl, rfl⟩
    · cases h
  · cases h
theorem E_binL_i {len : Nat} {f f' : E_F} {g : Int64 → Int64 → Int64} (h : E_binL len f g = some f') : ∃ pc L x y st, len = 1 ∧ f = (pc, L, .long y :: .long x :: st) ∧ f' = (pc + 1, L, .long (g x y) :: st) := by
  unfold E_binL at h
  split at h
  · split at h
    · rename_i pc L y x st hl
      cases h
      exact ⟨pc, L, x, y, st, hl, rfl, rfl⟩
    · cases h
  · cases h
theorem E_shL_i {len : Nat} {f f' : E_F} {g : Int64 → Int32 → Int64} (h : E_shL len f g = some f') : ∃ pc L x y st, len = 1 ∧ f = (pc, L, .int y :: .long x :: st) ∧ f' = (pc + 1, L, .long (g x y) :: st) := by
  unfold E_shL at h
  split at h
  · split at h
    · rename_i pc L y x st hl
      cases h
      exact ⟨pc, L, x, y, st, hl, rfl, rfl⟩
    · cases h
  · cases h
theorem E_un_i {len : Nat} {f f' : E_F} {g : Int32 → Value} (h : E_un len f g = some f') : ∃ pc L x st, len = 1 ∧ f = (pc, L, .int x :: st) ∧ f' = (pc + 1, L, g x :: st) := by
  unfold E_un at h
  split at h
  · split at h
    · rename_i pc L x st hl
      cases h
      exact ⟨pc, L, x, st, hl, rfl, rfl⟩
    · cases h
  · cases h
theorem E_unL_i {len : Nat} {f f' : E_F} {g : Int64 → Value} (h : E_unL len f g = some f') : ∃ pc L x st, len = 1 ∧ f = (pc, L, .long x :: st) ∧ f' = (pc + 1, L, g x :: st) := by
  unfold E_unL at h
  split at h
  · split at h
    · rename_i pc L x st hl
      cases h
      exact ⟨pc, L, x, st, hl, rfl, rfl⟩
    · cases h
  · cases h
theorem E_push_i {n len : Nat} {f f' : E_F} {v : Value} (h : E_push n len f v = some f') : len = n ∧ f' = (f.1 + n, f.2.1, v :: f.2.2) := by
  unfold E_push at h
  split at h
  · rename_i hl
    cases h
    exact ⟨hl, rfl⟩
  · cases h
theorem E_ildk_i {i n len : Nat} {f f' : E_F} (h : E_ildk i n len f = some f') : ∃ x, len = n ∧ E_lk f.2.1 i = some (.int x) ∧ f' = (f.1 + n, f.2.1, .int x :: f.2.2) := by
  unfold E_ildk at h
  split at h
  · rename_i x hx
    split at h
    · rename_i hl
      cases h
      exact ⟨x, hl, hx, rfl⟩
    · cases h
  · cases h
theorem E_lldk_i {i n len : Nat} {f f' : E_F} (h : E_lldk i n len f = some f') : ∃ x, len = n ∧ E_lk f.2.1 i = some (.long x) ∧ f' = (f.1 + n, f.2.1, .long x :: f.2.2) := by
  unfold E_lldk at h
  split at h
  · rename_i x hx
    split at h
    · rename_i hl
      cases h
      exact ⟨x, hl, hx, rfl⟩
    · cases h
  · cases h
theorem E_aldk_i {i n len : Nat} {f f' : E_F} (h : E_aldk i n len f = some f') : len = n ∧ ((∃ x, E_lk f.2.1 i = some (.ref x) ∧ f' = (f.1 + n, f.2.1, .ref x :: f.2.2)) ∨ (E_lk f.2.1 i = some .null ∧ f' = (f.1 + n, f.2.1, .null :: f.2.2))) := by
  unfold E_aldk at h
  split at h
  · rename_i x hx
    split at h
    · rename_i hl
      cases h
      exact ⟨hl, Or.inl ⟨x, hx, rfl⟩⟩
    · cases h
  · rename_i hx
    split at h
    · rename_i hl
      cases h
      exact ⟨hl, Or.inr ⟨hx, rfl⟩⟩
    · cases h
  · cases h
theorem E_istk_i {mx i n len : Nat} {f f' : E_F} (h : E_istk mx i n len f = some f') : ∃ pc L x st, len = n ∧ i < mx ∧ f = (pc, L, .int x :: st) ∧ f' = (pc + n, E_s1 L i (.int x), st) := by
  unfold E_istk at h
  split at h
  · split at h
    · rename_i pc L x st hl
      cases h
      exact ⟨pc, L, x, st, hl.1, hl.2, rfl, rfl⟩
    · cases h
  · cases h
theorem E_lstk_i {mx i n len : Nat} {f f' : E_F} (h : E_lstk mx i n len f = some f') : ∃ pc L x st, len = n ∧ i + 1 < mx ∧ f = (pc, L, .long x :: st) ∧ f' = (pc + n, E_s2 L i (.long x), st) := by
  unfold E_lstk at h
  split at h
  · split at h
    · rename_i pc L x st hl
      cases h
      exact ⟨pc, L, x, st, hl.1, hl.2, rfl, rfl⟩
    · cases h
  · cases h
theorem E_astk_i {mx i n len : Nat} {f f' : E_F} (h : E_astk mx i n len f = some f') : ∃ pc L st, len = n ∧ i < mx ∧ ((∃ x, f = (pc, L, .ref x :: st) ∧ f' = (pc + n, E_s1 L i (.ref x), st)) ∨ (f = (pc, L, .null :: st) ∧ f' = (pc + n, E_s1 L i .null, st))) := by
  unfold E_astk at h
  split at h
  · split at h
    · rename_i pc L x st hl
      cases h
      exact ⟨pc, L, st, hl.1, hl.2, Or.inl ⟨x, rfl, rfl⟩⟩
    · cases h
  · split at h
    · rename_i pc L st hl
      cases h
      exact ⟨pc, L, st, hl.1, hl.2, Or.inr ⟨rfl, rfl⟩⟩
    · cases h
  · cases h
theorem E_iinck_i {mx i len : Nat} {n : Int} {f f' : E_F} (h : E_iinck mx i n len f = some f') : ∃ x, len = 3 ∧ i < mx ∧ E_lk f.2.1 i = some (.int x) ∧ f' = (f.1 + 3, E_s1 f.2.1 i (.int (x + Int32.ofInt n)), f.2.2) := by
  unfold E_iinck at h
  split at h
  · rename_i x hx
    split at h
    · rename_i hl
      cases h
      exact ⟨x, hl.1, hl.2, hx, rfl⟩
    · cases h
  · cases h
theorem E_if_i {len : Nat} {off : Int} {f f' : E_F} {g : Int32 → Bool} (h : E_if len off f g = some f') : ∃ pc L x st, len = 3 ∧ E_tok pc off = true ∧ f = (pc, L, .int x :: st) ∧ f' = (bif g x then (E_tg pc off, L, st) else (pc + 3, L, st)) := by
  unfold E_if at h
  split at h
  · split at h
    · rename_i pc L x st hl
      refine ⟨pc, L, x, st, hl.1, hl.2, rfl, ?_⟩
      revert h
      cases g x <;> intro h <;> cases h <;> rfl
    · cases h
  · cases h
theorem E_icmp_i {len : Nat} {off : Int} {f f' : E_F} {g : Int32 → Int32 → Bool} (h : E_icmp len off f g = some f') : ∃ pc L x y st, len = 3 ∧ E_tok pc off = true ∧ f = (pc, L, .int y :: .int x :: st) ∧ f' = (bif g x y then (E_tg pc off, L, st) else (pc + 3, L, st)) := by
  unfold E_icmp at h
  split at h
  · split at h
    · rename_i pc L y x st hl
      refine ⟨pc, L, x, y, st, hl.1, hl.2, rfl, ?_⟩
      revert h
      cases g x y <;> intro h <;> cases h <;> rfl
    · cases h
  · cases h
theorem E_dup_i {len : Nat} {f f' : E_F} (h : E_dup len f = some f') : ∃ pc L v st, len = 1 ∧ v.category = 1 ∧ f = (pc, L, v :: st) ∧ f' = (pc + 1, L, v :: v :: st) := by
  unfold E_dup at h
  split at h
  · split at h
    · rename_i pc L v st hl
      cases h
      exact ⟨pc, L, v, st, hl.1, hl.2, rfl, rfl⟩
    · cases h
  · cases h
theorem E_pop_i {len : Nat} {f f' : E_F} (h : E_pop len f = some f') : ∃ pc L v st, len = 1 ∧ v.category = 1 ∧ f = (pc, L, v :: st) ∧ f' = (pc + 1, L, st) := by
  unfold E_pop at h
  split at h
  · split at h
    · rename_i pc L v st hl
      cases h
      exact ⟨pc, L, v, st, hl.1, hl.2, rfl, rfl⟩
    · cases h
  · cases h
theorem E_dup2_i {len : Nat} {f f' : E_F} (h : E_dup2 len f = some f') : ∃ pc L v w st, len = 1 ∧ v.category = 1 ∧ w.category = 1 ∧ f = (pc, L, v :: w :: st) ∧ f' = (pc + 1, L, v :: w :: v :: w :: st) := by
  unfold E_dup2 at h
  split at h
  · split at h
    · rename_i pc L v w st hl
      cases h
      exact ⟨pc, L, v, w, st, hl.1, hl.2.1, hl.2.2, rfl, rfl⟩
    · cases h
  · cases h
theorem E_nul_i {len : Nat} {off : Int} {f f' : E_F} {b : Bool} (h : E_nul len off f b = some f') : ∃ pc L st, len = 3 ∧ E_tok pc off = true ∧ ((∃ x, f = (pc, L, .ref x :: st) ∧ f' = (bif b then (pc + 3, L, st) else (E_tg pc off, L, st))) ∨ (f = (pc, L, .null :: st) ∧ f' = (bif b then (E_tg pc off, L, st) else (pc + 3, L, st)))) := by
  unfold E_nul at h
  split at h
  · split at h
    · rename_i pc L x st hl
      refine ⟨pc, L, st, hl.1, hl.2, Or.inl ⟨x, rfl, ?_⟩⟩
      cases b <;> cases h <;> rfl
    · cases h
  · split at h
    · rename_i pc L st hl
      refine ⟨pc, L, st, hl.1, hl.2, Or.inr ⟨rfl, ?_⟩⟩
      cases b <;> cases h <;> rfl
    · cases h
  · cases h
theorem E_if_w {off : Int} {pc : Nat} {L : E_L} {st : List Value} {b : Bool} {P : Prop} (hP : b = true ↔ P) (kk : E_W p l e R s m args below meth c sz nL Q H locs cells slots (bif b then (E_tg pc off, L, st) else (pc + 3, L, st))) {ls : Array Slot} (hl : lv_has ls nL (L.map (E_q sz))) :
    (P → W p l e R s m args below meth c H locs cells slots Q (F0 m (E_tg pc off) ls (st.map (E_v sz)))) ∧ (¬ P → W p l e R s m args below meth c H locs cells slots Q (F0 m (pc + 3) ls (st.map (E_v sz)))) := by
  refine ⟨fun q => ?_, fun q => ?_⟩
  · rw [hP.mpr q] at kk
    exact kk ls hl
  · have : b = false := by
      cases hb : b
      · rfl
      · exact absurd (hP.mp hb) q
    rw [this] at kk
    exact kk ls hl
end EP
end
section
section EP2
variable {p : Program} {l : Launch} {e : Env} {R : Room} {s : State} {m : MethodId} {args : Array Value} {below : List Frame} {meth : Method} {c : Code} {H : Heap} {locs : List Loc} {cells slots : Nat} {Q : State → Prop} {cc : ByteArray} {sz nL : Nat}
theorem E_bin_ok {f f' : E_F} {g : Int32 → Int32 → Int32} {ins : Instr} {len : Nat} (h : E_bin len f g = some f') (hd : decode cc f.1 = .ok (ins, len)) (kk : E_W p l e R s m args below meth c sz nL Q H locs cells slots f')
    (row : ∀ {pc : Nat} {ls : Array Slot} {x y : Int32} {rest : List Value}, decode cc pc = .ok (ins, 1) → W p l e R s m args below meth c H locs cells slots Q (F0 m (pc + 1) ls (.int (g x y) :: rest)) → W p l e R s m args below meth c H locs cells slots Q (F0 m pc ls (.int y :: .int x :: rest))) : E_W p l e R s m args below meth c sz nL Q H locs cells slots f := by
  obtain ⟨pc, L, x, y, st, rfl, rfl, rfl⟩ := E_bin_i h
  exact fun ls hl => row hd (kk ls hl)
theorem E_binN_ok {f f' : E_F} {g : Int32 → Int32 → Int32} {ins : Instr} {len : Nat} (h : E_binN len f g = some f') (hd : decode cc f.1 = .ok (ins, len)) (kk : E_W p l e R s m args below meth c sz nL Q H locs cells slots f')
    (row : ∀ {pc : Nat} {ls : Array Slot} {x y : Int32} {rest : List Value}, decode cc pc = .ok (ins, 1) → ¬ y = 0 → W p l e R s m args below meth c H locs cells slots Q (F0 m (pc + 1) ls (.int (g x y) :: rest)) → W p l e R s m args below meth c H locs cells slots Q (F0 m pc ls (.int y :: .int x :: rest))) : E_W p l e R s m args below meth c sz nL Q H locs cells slots f := by
  obtain ⟨pc, L, x, y, st, rfl, hy, rfl, rfl⟩ := E_binN_i h
  exact fun ls hl => row hd hy (kk ls hl)
theorem E_binL_ok {f f' : E_F} {g : Int64 → Int64 → Int64} {ins : Instr} {len : Nat} (h : E_binL len f g = some f') (hd : decode cc f.1 = .ok (ins, len)) (kk : E_W p l e R s m args below meth c sz nL Q H locs cells slots f')
    (row : ∀ {pc : Nat} {ls : Array Slot} {x y : Int64} {rest : List Value}, decode cc pc = .ok (ins, 1) → W p l e R s m args below meth c H locs cells slots Q (F0 m (pc + 1) ls (.long (g x y) :: rest)) → W p l e R s m args below meth c H locs cells slots Q (F0 m pc ls (.long y :: .long x :: rest))) : E_W p l e R s m args below meth c sz nL Q H locs cells slots f := by
  obtain ⟨pc, L, x, y, st, rfl, rfl, rfl⟩ := E_binL_i h
  exact fun ls hl => row hd (kk ls hl)
theorem E_shL_ok {f f' : E_F} {g : Int64 → Int32 → Int64} {ins : Instr} {len : Nat} (h : E_shL len f g = some f') (hd : decode cc f.1 = .ok (ins, len)) (kk : E_W p l e R s m args below meth c sz nL Q H locs cells slots f')
    (row : ∀ {pc : Nat} {ls : Array Slot} {x : Int64} {y : Int32} {rest : List Value}, decode cc pc = .ok (ins, 1) → W p l e R s m args below meth c H locs cells slots Q (F0 m (pc + 1) ls (.long (g x y) :: rest)) → W p l e R s m args below meth c H locs cells slots Q (F0 m pc ls (.int y :: .long x :: rest))) : E_W p l e R s m args below meth c sz nL Q H locs cells slots f := by
  obtain ⟨pc, L, x, y, st, rfl, rfl, rfl⟩ := E_shL_i h
  exact fun ls hl => row hd (kk ls hl)
theorem E_push_ok {n : Nat} {f f' : E_F} {v : Value} {ins : Instr} {len : Nat} (h : E_push n len f v = some f') (hd : decode cc f.1 = .ok (ins, len)) (kk : E_W p l e R s m args below meth c sz nL Q H locs cells slots f')
    (row : ∀ {pc : Nat} {ls : Array Slot} {rest : List Value}, decode cc pc = .ok (ins, n) → W p l e R s m args below meth c H locs cells slots Q (F0 m (pc + n) ls (E_v sz v :: rest)) → W p l e R s m args below meth c H locs cells slots Q (F0 m pc ls rest)) : E_W p l e R s m args below meth c sz nL Q H locs cells slots f := by
  obtain ⟨rfl, rfl⟩ := E_push_i h
  exact fun ls hl => row hd (kk ls hl)
theorem E_if_ok {f f' : E_F} {off : Int} {g : Int32 → Bool} {ins : Instr} {len : Nat} {P : Int32 → Prop} (h : E_if len off f g = some f') (hd : decode cc f.1 = .ok (ins, len)) (hP : ∀ x, g x = true ↔ P x) (kk : E_W p l e R s m args below meth c sz nL Q H locs cells slots f')
    (row : ∀ {pc tgt : Nat} {ls : Array Slot} {x : Int32} {rest : List Value}, decode cc pc = .ok (ins, 3) → (pc : Int) + off = (tgt : Int) → (P x → W p l e R s m args below meth c H locs cells slots Q (F0 m tgt ls rest)) → (¬ P x → W p l e R s m args below meth c H locs cells slots Q (F0 m (pc + 3) ls rest)) → W p l e R s m args below meth c H locs cells slots Q (F0 m pc ls (.int x :: rest))) : E_W p l e R s m args below meth c sz nL Q H locs cells slots f := by
  obtain ⟨pc, L, x, st, rfl, ht, rfl, rfl⟩ := E_if_i h
  intro ls hl
  obtain ⟨a, b⟩ := E_if_w (hP x) kk hl
  exact row hd (E_tg_ok ht) a b
theorem E_icmp_ok {f f' : E_F} {off : Int} {g : Int32 → Int32 → Bool} {ins : Instr} {len : Nat} {P : Int32 → Int32 → Prop} (h : E_icmp len off f g = some f') (hd : decode cc f.1 = .ok (ins, len)) (hP : ∀ x y, g x y = true ↔ P x y) (kk : E_W p l e R s m args below meth c sz nL Q H locs cells slots f')
    (row : ∀ {pc tgt : Nat} {ls : Array Slot} {x y : Int32} {rest : List Value}, decode cc pc = .ok (ins, 3) → (pc : Int) + off = (tgt : Int) → (P x y → W p l e R s m args below meth c H locs cells slots Q (F0 m tgt ls rest)) → (¬ P x y → W p l e R s m args below meth c H locs cells slots Q (F0 m (pc + 3) ls rest)) → W p l e R s m args below meth c H locs cells slots Q (F0 m pc ls (.int y :: .int x :: rest))) : E_W p l e R s m args below meth c sz nL Q H locs cells slots f := by
  obtain ⟨pc, L, x, y, st, rfl, ht, rfl, rfl⟩ := E_icmp_i h
  intro ls hl
  obtain ⟨a, b⟩ := E_if_w (hP x y) kk hl
  exact row hd (E_tg_ok ht) a b
theorem E_d {P : Prop} [Decidable P] : decide P = true ↔ P := decide_eq_true_iff
set_option maxHeartbeats 4000000 in
theorem E_pure_ok (hx : p.tables.exec = Jvm.exec) (hb : c.code = cc) {ins : Instr} {len : Nat} {f f' : E_F} (h : E_pure nL ins len f = some f') (hd : decode cc f.1 = .ok (ins, len)) (kk : E_W p l e R s m args below meth c sz nL Q H locs cells slots f') : E_W p l e R s m args below meth c sz nL Q H locs cells slots f := by
  cases ins
  case iconst n => exact E_push_ok h hd kk (fun d k => lv_iconst hx hb d rfl k)
  case bipush n => exact E_push_ok h hd kk (fun d k => lv_bipush hx hb d rfl k)
  case sipush n => exact E_push_ok h hd kk (fun d k => lv_sipush hx hb d rfl k)
  case lconst n => exact E_push_ok h hd kk (fun d k => lv_lconst hx hb d rfl k)
  case aconst_null => exact E_push_ok h hd kk (fun d k => lv_null hx hb d k)
  case iload_n k =>
    obtain ⟨x, rfl, hv, rfl⟩ := E_ildk_i h
    exact fun ls hl => lv_iload_n hx hb hd rfl (E_has hl hv) (kk ls hl)
  case iload k =>
    obtain ⟨x, rfl, hv, rfl⟩ := E_ildk_i h
    exact fun ls hl => lv_iload hx hb hd (E_has hl hv) (kk ls hl)
  case lload_n k =>
    obtain ⟨x, rfl, hv, rfl⟩ := E_lldk_i h
    exact fun ls hl => lv_lload_n hx hb hd rfl (E_has hl hv) (kk ls hl)
  case lload k =>
    obtain ⟨x, rfl, hv, rfl⟩ := E_lldk_i h
    exact fun ls hl => lv_lload hx hb hd (E_has hl hv) (kk ls hl)
  case aload_n k =>
    obtain ⟨rfl, ⟨x, hv, rfl⟩ | ⟨hv, rfl⟩⟩ := E_aldk_i h
    · exact fun ls hl => lv_aload_n hx hb hd rfl (E_has hl hv) (kk ls hl)
    · exact fun ls hl => lv_aload_nN hx hb hd rfl (E_has hl hv) (kk ls hl)
  case aload k =>
    obtain ⟨rfl, ⟨x, hv, rfl⟩ | ⟨hv, rfl⟩⟩ := E_aldk_i h
    · exact fun ls hl => lv_aload hx hb hd (E_has hl hv) (kk ls hl)
    · exact fun ls hl => lv_aloadN hx hb hd (E_has hl hv) (kk ls hl)
  case istore_n k =>
    obtain ⟨pc, L, x, st, rfl, hi, rfl, rfl⟩ := E_istk_i h
    exact fun ls hl => lv_istore_n hx hb hd rfl hl hi (E_s1_map sz L _ (.int x)) (fun ls' hl' => kk ls' hl')
  case istore k =>
    obtain ⟨pc, L, x, st, rfl, hi, rfl, rfl⟩ := E_istk_i h
    exact fun ls hl => lv_istore hx hb hd hl hi (E_s1_map sz L _ (.int x)) (fun ls' hl' => kk ls' hl')
  case lstore_n k =>
    obtain ⟨pc, L, x, st, rfl, hi, rfl, rfl⟩ := E_lstk_i h
    exact fun ls hl => lv_lstore_n hx hb hd rfl hl hi (E_s2_map sz L _ (.long x)) (fun ls' hl' => kk ls' hl')
  case lstore k =>
    obtain ⟨pc, L, x, st, rfl, hi, rfl, rfl⟩ := E_lstk_i h
    exact fun ls hl => lv_lstore hx hb hd hl hi (E_s2_map sz L _ (.long x)) (fun ls' hl' => kk ls' hl')
  case astore_n k =>
    obtain ⟨pc, L, st, rfl, hi, ⟨x, rfl, rfl⟩ | ⟨rfl, rfl⟩⟩ := E_astk_i h
    · exact fun ls hl => lv_astore_n hx hb hd rfl hl hi (E_s1_map sz L _ (.ref x)) (fun ls' hl' => kk ls' hl')
    · exact fun ls hl => lv_astore_nN hx hb hd rfl hl hi (E_s1_map sz L _ .null) (fun ls' hl' => kk ls' hl')
  case astore k =>
    obtain ⟨pc, L, st, rfl, hi, ⟨x, rfl, rfl⟩ | ⟨rfl, rfl⟩⟩ := E_astk_i h
    · exact fun ls hl => lv_astore hx hb hd hl hi (E_s1_map sz L _ (.ref x)) (fun ls' hl' => kk ls' hl')
    · exact fun ls hl => lv_astoreN hx hb hd hl hi (E_s1_map sz L _ .null) (fun ls' hl' => kk ls' hl')
  case iinc i n =>
    obtain ⟨x, rfl, hi, hv, rfl⟩ := E_iinck_i h
    intro ls hl
    obtain ⟨k, hk⟩ := List.mem_iff_getElem?.mp (List.mem_map.mpr ⟨(i, .int x), E_lk_mem hv, rfl⟩ : E_q sz (i, .int x) ∈ f.2.1.map (E_q sz))
    exact lv_iinc hx hb hd hl hk rfl hi (E_s1_map sz f.2.1 _ (.int _)) (fun ls' hl' => kk ls' hl')
  case iadd => exact E_bin_ok h hd kk (fun d k => lv_iadd hx hb d k)
  case isub => exact E_bin_ok h hd kk (fun d k => lv_isub hx hb d k)
  case imul => exact E_bin_ok h hd kk (fun d k => lv_imul hx hb d k)
  case iand => exact E_bin_ok h hd kk (fun d k => lv_iand hx hb d k)
  case ior => exact E_bin_ok h hd kk (fun d k => lv_ior hx hb d k)
  case ixor => exact E_bin_ok h hd kk (fun d k => lv_ixor hx hb d k)
  case ishl => exact E_bin_ok h hd kk (fun d k => lv_ishl hx hb d k)
  case ishr => exact E_bin_ok h hd kk (fun d k => lv_ishr hx hb d k)
  case iushr => exact E_bin_ok h hd kk (fun d k => lv_iushr hx hb d rfl k)
  case idiv => exact E_binN_ok h hd kk (fun d hy k => lv_idiv hx hb d hy k)
  case irem => exact E_binN_ok h hd kk (fun d hy k => lv_irem hx hb d hy k)
  case ladd => exact E_binL_ok h hd kk (fun d k => lv_ladd hx hb d k)
  case lsub => exact E_binL_ok h hd kk (fun d k => lv_lsub hx hb d k)
  case lmul => exact E_binL_ok h hd kk (fun d k => lv_lmul hx hb d k)
  case land => exact E_binL_ok h hd kk (fun d k => lv_land hx hb d k)
  case lor => exact E_binL_ok h hd kk (fun d k => lv_lor hx hb d k)
  case lxor => exact E_binL_ok h hd kk (fun d k => lv_lxor hx hb d k)
  case lushr => exact E_shL_ok h hd kk (fun d k => lv_lushr hx hb d rfl k)
  case lshl => exact E_shL_ok h hd kk (fun d k => lv_lshl hx hb d rfl k)
  case lcmp =>
    unfold E_pure at h
    dsimp only at h
    split at h
    · split at h
      · rename_i hl
        cases h
        subst hl
        exact fun ls hl => W.lcmp hx hb hd (kk ls hl)
      · cases h
    · cases h
  case i2l =>
    obtain ⟨pc, L, x, st, rfl, rfl, rfl⟩ := E_un_i h
    exact fun ls hl => lv_i2l hx hb hd rfl (kk ls hl)
  case i2b =>
    obtain ⟨pc, L, x, st, rfl, rfl, rfl⟩ := E_un_i h
    exact fun ls hl => lv_i2b hx hb hd rfl (kk ls hl)
  case l2i =>
    obtain ⟨pc, L, x, st, rfl, rfl, rfl⟩ := E_unL_i h
    exact fun ls hl => lv_l2i hx hb hd rfl (kk ls hl)
  case ifCond cnd off =>
    cases cnd
    · exact E_if_ok h hd (fun _ => E_d) kk (fun d t a b => lv_if_eq hx hb d t a b)
    · exact E_if_ok (P := fun x => ¬ x = 0) h hd (fun _ => E_d) kk (fun d t a b => lv_if_ne hx hb d t a (fun q => b (fun r => r q)))
    · exact E_if_ok h hd (fun _ => E_d) kk (fun d t a b => lv_if_lt hx hb d t a b)
    · exact E_if_ok h hd (fun _ => E_d) kk (fun d t a b => lv_if_ge hx hb d t a b)
    · exact E_if_ok h hd (fun _ => E_d) kk (fun d t a b => lv_if_gt hx hb d t a b)
    · exact E_if_ok h hd (fun _ => E_d) kk (fun d t a b => lv_if_le hx hb d t a b)
  case if_icmp cnd off =>
    cases cnd
    · exact E_icmp_ok h hd (fun _ _ => E_d) kk (fun d t a b => lv_icmp_eq hx hb d t a b)
    · exact E_icmp_ok (P := fun x y => ¬ x = y) h hd (fun _ _ => E_d) kk (fun d t a b => lv_icmp_ne hx hb d t a (fun q => b (fun r => r q)))
    · exact E_icmp_ok h hd (fun _ _ => E_d) kk (fun d t a b => lv_icmp_lt hx hb d t a b)
    · exact E_icmp_ok h hd (fun _ _ => E_d) kk (fun d t a b => lv_icmp_ge hx hb d t a b)
    · exact E_icmp_ok h hd (fun _ _ => E_d) kk (fun d t a b => lv_icmp_gt hx hb d t a b)
    · exact E_icmp_ok h hd (fun _ _ => E_d) kk (fun d t a b => lv_icmp_le hx hb d t a b)
  case goto off =>
    have h : E_goto len off f = some f' := h
    unfold E_goto at h
    split at h
    · rename_i q
      cases h
      obtain ⟨rfl, ht⟩ := q
      exact fun ls hl => lv_goto hx hb hd (E_tg_ok ht) (kk ls hl)
    · cases h
  case dup =>
    obtain ⟨pc, L, v, st, rfl, hv, rfl, rfl⟩ := E_dup_i h
    exact fun ls hl => lv_dup hx hb hd (by rw [E_v_cat]; exact hv) (kk ls hl)
  case pop =>
    obtain ⟨pc, L, v, st, rfl, hv, rfl, rfl⟩ := E_pop_i h
    exact fun ls hl => lv_pop hx hb hd (by rw [E_v_cat]; exact hv) (kk ls hl)
  case dup2 =>
    obtain ⟨pc, L, v, w, st, rfl, hv, hw, rfl, rfl⟩ := E_dup2_i h
    exact fun ls hl => lv_dup2_11 hx hb hd (by rw [E_v_cat]; exact hv) (by rw [E_v_cat]; exact hw) (kk ls hl)
  case ifnull off =>
    obtain ⟨pc, L, st, rfl, ht, ⟨x, rfl, rfl⟩ | ⟨rfl, rfl⟩⟩ := E_nul_i h
    · exact fun ls hl => lv_ifnull hx hb hd (kk ls hl)
    · exact fun ls hl => lv_ifnullN hx hb hd (E_tg_ok ht) (kk ls hl)
  case ifnonnull off =>
    obtain ⟨pc, L, st, rfl, ht, ⟨x, rfl, rfl⟩ | ⟨rfl, rfl⟩⟩ := E_nul_i h
    · exact fun ls hl => lv_ifnonnull hx hb hd (E_tg_ok ht) (kk ls hl)
    · exact fun ls hl => lv_ifnonnullN hx hb hd (kk ls hl)
  case tableswitch d lo hi offs =>
    have h : E_tsw d lo hi offs f = some f' := h
    unfold E_tsw at h
    split at h
    · rename_i pc L x st z
      cases hq : (decide (x.toInt < lo) || decide (hi < x.toInt))
      · rw [hq] at h
        rw [Bool.or_eq_false_iff] at hq
        dsimp only [cond_false] at h
        split at h
        · rename_i off ho
          split at h
          · rename_i ht
            cases h
            exact fun ls hl => lv_tableIn hx hb hd (of_decide_eq_false hq.1) (of_decide_eq_false hq.2) ho (E_tg_ok ht) (kk ls hl)
          · cases h
        · cases h
      · rw [hq] at h
        rw [Bool.or_eq_true] at hq
        dsimp only [cond_true] at h
        split at h
        · rename_i ht
          cases h
          exact fun ls hl => lv_tableOut hx hb hd (hq.elim (fun q => Or.inl (of_decide_eq_true q)) (fun q => Or.inr (of_decide_eq_true q))) (E_tg_ok ht) (kk ls hl)
        · cases h
    · cases h
  case lookupswitch d ps =>
    have h : E_lsw d ps f = some f' := h
    unfold E_lsw at h
    split at h
    · split at h
      · rename_i q
        cases h
        exact fun ls hl => lv_lookup hx hb hd q.1 rfl (E_tg_ok q.2) (kk ls hl)
      · cases h
    · cases h
  all_goals exact absurd (show none = some f' from h) (fun q => by cases q)
end EP2
end
section
/-! the program's tables, printed by a program of the writer's out of the claim's own names, words and rows of code -/
def E_R0 : String := "GramFinder$Entry"
def E_R1 : String := "GramFinder$Family"
def E_R2 : String := "GramFinder$Machine"
def E_R3 : String := "GramFinder$Parser"
def E_R4 : String := "GramFinder$Part"
def E_R5 : String := "GramFinder$Planner"
def E_R6 : String := "GramFinder$Report"
def E_R7 : String := "GramFinder$Row"
def E_R8 : String := "GramFinder$Shelf"
def E_R9 : String := "GramFinder$Texts"
def E_R10 : String := "GramFinder$Tree"
def E_R11 : String := "GramFinder"
def E_R12 : String := "GramFinderModel"
def E_R13 : String := "java/lang/Integer"
def E_R14 : String := "java/lang/Long"
def E_R15 : String := "java/lang/Math"
def E_R16 : String := "java/util/Arrays"
def E_CN : List String := [E_R0, E_R1, E_R2, E_R3, E_R4, E_R5, E_R6, E_R7, E_R8, E_R9, E_R10, E_R11, E_R12, E_R13, E_R14, E_R15, E_R16]
def E_T0 : u_T := fun k => match k with
  | 0 => ("GramFinder$Entry", "bytes", "[B", false)
  | _ => ("GramFinder$Entry", "grams", "LGramFinder$Row;", true)
def E_t0 : Nat → FieldType := fun k => match k with
  | 0 => .array .byte
  | _ => .object "GramFinder$Row"
def E_T1 : u_T := fun k => match k with
  | 0 => ("GramFinder$Family", "rows", "[LGramFinder$Row;", true)
  | 1 => ("GramFinder$Family", "marks", "[J", true)
  | _ => ("GramFinder$Family", "many", "I", false)
def E_t1 : Nat → FieldType := fun k => match k with
  | 0 => .array (.object "GramFinder$Row")
  | 1 => .array .long
  | _ => .int
def E_T2 : u_T := fun k => match k with
  | 0 => ("GramFinder$Machine", "tree", "LGramFinder$Tree;", true)
  | 1 => ("GramFinder$Machine", "kinds", "[I", true)
  | 2 => ("GramFinder$Machine", "nexts", "[I", true)
  | 3 => ("GramFinder$Machine", "others", "[I", true)
  | 4 => ("GramFinder$Machine", "sets", "[I", true)
  | 5 => ("GramFinder$Machine", "many", "I", false)
  | 6 => ("GramFinder$Machine", "entrance", "I", false)
  | 7 => ("GramFinder$Machine", "marks", "[I", true)
  | 8 => ("GramFinder$Machine", "stack", "[I", true)
  | 9 => ("GramFinder$Machine", "stackMany", "I", false)
  | 10 => ("GramFinder$Machine", "seeds", "[I", true)
  | 11 => ("GramFinder$Machine", "seedMany", "I", false)
  | 12 => ("GramFinder$Machine", "ways", "[I", true)
  | 13 => ("GramFinder$Machine", "wayMany", "I", false)
  | 14 => ("GramFinder$Machine", "bytes", "[B", false)
  | 15 => ("GramFinder$Machine", "begin", "I", false)
  | _ => ("GramFinder$Machine", "finish", "I", false)
def E_t2 : Nat → FieldType := fun k => match k with
  | 0 => .object "GramFinder$Tree"
  | 1 => .array .int
  | 2 => .array .int
  | 3 => .array .int
  | 4 => .array .int
  | 5 => .int
  | 6 => .int
  | 7 => .array .int
  | 8 => .array .int
  | 9 => .int
  | 10 => .array .int
  | 11 => .int
  | 12 => .array .int
  | 13 => .int
  | 14 => .array .byte
  | 15 => .int
  | _ => .int
def E_T3 : u_T := fun k => match k with
  | 0 => ("GramFinder$Parser", "tree", "LGramFinder$Tree;", true)
  | 1 => ("GramFinder$Parser", "failure", "I", false)
  | 2 => ("GramFinder$Parser", "failurePlace", "I", false)
  | 3 => ("GramFinder$Parser", "source", "[B", false)
  | 4 => ("GramFinder$Parser", "length", "I", false)
  | 5 => ("GramFinder$Parser", "at", "I", false)
  | _ => ("GramFinder$Parser", "folding", "Z", false)
def E_t3 : Nat → FieldType := fun k => match k with
  | 0 => .object "GramFinder$Tree"
  | 1 => .int
  | 2 => .int
  | 3 => .array .byte
  | 4 => .int
  | 5 => .int
  | _ => .boolean
def E_T4 : u_T := fun k => match k with
  | 0 => ("GramFinder$Part", "exact", "Z", false)
  | 1 => ("GramFinder$Part", "unfolded", "Z", false)
  | 2 => ("GramFinder$Part", "texts", "LGramFinder$Texts;", true)
  | 3 => ("GramFinder$Part", "heads", "LGramFinder$Row;", true)
  | 4 => ("GramFinder$Part", "tails", "LGramFinder$Row;", true)
  | _ => ("GramFinder$Part", "want", "LGramFinder$Family;", true)
def E_t4 : Nat → FieldType := fun k => match k with
  | 0 => .boolean
  | 1 => .boolean
  | 2 => .object "GramFinder$Texts"
  | 3 => .object "GramFinder$Row"
  | 4 => .object "GramFinder$Row"
  | _ => .object "GramFinder$Family"
def E_T5 : u_T := fun k => match k with
  | 0 => ("GramFinder$Planner", "tree", "LGramFinder$Tree;", true)
  | 1 => ("GramFinder$Planner", "parts", "[LGramFinder$Part;", true)
  | 2 => ("GramFinder$Planner", "product", "LGramFinder$Family;", true)
  | 3 => ("GramFinder$Planner", "crossing", "LGramFinder$Family;", true)
  | 4 => ("GramFinder$Planner", "joined", "LGramFinder$Row;", true)
  | 5 => ("GramFinder$Planner", "core", "LGramFinder$Row;", true)
  | 6 => ("GramFinder$Planner", "keys", "LGramFinder$Row;", true)
  | 7 => ("GramFinder$Planner", "shortKeys", "LGramFinder$Row;", true)
  | 8 => ("GramFinder$Planner", "products", "LGramFinder$Texts;", true)
  | 9 => ("GramFinder$Planner", "text", "[B", true)
  | _ => ("GramFinder$Planner", "nothing", "LGramFinder$Part;", true)
def E_t5 : Nat → FieldType := fun k => match k with
  | 0 => .object "GramFinder$Tree"
  | 1 => .array (.object "GramFinder$Part")
  | 2 => .object "GramFinder$Family"
  | 3 => .object "GramFinder$Family"
  | 4 => .object "GramFinder$Row"
  | 5 => .object "GramFinder$Row"
  | 6 => .object "GramFinder$Row"
  | 7 => .object "GramFinder$Row"
  | 8 => .object "GramFinder$Texts"
  | 9 => .array .byte
  | _ => .object "GramFinder$Part"
def E_T6 : u_T := fun k => match k with
  | 0 => ("GramFinder$Report", "openedNumbers", "LGramFinder$Row;", true)
  | 1 => ("GramFinder$Report", "hitFacts", "LGramFinder$Row;", true)
  | 2 => ("GramFinder$Report", "hitMany", "I", false)
  | 3 => ("GramFinder$Report", "searches", "I", false)
  | 4 => ("GramFinder$Report", "openedInAll", "I", false)
  | 5 => ("GramFinder$Report", "hitsInAll", "I", false)
  | _ => ("GramFinder$Report", "regexSize", "I", false)
def E_t6 : Nat → FieldType := fun k => match k with
  | 0 => .object "GramFinder$Row"
  | 1 => .object "GramFinder$Row"
  | 2 => .int
  | 3 => .int
  | 4 => .int
  | 5 => .int
  | _ => .int
def E_T7 : u_T := fun k => match k with
  | 0 => ("GramFinder$Row", "items", "[I", false)
  | _ => ("GramFinder$Row", "many", "I", false)
def E_t7 : Nat → FieldType := fun k => match k with
  | 0 => .array .int
  | _ => .int
def E_T8 : u_T := fun k => match k with
  | 0 => ("GramFinder$Shelf", "entries", "[LGramFinder$Entry;", true)
  | 1 => ("GramFinder$Shelf", "union", "LGramFinder$Row;", false)
  | 2 => ("GramFinder$Shelf", "spare", "LGramFinder$Row;", false)
  | 3 => ("GramFinder$Shelf", "came", "I", false)
  | 4 => ("GramFinder$Shelf", "there", "I", false)
  | _ => ("GramFinder$Shelf", "together", "I", false)
def E_t8 : Nat → FieldType := fun k => match k with
  | 0 => .array (.object "GramFinder$Entry")
  | 1 => .object "GramFinder$Row"
  | 2 => .object "GramFinder$Row"
  | 3 => .int
  | 4 => .int
  | _ => .int
def E_T9 : u_T := fun k => match k with
  | 0 => ("GramFinder$Texts", "rows", "[[B", true)
  | 1 => ("GramFinder$Texts", "lengths", "[I", true)
  | _ => ("GramFinder$Texts", "many", "I", false)
def E_t9 : Nat → FieldType := fun k => match k with
  | 0 => .array (.array .byte)
  | 1 => .array .int
  | _ => .int
def E_T10 : u_T := fun k => match k with
  | 0 => ("GramFinder$Tree", "kinds", "[I", true)
  | 1 => ("GramFinder$Tree", "firsts", "[I", true)
  | 2 => ("GramFinder$Tree", "lasts", "[I", true)
  | 3 => ("GramFinder$Tree", "nexts", "[I", true)
  | 4 => ("GramFinder$Tree", "befores", "[I", true)
  | 5 => ("GramFinder$Tree", "lows", "[I", true)
  | 6 => ("GramFinder$Tree", "highs", "[I", true)
  | 7 => ("GramFinder$Tree", "sets", "[I", true)
  | 8 => ("GramFinder$Tree", "sizes", "[I", true)
  | 9 => ("GramFinder$Tree", "bits", "[J", true)
  | 10 => ("GramFinder$Tree", "many", "I", false)
  | _ => ("GramFinder$Tree", "setMany", "I", false)
def E_t10 : Nat → FieldType := fun k => match k with
  | 0 => .array .int
  | 1 => .array .int
  | 2 => .array .int
  | 3 => .array .int
  | 4 => .array .int
  | 5 => .array .int
  | 6 => .array .int
  | 7 => .array .int
  | 8 => .array .int
  | 9 => .array .long
  | 10 => .int
  | _ => .int
def E_T11 : u_T := fun k => match k with
  | 0 => ("GramFinder", "tape", "[B", true)
  | 1 => ("GramFinder", "tapeLength", "I", false)
  | 2 => ("GramFinder", "shelf", "LGramFinder$Shelf;", true)
  | 3 => ("GramFinder", "parser", "LGramFinder$Parser;", true)
  | 4 => ("GramFinder", "planner", "LGramFinder$Planner;", true)
  | 5 => ("GramFinder", "machine", "LGramFinder$Machine;", true)
  | _ => ("GramFinder", "report", "LGramFinder$Report;", true)
def E_t11 : Nat → FieldType := fun k => match k with
  | 0 => .array .byte
  | 1 => .int
  | 2 => .object "GramFinder$Shelf"
  | 3 => .object "GramFinder$Parser"
  | 4 => .object "GramFinder$Planner"
  | 5 => .object "GramFinder$Machine"
  | _ => .object "GramFinder$Report"
def E_T12 : u_T := fun k => match k with
  | 0 => ("GramFinderModel", "tape", "[I", true)
  | 1 => ("GramFinderModel", "taped", "I", false)
  | 2 => ("GramFinderModel", "pool", "[I", true)
  | 3 => ("GramFinderModel", "pooled", "I", false)
  | 4 => ("GramFinderModel", "fileAt", "[I", true)
  | 5 => ("GramFinderModel", "fileSize", "[I", true)
  | 6 => ("GramFinderModel", "isThere", "[Z", true)
  | 7 => ("GramFinderModel", "files", "I", false)
  | 8 => ("GramFinderModel", "came", "I", false)
  | 9 => ("GramFinderModel", "row", "[I", true)
  | 10 => ("GramFinderModel", "post", "[I", true)
  | 11 => ("GramFinderModel", "postA", "[I", true)
  | 12 => ("GramFinderModel", "postB", "[I", true)
  | 13 => ("GramFinderModel", "posts", "I", false)
  | 14 => ("GramFinderModel", "sets", "[I", true)
  | 15 => ("GramFinderModel", "setMany", "I", false)
  | 16 => ("GramFinderModel", "at", "I", false)
  | 17 => ("GramFinderModel", "isFold", "Z", false)
  | 18 => ("GramFinderModel", "fault", "I", false)
  | 19 => ("GramFinderModel", "place", "I", false)
  | 20 => ("GramFinderModel", "toldFault", "I", false)
  | 21 => ("GramFinderModel", "toldPlace", "I", false)
  | 22 => ("GramFinderModel", "open", "I", false)
  | 23 => ("GramFinderModel", "hadOr", "[Z", true)
  | 24 => ("GramFinderModel", "sizes", "[J", true)
  | 25 => ("GramFinderModel", "size", "J", false)
  | 26 => ("GramFinderModel", "exact", "[Z", true)
  | 27 => ("GramFinderModel", "textMany", "[I", true)
  | 28 => ("GramFinderModel", "textSize", "[I", true)
  | 29 => ("GramFinderModel", "texts", "[I", true)
  | 30 => ("GramFinderModel", "headMany", "[I", true)
  | 31 => ("GramFinderModel", "heads", "[I", true)
  | 32 => ("GramFinderModel", "tailMany", "[I", true)
  | 33 => ("GramFinderModel", "tails", "[I", true)
  | 34 => ("GramFinderModel", "choiceMany", "[I", true)
  | 35 => ("GramFinderModel", "choiceSize", "[I", true)
  | 36 => ("GramFinderModel", "choices", "[I", true)
  | 37 => ("GramFinderModel", "pairs", "I", false)
  | 38 => ("GramFinderModel", "pairSize", "[I", true)
  | 39 => ("GramFinderModel", "pair", "[I", true)
  | 40 => ("GramFinderModel", "isLeft", "[Z", true)
  | 41 => ("GramFinderModel", "shorts", "I", false)
  | 42 => ("GramFinderModel", "shortOnes", "[I", true)
  | 43 => ("GramFinderModel", "longs", "I", false)
  | 44 => ("GramFinderModel", "longSize", "[I", true)
  | 45 => ("GramFinderModel", "longOnes", "[I", true)
  | 46 => ("GramFinderModel", "code", "[I", true)
  | 47 => ("GramFinderModel", "codeA", "[I", true)
  | 48 => ("GramFinderModel", "coded", "I", false)
  | 49 => ("GramFinderModel", "blockAt", "[I", true)
  | 50 => ("GramFinderModel", "spare", "[I", true)
  | 51 => ("GramFinderModel", "isDead", "[Z", true)
  | 52 => ("GramFinderModel", "begins", "[I", true)
  | 53 => ("GramFinderModel", "stack", "[J", true)
  | 54 => ("GramFinderModel", "steps", "[J", true)
  | 55 => ("GramFinderModel", "holds", "[J", true)
  | 56 => ("GramFinderModel", "choiceNow", "I", false)
  | 57 => ("GramFinderModel", "choiceTold", "[I", true)
  | 58 => ("GramFinderModel", "grams", "[I", true)
  | 59 => ("GramFinderModel", "isExactNow", "Z", false)
  | 60 => ("GramFinderModel", "textNow", "[I", true)
  | 61 => ("GramFinderModel", "textLong", "[I", true)
  | 62 => ("GramFinderModel", "textOnes", "[I", true)
  | 63 => ("GramFinderModel", "hits", "I", false)
  | 64 => ("GramFinderModel", "hitFile", "[I", true)
  | 65 => ("GramFinderModel", "hitBegin", "[I", true)
  | 66 => ("GramFinderModel", "hitEnd", "[I", true)
  | 67 => ("GramFinderModel", "hitLine", "[I", true)
  | 68 => ("GramFinderModel", "openedMany", "I", false)
  | 69 => ("GramFinderModel", "openedFile", "[I", true)
  | 70 => ("GramFinderModel", "searches", "I", false)
  | 71 => ("GramFinderModel", "openedAll", "I", false)
  | 72 => ("GramFinderModel", "hitsAll", "I", false)
  | _ => ("GramFinderModel", "sizeNow", "J", false)
def E_t12 : Nat → FieldType := fun k => match k with
  | 0 => .array .int
  | 1 => .int
  | 2 => .array .int
  | 3 => .int
  | 4 => .array .int
  | 5 => .array .int
  | 6 => .array .boolean
  | 7 => .int
  | 8 => .int
  | 9 => .array .int
  | 10 => .array .int
  | 11 => .array .int
  | 12 => .array .int
  | 13 => .int
  | 14 => .array .int
  | 15 => .int
  | 16 => .int
  | 17 => .boolean
  | 18 => .int
  | 19 => .int
  | 20 => .int
  | 21 => .int
  | 22 => .int
  | 23 => .array .boolean
  | 24 => .array .long
  | 25 => .long
  | 26 => .array .boolean
  | 27 => .array .int
  | 28 => .array .int
  | 29 => .array .int
  | 30 => .array .int
  | 31 => .array .int
  | 32 => .array .int
  | 33 => .array .int
  | 34 => .array .int
  | 35 => .array .int
  | 36 => .array .int
  | 37 => .int
  | 38 => .array .int
  | 39 => .array .int
  | 40 => .array .boolean
  | 41 => .int
  | 42 => .array .int
  | 43 => .int
  | 44 => .array .int
  | 45 => .array .int
  | 46 => .array .int
  | 47 => .array .int
  | 48 => .int
  | 49 => .array .int
  | 50 => .array .int
  | 51 => .array .boolean
  | 52 => .array .int
  | 53 => .array .long
  | 54 => .array .long
  | 55 => .array .long
  | 56 => .int
  | 57 => .array .int
  | 58 => .array .int
  | 59 => .boolean
  | 60 => .array .int
  | 61 => .array .int
  | 62 => .array .int
  | 63 => .int
  | 64 => .array .int
  | 65 => .array .int
  | 66 => .array .int
  | 67 => .array .int
  | 68 => .int
  | 69 => .array .int
  | 70 => .int
  | 71 => .int
  | 72 => .int
  | _ => .long
def E_CL : List vw_C := [(E_R0, E_T0, 2), (E_R1, E_T1, 3), (E_R2, E_T2, 17), (E_R3, E_T3, 7), (E_R4, E_T4, 6), (E_R5, E_T5, 11), (E_R6, E_T6, 7), (E_R7, E_T7, 2), (E_R8, E_T8, 6), (E_R9, E_T9, 3), (E_R10, E_T10, 12), (E_R11, E_T11, 7), (E_R12, E_T12, 74)]
def E_TY : List (Nat → FieldType) := [E_t0, E_t1, E_t2, E_t3, E_t4, E_t5, E_t6, E_t7, E_t8, E_t9, E_t10, E_t11, E_t12]
def E_GT : List Cond := lw_tbl.filter goodWord
def E_FL : List (Nat × Nat × Nat × Nat) := [(7, 9, 7, 0), (7, 15, 7, 1), (1, 62, 7, 1), (8, 57, 7, 1), (11, 180, 7, 1), (5, 267, 7, 1), (8, 11, 8, 0), (8, 20, 8, 1), (8, 24, 8, 2), (8, 27, 8, 3), (11, 126, 8, 3), (8, 31, 8, 4), (11, 211, 8, 4), (8, 34, 8, 5), (11, 214, 8, 5), (10, 9, 10, 0), (10, 15, 10, 1), (10, 18, 10, 2), (10, 21, 10, 3), (10, 24, 10, 4), (10, 27, 10, 5), (10, 30, 10, 6), (10, 33, 10, 7), (10, 36, 10, 8), (10, 39, 10, 9), (10, 43, 10, 10), (10, 47, 10, 11), (3, 12, 3, 0), (11, 29, 3, 0), (3, 29, 3, 1), (11, 94, 3, 1), (3, 18, 3, 2), (11, 161, 3, 2), (3, 22, 3, 3), (3, 32, 3, 4), (3, 35, 3, 5), (3, 38, 3, 6), (1, 15, 1, 0), (1, 21, 1, 1), (1, 25, 1, 2), (11, 173, 1, 2), (5, 284, 1, 2), (9, 11, 9, 0), (9, 16, 9, 1), (9, 20, 9, 2), (5, 219, 9, 2), (11, 194, 9, 2), (4, 41, 4, 0), (5, 162, 4, 0), (11, 186, 4, 0), (4, 45, 4, 1), (5, 232, 4, 1), (4, 12, 4, 2), (5, 169, 4, 2), (11, 190, 4, 2), (4, 21, 4, 3), (5, 179, 4, 3), (11, 197, 4, 3), (4, 25, 4, 4), (5, 176, 4, 4), (11, 200, 4, 4), (4, 33, 4, 5), (5, 90, 4, 5), (11, 120, 4, 5), (5, 61, 5, 0), (5, 11, 5, 1), (5, 22, 5, 2), (5, 26, 5, 3), (5, 32, 5, 4), (5, 36, 5, 5), (5, 39, 5, 6), (5, 42, 5, 7), (5, 48, 5, 8), (5, 52, 5, 9), (5, 57, 5, 10), (2, 47, 2, 0), (2, 9, 2, 1), (2, 15, 2, 2), (2, 18, 2, 3), (2, 21, 2, 4), (2, 51, 2, 5), (2, 68, 2, 6), (2, 24, 2, 7), (2, 27, 2, 8), (2, 136, 2, 9), (2, 30, 2, 10), (2, 109, 2, 11), (2, 33, 2, 12), (2, 125, 2, 13), (2, 36, 2, 14), (2, 40, 2, 15), (11, 146, 2, 15), (2, 44, 2, 16), (11, 148, 2, 16), (6, 12, 6, 0), (6, 18, 6, 1), (6, 24, 6, 2), (11, 158, 6, 2), (6, 28, 6, 3), (11, 170, 6, 3), (6, 38, 6, 4), (11, 223, 6, 4), (6, 41, 6, 5), (11, 226, 6, 5), (6, 31, 6, 6), (11, 229, 6, 6), (11, 9, 11, 0), (11, 54, 11, 1), (11, 16, 11, 2), (11, 23, 11, 3), (11, 36, 11, 4), (11, 43, 11, 5), (11, 50, 11, 6), (0, 9, 0, 0), (8, 46, 0, 0), (11, 78, 0, 0), (0, 18, 0, 1), (8, 50, 0, 1), (11, 129, 0, 1), (12, 7, 12, 0), (12, 162, 12, 1), (12, 13, 12, 2), (12, 168, 12, 3), (12, 16, 12, 4), (12, 19, 12, 5), (12, 22, 12, 6), (12, 171, 12, 7), (12, 165, 12, 8), (12, 26, 12, 9), (12, 29, 12, 10), (12, 32, 12, 11), (12, 35, 12, 12), (12, 196, 12, 13), (12, 38, 12, 14), (12, 205, 12, 15), (12, 222, 12, 16), (12, 214, 12, 17), (12, 190, 12, 18), (12, 193, 12, 19), (12, 506, 12, 20), (12, 41, 12, 21), (12, 225, 12, 22), (12, 45, 12, 23), (12, 48, 12, 24), (12, 52, 12, 26), (12, 55, 12, 27), (12, 58, 12, 28), (12, 61, 12, 29), (12, 64, 12, 30), (12, 67, 12, 31), (12, 70, 12, 32), (12, 73, 12, 33), (12, 76, 12, 34), (12, 79, 12, 35), (12, 83, 12, 36), (12, 311, 12, 37), (12, 86, 12, 38), (12, 90, 12, 39), (12, 93, 12, 40), (12, 290, 12, 41), (12, 96, 12, 42), (12, 336, 12, 43), (12, 99, 12, 44), (12, 102, 12, 45), (12, 105, 12, 46), (12, 108, 12, 47), (12, 406, 12, 48), (12, 111, 12, 49), (12, 114, 12, 50), (12, 117, 12, 51), (12, 120, 12, 52), (12, 123, 12, 53), (12, 126, 12, 54), (12, 129, 12, 55), (12, 473, 12, 56), (12, 132, 12, 57), (12, 135, 12, 58), (12, 485, 12, 59), (12, 138, 12, 60), (12, 141, 12, 61), (12, 144, 12, 62), (12, 466, 12, 63), (12, 147, 12, 64), (12, 150, 12, 65), (12, 153, 12, 66), (12, 156, 12, 67), (12, 451, 12, 68), (12, 159, 12, 69), (12, 528, 12, 70), (12, 531, 12, 71), (12, 534, 12, 72), (12, 509, 12, 73)]
def E_FLi : List Nat := [184, 185, 186, 187, 188, 189, 197, 198, 199, 200, 201, 202, 203, 204, 205, 231, 232, 233, 234, 235, 236, 237, 238, 239, 240, 241, 242, 269, 270, 271, 272, 273, 274, 275, 276, 277, 278, 313, 314, 315, 316, 317, 335, 336, 337, 338, 339, 358, 359, 360, 361, 362, 363, 364, 365, 366, 367, 368, 369, 370, 371, 372, 373, 374, 388, 389, 390, 391, 392, 393, 394, 395, 396, 397, 398, 428, 429, 430, 431, 432, 433, 434, 435, 436, 437, 438, 439, 440, 441, 442, 443, 444, 445, 446, 490, 491, 492, 493, 494, 495, 496, 497, 498, 499, 500, 501, 517, 518, 519, 520, 521, 522, 523, 566, 567, 568, 569, 570, 571, 1309, 1310, 1311, 1312, 1313, 1314, 1315, 1316, 1317, 1318, 1319, 1320, 1321, 1322, 1323, 1324, 1325, 1326, 1327, 1328, 1329, 1330, 1331, 1332, 1333, 1334, 1335, 1336, 1337, 1338, 1339, 1340, 1341, 1342, 1343, 1344, 1345, 1346, 1347, 1348, 1349, 1350, 1351, 1352, 1353, 1354, 1355, 1356, 1357, 1358, 1359, 1360, 1361, 1362, 1363, 1364, 1365, 1366, 1367, 1368, 1369, 1370, 1371, 1372, 1373, 1374, 1375, 1376, 1377, 1378, 1379, 1380, 1381]
def E_ML : List (Nat × Nat × Nat) := [(11, 33, 54), (5, 19, 3), (1, 7, 288), (4, 30, 3), (11, 42, 16), (11, 58, 162), (11, 62, 102), (8, 38, 1), (0, 22, 293), (16, 304, 289), (0, 28, 89), (0, 39, 91), (7, 23, 98), (7, 27, 88), (7, 19, 99), (7, 43, 288), (7, 49, 294), (11, 66, 103), (8, 42, 101), (11, 70, 104), (11, 74, 101), (11, 83, 163), (11, 86, 105), (8, 53, 92), (11, 90, 32), (3, 26, 119), (3, 42, 33), (3, 46, 35), (3, 57, 121), (3, 61, 36), (3, 67, 34), (3, 74, 37), (3, 77, 41), (3, 97, 42), (3, 100, 48), (3, 112, 135), (10, 82, 291), (16, 13, 290), (3, 140, 49), (3, 128, 46), (3, 131, 140), (10, 97, 138), (10, 88, 143), (3, 143, 50), (3, 134, 47), (3, 146, 139), (3, 125, 141), (10, 110, 136), (3, 118, 142), (3, 122, 123), (10, 61, 121), (3, 103, 45), (3, 115, 138), (3, 106, 43), (3, 109, 44), (3, 50, 134), (10, 79, 288), (3, 80, 122), (10, 55, 289), (3, 84, 38), (3, 87, 40), (3, 94, 39), (3, 64, 124), (10, 64, 128), (10, 68, 134), (10, 71, 125), (3, 71, 125), (11, 97, 56), (5, 69, 58), (5, 105, 109), (5, 108, 112), (9, 32, 115), (9, 24, 110), (9, 44, 111), (9, 36, 116), (9, 40, 117), (5, 112, 52), (4, 37, 114), (9, 48, 113), (5, 73, 120), (5, 79, 60), (5, 121, 126), (5, 125, 61), (5, 141, 127), (5, 144, 129), (5, 65, 57), (5, 96, 289), (5, 102, 288), (5, 147, 66), (5, 201, 68), (5, 230, 114), (5, 226, 113), (5, 87, 69), (5, 116, 89), (5, 235, 111), (5, 241, 91), (5, 207, 75), (5, 268, 88), (5, 274, 92), (5, 278, 90), (5, 194, 93), (5, 244, 71), (5, 223, 110), (11, 208, 172), (5, 211, 4), (5, 248, 70), (5, 258, 6), (1, 33, 97), (1, 37, 14), (1, 43, 5), (1, 29, 289), (1, 47, 95), (1, 51, 15), (1, 55, 93), (5, 252, 8), (5, 204, 94), (7, 36, 89), (7, 39, 90), (5, 212, 7), (1, 59, 6), (5, 216, 78), (5, 285, 11), (1, 67, 89), (1, 70, 88), (1, 74, 92), (1, 78, 90), (5, 128, 62), (5, 151, 65), (5, 172, 67), (5, 182, 76), (5, 281, 77), (5, 186, 73), (5, 271, 72), (5, 190, 74), (5, 197, 79), (5, 288, 9), (5, 292, 5), (5, 296, 80), (5, 131, 63), (5, 154, 131), (5, 157, 132), (5, 160, 59), (5, 117, 53), (4, 48, 89), (4, 51, 90), (4, 54, 4), (4, 55, 6), (5, 134, 133), (5, 137, 64), (5, 166, 137), (10, 91, 287), (14, 311, 286), (5, 83, 55), (5, 93, 12), (1, 82, 96), (11, 100, 17), (2, 54, 22), (2, 58, 120), (2, 64, 18), (2, 71, 134), (2, 75, 126), (2, 78, 19), (2, 90, 128), (2, 93, 130), (2, 81, 20), (2, 84, 21), (2, 96, 127), (2, 99, 131), (2, 102, 132), (2, 87, 133), (11, 103, 120), (11, 109, 134), (11, 113, 82), (6, 21, 89), (11, 116, 55), (11, 133, 10), (1, 63, 13), (11, 139, 83), (6, 34, 90), (11, 142, 23), (2, 112, 292), (2, 118, 24), (2, 132, 25), (2, 139, 26), (2, 143, 27), (2, 146, 28), (2, 149, 29), (2, 122, 30), (2, 161, 136), (11, 151, 2), (11, 154, 84), (11, 164, 86), (6, 44, 88), (11, 167, 85), (11, 176, 5), (11, 183, 88), (11, 203, 159), (11, 205, 111), (11, 217, 107), (8, 60, 89), (8, 63, 94), (11, 220, 106), (12, 174, 178), (12, 178, 177), (12, 182, 179), (12, 186, 185), (12, 497, 203), (12, 228, 190), (12, 232, 192), (12, 236, 204), (12, 240, 191), (12, 243, 205), (12, 249, 207), (12, 258, 198), (12, 267, 201), (12, 202, 193), (12, 208, 195), (12, 199, 194), (12, 211, 199), (12, 270, 208), (12, 273, 209), (12, 264, 196), (12, 261, 202), (12, 218, 200), (12, 252, 206), (12, 255, 197), (12, 246, 210), (12, 277, 211), (12, 500, 212), (12, 513, 258), (12, 423, 257), (12, 516, 249), (12, 400, 238), (12, 358, 237), (12, 385, 236), (12, 391, 243), (12, 367, 242), (12, 308, 222), (12, 364, 241), (12, 361, 240), (12, 370, 239), (12, 373, 235), (12, 342, 223), (12, 281, 213), (12, 284, 214), (12, 287, 215), (12, 301, 216), (12, 345, 221), (12, 348, 220), (12, 305, 219), (12, 297, 218), (12, 293, 217), (12, 352, 224), (12, 355, 234), (12, 339, 187), (12, 333, 227), (12, 317, 226), (12, 314, 225), (12, 320, 228), (12, 376, 232), (12, 326, 230), (12, 330, 231), (12, 323, 229), (12, 379, 244), (12, 388, 245), (12, 382, 233), (12, 394, 246), (12, 397, 247), (12, 403, 248), (12, 519, 275), (12, 488, 271), (12, 479, 270), (12, 491, 273), (12, 482, 272), (12, 494, 274), (12, 522, 269), (12, 469, 188), (12, 476, 189), (12, 525, 268), (12, 454, 262), (12, 432, 260), (12, 436, 261), (12, 457, 259), (12, 412, 250), (12, 426, 252), (12, 409, 251), (12, 417, 253), (12, 420, 254), (12, 429, 255), (12, 414, 256), (12, 460, 266), (12, 441, 263), (12, 445, 265), (12, 448, 264), (12, 463, 267), (12, 537, 285)]
def E_MLi : List Nat := [296, 304, 308, 357, 424, 543, 555, 577, 581, 591, 597, 607, 611, 615, 619, 623, 624, 637, 641, 649, 657, 662, 667, 671, 679, 683, 687, 691, 695, 702, 706, 711, 715, 719, 723, 727, 731, 734, 737, 741, 744, 757, 761, 765, 769, 776, 780, 784, 788, 793, 797, 798, 802, 803, 807, 811, 818, 819, 824, 825, 829, 833, 837, 841, 845, 846, 850, 851, 855, 859, 863, 867, 871, 875, 880, 886, 891, 895, 899, 903, 907, 911, 915, 919, 923, 927, 931, 932, 933, 937, 941, 942, 943, 947, 948, 952, 953, 957, 961, 962, 966, 970, 973, 977, 978, 982, 987, 991, 996, 1001, 1005, 1007, 1011, 1015, 1016, 1020, 1024, 1025, 1026, 1030, 1031, 1035, 1039, 1040, 1041, 1042, 1043, 1047, 1051, 1055, 1059, 1063, 1067, 1070, 1074, 1078, 1082, 1083, 1087, 1091, 1095, 1099, 1103, 1107, 1108, 1109, 1110, 1111, 1115, 1119, 1123, 1126, 1130, 1134, 1138, 1142, 1146, 1151, 1152, 1156, 1157, 1158, 1162, 1163, 1167, 1171, 1175, 1176, 1177, 1178, 1179, 1180, 1181, 1185, 1186, 1187, 1191, 1194, 1198, 1199, 1203, 1206, 1211, 1215, 1219, 1223, 1227, 1233, 1237, 1238, 1242, 1254, 1258, 1263, 1271, 1276, 1285, 1286, 1291, 1295, 1296, 1297, 1544, 1552, 1556, 1576, 1585, 1589, 1593, 1597, 1601, 1605, 1609, 1613, 1617, 1621, 1624, 1627, 1630, 1634, 1638, 1642, 1645, 1649, 1653, 1657, 1660, 1664, 1668, 1673, 1677, 1681, 1685, 1689, 1693, 1697, 1701, 1705, 1709, 1713, 1717, 1721, 1725, 1729, 1732, 1735, 1738, 1742, 1746, 1750, 1754, 1758, 1761, 1765, 1769, 1773, 1777, 1781, 1785, 1789, 1793, 1797, 1801, 1805, 1809, 1813, 1817, 1821, 1825, 1829, 1833, 1837, 1841, 1845, 1849, 1853, 1857, 1861, 1865, 1869, 1873, 1877, 1881, 1885, 1889, 1893, 1897, 1901, 1905, 1909, 1913, 1917, 1921, 1925, 1930, 1966]
def E_MN : List (Nat × Nat × Nat) := [(11, 15, 100), (8, 19, 87), (11, 22, 31), (3, 11, 118), (5, 31, 87), (5, 47, 108), (5, 56, 51), (4, 11, 108), (4, 20, 87), (11, 49, 81), (6, 11, 87), (8, 37, 0), (0, 17, 87), (0, 31, 163), (0, 35, 170), (10, 50, 165), (3, 53, 163), (10, 100, 166), (10, 104, 168), (10, 107, 169), (3, 137, 167), (3, 90, 166), (10, 75, 164), (9, 28, 163), (9, 51, 164), (9, 55, 165), (5, 238, 171), (5, 264, 172), (5, 261, 173), (5, 254, 170), (1, 32, 87), (2, 105, 165), (2, 128, 164), (2, 153, 163), (2, 157, 168)]
def E_MNi : List Nat := [172, 180, 221, 227, 326, 329, 348, 353, 355, 484, 489, 560, 565, 601, 604, 699, 710, 748, 751, 754, 772, 775, 815, 879, 884, 885, 949, 958, 974, 986, 1006, 1150, 1210, 1231, 1232]
def E_OI : List (Nat × Nat) := [(11, 3), (8, 3), (7, 3), (3, 3), (10, 3), (5, 3), (1, 1), (9, 3), (4, 3), (2, 3), (6, 3), (0, 3), (12, 1)]
def E_OIi : List Nat := [167, 175, 183, 224, 230, 299, 307, 332, 351, 427, 487, 563, 1306]
def E_AC : List (Nat × Nat) := [(16, 150), (7, 30), (9, 59)]
def E_ACi : List Nat := [594, 632, 890]
def E_KN : List (Nat × Nat × String) := [(11, 13, E_R8), (8, 9, E_R0), (8, 17, E_R7), (11, 20, E_R3), (3, 9, E_R10), (11, 27, E_R5), (5, 9, E_R4), (5, 17, E_R1), (1, 13, E_R7), (5, 29, E_R7), (5, 45, E_R9), (9, 9, "[[B"), (4, 9, E_R9), (4, 18, E_R7), (4, 28, E_R1), (11, 40, E_R2), (11, 47, E_R6), (6, 9, E_R7), (0, 15, E_R7), (16, 311, "[B"), (16, 317, "[I")]
def E_KNi : List Nat := [170, 176, 178, 219, 225, 294, 300, 302, 311, 325, 327, 333, 352, 354, 356, 422, 482, 488, 564, 590, 631]
def E_KI : List (Nat × Nat × Int32) := [(10, 54, 1000000), (7, 42, -1640531535), (13, 264, 65536), (12, 82, 675840), (12, 89, 371200), (12, 185, 65536), (12, 280, 131072)]
def E_KIi : List Nat := [823, 995, 1129, 1307, 1308, 1580, 1741]
def E_KL : List (Nat × Nat × Int64) := [(10, 114, -1), (1, 41, -1), (12, 504, 200), (12, 439, -1)]
def E_KLi : List Nat := [792, 1000, 1672, 1929]
def E_c0 : List E_C := [(0, .aload_n 0, 1, 0, 0), (1, .invokespecial 3, 3, 999, 0), (4, .aload_n 0, 1, 0, 0), (5, .iconst 0, 1, 0, 0), (6, .newarray .byte, 2, 1, 0), (8, .putfield 9, 3, 0, 0), (11, .aload_n 0, 1, 0, 0), (12, .new 15, 3, 7, 0), (15, .dup, 1, 0, 0), (16, .invokespecial 17, 3, 87, 1), (19, .putfield 18, 3, 0, 1), (22, .return_, 1, 0, 0)]
def E_m0 : E_MI := (0, ⟨E_R0, "<init>", "()V"⟩, prog_2_method_1_code, 1, (Option.none : Option FieldType), false, 0, E_c0)
def E_c1 : List E_C := [(0, .iload_n 2, 1, 0, 0), (1, .ifCond .lt 9, 3, 0, 0), (4, .iload_n 2, 1, 0, 0), (5, .aload_n 1, 1, 0, 0), (6, .arraylength, 1, 0, 0), (7, .if_icmp .le 4, 3, 0, 0), (10, .return_, 1, 0, 0), (11, .aload_n 0, 1, 0, 0), (12, .aload_n 1, 1, 0, 0), (13, .iload_n 2, 1, 0, 0), (14, .invokestatic 22, 3, 293, 0), (17, .putfield 9, 3, 0, 0), (20, .aload_n 0, 1, 0, 0), (21, .getfield 18, 3, 0, 1), (24, .invokevirtual 28, 3, 89, 0), (27, .iconst 0, 1, 0, 0), (28, .istore_n 3, 1, 0, 0), (29, .iload_n 3, 1, 0, 0), (30, .iconst 2, 1, 0, 0), (31, .iadd, 1, 0, 0), (32, .iload_n 2, 1, 0, 0), (33, .if_icmp .ge 47, 3, 0, 0), (36, .aload_n 0, 1, 0, 0), (37, .getfield 18, 3, 0, 1), (40, .aload_n 0, 1, 0, 0), (41, .getfield 9, 3, 0, 0), (44, .iload_n 3, 1, 0, 0), (45, .invokestatic 31, 3, 163, 1), (48, .aload_n 0, 1, 0, 0), (49, .getfield 9, 3, 0, 0), (52, .iload_n 3, 1, 0, 0), (53, .iconst 1, 1, 0, 0), (54, .iadd, 1, 0, 0), (55, .invokestatic 31, 3, 163, 1), (58, .aload_n 0, 1, 0, 0), (59, .getfield 9, 3, 0, 0), (62, .iload_n 3, 1, 0, 0), (63, .iconst 2, 1, 0, 0), (64, .iadd, 1, 0, 0), (65, .invokestatic 31, 3, 163, 1), (68, .invokestatic 35, 3, 170, 1), (71, .invokevirtual 39, 3, 91, 0), (74, .iinc 3 1, 3, 0, 0), (77, .goto (-48), 3, 0, 0), (80, .return_, 1, 0, 0)]
def E_m1 : E_MI := (0, ⟨E_R0, "fill", "([BI)V"⟩, prog_2_method_2_code, 4, (Option.none : Option FieldType), false, 2, E_c1)
def E_c2 : List E_C := [(0, .iconst 1, 1, 0, 0), (1, .istore_n 2, 1, 0, 0), (2, .iconst 0, 1, 0, 0), (3, .istore_n 3, 1, 0, 0), (4, .iload_n 3, 1, 0, 0), (5, .iload_n 1, 1, 0, 0), (6, .if_icmp .ge 37, 3, 0, 0), (9, .iload_n 3, 1, 0, 0), (10, .aload_n 0, 1, 0, 0), (11, .getfield 9, 3, 0, 0), (14, .arraylength, 1, 0, 0), (15, .if_icmp .ge 28, 3, 0, 0), (18, .iload_n 2, 1, 0, 0), (19, .aload_n 0, 1, 0, 0), (20, .getfield 9, 3, 0, 0), (23, .iload_n 3, 1, 0, 0), (24, .baload, 1, 0, 0), (25, .bipush 10, 2, 0, 0), (27, .if_icmp .ne 7, 3, 0, 0), (30, .iconst 1, 1, 0, 0), (31, .goto 4, 3, 0, 0), (34, .iconst 0, 1, 0, 0), (35, .iadd, 1, 0, 0), (36, .istore_n 2, 1, 0, 0), (37, .iinc 3 1, 3, 0, 0), (40, .goto (-36), 3, 0, 0), (43, .iload_n 2, 1, 0, 0), (44, .ireturn, 1, 0, 0)]
def E_m2 : E_MI := (0, ⟨E_R0, "lineOf", "(I)I"⟩, prog_2_method_3_code, 4, (Option.some FieldType.int), false, 1, E_c2)
def E_c3 : List E_C := [(0, .aload_n 0, 1, 0, 0), (1, .invokespecial 1, 3, 999, 0), (4, .iconst 1, 1, 0, 0), (5, .iload_n 1, 1, 0, 0), (6, .invokestatic 7, 3, 288, 0), (9, .istore_n 2, 1, 0, 0), (10, .aload_n 0, 1, 0, 0), (11, .iload_n 2, 1, 0, 0), (12, .anewarray 13, 3, 4, 0), (15, .putfield 15, 3, 1, 0), (18, .aload_n 0, 1, 0, 0), (19, .iload_n 2, 1, 0, 0), (20, .newarray .long, 2, 3, 0), (22, .putfield 21, 3, 1, 1), (25, .return_, 1, 0, 0)]
def E_m3 : E_MI := (1, ⟨E_R1, "<init>", "(I)V"⟩, prog_3_method_1_code, 3, (Option.none : Option FieldType), false, 1, E_c3)
def E_c4 : List E_C := [(0, .aload_n 0, 1, 0, 0), (1, .iconst 0, 1, 0, 0), (2, .putfield 25, 3, 1, 2), (5, .return_, 1, 0, 0)]
def E_m4 : E_MI := (1, ⟨E_R1, "clear", "()V"⟩, prog_3_method_2_code, 1, (Option.none : Option FieldType), false, 0, E_c4)
def E_c5 : List E_C := [(0, .iconst 0, 1, 0, 0), (1, .iload_n 1, 1, 0, 0), (2, .aload_n 0, 1, 0, 0), (3, .getfield 15, 3, 1, 0), (6, .arraylength, 1, 0, 0), (7, .iconst 1, 1, 0, 0), (8, .isub, 1, 0, 0), (9, .invokestatic 29, 3, 289, 0), (12, .invokestatic 7, 3, 288, 0), (15, .istore_n 2, 1, 0, 0), (16, .aload_n 0, 1, 0, 0), (17, .getfield 15, 3, 1, 0), (20, .iload_n 2, 1, 0, 0), (21, .aaload, 1, 0, 0), (22, .ifnonnull 16, 3, 0, 0), (25, .aload_n 0, 1, 0, 0), (26, .getfield 15, 3, 1, 0), (29, .iload_n 2, 1, 0, 0), (30, .new 13, 3, 7, 0), (33, .dup, 1, 0, 0), (34, .invokespecial 32, 3, 87, 1), (37, .aastore, 1, 0, 0), (38, .aload_n 0, 1, 0, 0), (39, .getfield 15, 3, 1, 0), (42, .iload_n 2, 1, 0, 0), (43, .aaload, 1, 0, 0), (44, .areturn, 1, 0, 0)]
def E_m5 : E_MI := (1, ⟨E_R1, "row", "(I)LGramFinder$Row;"⟩, prog_3_method_3_code, 3, (Option.some (FieldType.object "GramFinder$Row")), false, 1, E_c5)
def E_c6 : List E_C := [(0, .aload_n 1, 1, 0, 0), (1, .invokevirtual 33, 3, 97, 0), (4, .lstore_n 2, 1, 0, 0), (5, .iconst 0, 1, 0, 0), (6, .istore 4, 2, 0, 0), (8, .iload 4, 2, 0, 0), (10, .aload_n 0, 1, 0, 0), (11, .getfield 25, 3, 1, 2), (14, .if_icmp .ge 40, 3, 0, 0), (17, .aload_n 0, 1, 0, 0), (18, .iload 4, 2, 0, 0), (20, .invokevirtual 37, 3, 14, 0), (23, .lload_n 2, 1, 0, 0), (24, .ldc2_w 41, 3, 0, 0), (27, .lxor, 1, 0, 0), (28, .land, 1, 0, 0), (29, .lconst 0, 1, 0, 0), (30, .lcmp, 1, 0, 0), (31, .ifCond .ne 17, 3, 0, 0), (34, .aload_n 0, 1, 0, 0), (35, .iload 4, 2, 0, 0), (37, .invokevirtual 43, 3, 5, 0), (40, .aload_n 1, 1, 0, 0), (41, .invokevirtual 47, 3, 95, 0), (44, .ifCond .eq 4, 3, 0, 0), (47, .return_, 1, 0, 0), (48, .iinc 4 1, 3, 0, 0), (51, .goto (-43), 3, 0, 0), (54, .iconst 0, 1, 0, 0), (55, .istore 4, 2, 0, 0), (57, .iconst 0, 1, 0, 0), (58, .istore 5, 2, 0, 0), (60, .iload 5, 2, 0, 0), (62, .aload_n 0, 1, 0, 0), (63, .getfield 25, 3, 1, 2), (66, .if_icmp .ge 50, 3, 0, 0), (69, .lload_n 2, 1, 0, 0), (70, .aload_n 0, 1, 0, 0), (71, .iload 5, 2, 0, 0), (73, .invokevirtual 37, 3, 14, 0), (76, .ldc2_w 41, 3, 0, 0), (79, .lxor, 1, 0, 0), (80, .land, 1, 0, 0), (81, .lconst 0, 1, 0, 0), (82, .lcmp, 1, 0, 0), (83, .ifCond .ne 16, 3, 0, 0), (86, .aload_n 1, 1, 0, 0), (87, .aload_n 0, 1, 0, 0), (88, .iload 5, 2, 0, 0), (90, .invokevirtual 43, 3, 5, 0), (93, .invokevirtual 47, 3, 95, 0), (96, .ifCond .ne 14, 3, 0, 0), (99, .aload_n 0, 1, 0, 0), (100, .iload 4, 2, 0, 0), (102, .iload 5, 2, 0, 0), (104, .invokevirtual 51, 3, 15, 0), (107, .iinc 4 1, 3, 0, 0), (110, .iinc 5 1, 3, 0, 0), (113, .goto (-53), 3, 0, 0), (116, .aload_n 0, 1, 0, 0), (117, .iload 4, 2, 0, 0), (119, .putfield 25, 3, 1, 2), (122, .aload_n 0, 1, 0, 0), (123, .getfield 25, 3, 1, 2), (126, .ifCond .lt 59, 3, 0, 0), (129, .aload_n 0, 1, 0, 0), (130, .getfield 25, 3, 1, 2), (133, .aload_n 0, 1, 0, 0), (134, .getfield 15, 3, 1, 0), (137, .arraylength, 1, 0, 0), (138, .if_icmp .ge 47, 3, 0, 0), (141, .aload_n 0, 1, 0, 0), (142, .getfield 25, 3, 1, 2), (145, .aload_n 0, 1, 0, 0), (146, .getfield 21, 3, 1, 1), (149, .arraylength, 1, 0, 0), (150, .if_icmp .ge 35, 3, 0, 0), (153, .aload_n 0, 1, 0, 0), (154, .aload_n 0, 1, 0, 0), (155, .getfield 25, 3, 1, 2), (158, .invokevirtual 43, 3, 5, 0), (161, .aload_n 1, 1, 0, 0), (162, .invokevirtual 55, 3, 93, 0), (165, .aload_n 0, 1, 0, 0), (166, .getfield 21, 3, 1, 1), (169, .aload_n 0, 1, 0, 0), (170, .getfield 25, 3, 1, 2), (173, .lload_n 2, 1, 0, 0), (174, .lastore, 1, 0, 0), (175, .aload_n 0, 1, 0, 0), (176, .dup, 1, 0, 0), (177, .getfield 25, 3, 1, 2), (180, .iconst 1, 1, 0, 0), (181, .iadd, 1, 0, 0), (182, .putfield 25, 3, 1, 2), (185, .return_, 1, 0, 0)]
def E_m6 : E_MI := (1, ⟨E_R1, "offer", "(LGramFinder$Row;)V"⟩, prog_3_method_4_code, 6, (Option.none : Option FieldType), false, 1, E_c6)
def E_c7 : List E_C := [(0, .iconst 0, 1, 0, 0), (1, .istore_n 2, 1, 0, 0), (2, .iload_n 2, 1, 0, 0), (3, .aload_n 1, 1, 0, 0), (4, .getfield 25, 3, 1, 2), (7, .if_icmp .ge 18, 3, 0, 0), (10, .aload_n 0, 1, 0, 0), (11, .aload_n 1, 1, 0, 0), (12, .iload_n 2, 1, 0, 0), (13, .invokevirtual 43, 3, 5, 0), (16, .invokevirtual 59, 3, 6, 0), (19, .iinc 2 1, 3, 0, 0), (22, .goto (-20), 3, 0, 0), (25, .return_, 1, 0, 0)]
def E_m7 : E_MI := (1, ⟨E_R1, "offerAll", "(LGramFinder$Family;)V"⟩, prog_3_method_5_code, 3, (Option.none : Option FieldType), false, 1, E_c7)
def E_c8 : List E_C := [(0, .aload_n 0, 1, 0, 0), (1, .iconst 0, 1, 0, 0), (2, .putfield 25, 3, 1, 2), (5, .iconst 0, 1, 0, 0), (6, .istore_n 2, 1, 0, 0), (7, .iload_n 2, 1, 0, 0), (8, .aload_n 1, 1, 0, 0), (9, .getfield 25, 3, 1, 2), (12, .if_icmp .ge 61, 3, 0, 0), (15, .iload_n 2, 1, 0, 0), (16, .aload_n 0, 1, 0, 0), (17, .getfield 15, 3, 1, 0), (20, .arraylength, 1, 0, 0), (21, .if_icmp .ge 52, 3, 0, 0), (24, .iload_n 2, 1, 0, 0), (25, .aload_n 0, 1, 0, 0), (26, .getfield 21, 3, 1, 1), (29, .arraylength, 1, 0, 0), (30, .if_icmp .ge 43, 3, 0, 0), (33, .aload_n 0, 1, 0, 0), (34, .iload_n 2, 1, 0, 0), (35, .invokevirtual 43, 3, 5, 0), (38, .aload_n 1, 1, 0, 0), (39, .iload_n 2, 1, 0, 0), (40, .invokevirtual 43, 3, 5, 0), (43, .invokevirtual 55, 3, 93, 0), (46, .aload_n 0, 1, 0, 0), (47, .getfield 21, 3, 1, 1), (50, .iload_n 2, 1, 0, 0), (51, .aload_n 1, 1, 0, 0), (52, .iload_n 2, 1, 0, 0), (53, .invokevirtual 37, 3, 14, 0), (56, .lastore, 1, 0, 0), (57, .aload_n 0, 1, 0, 0), (58, .dup, 1, 0, 0), (59, .getfield 25, 3, 1, 2), (62, .iconst 1, 1, 0, 0), (63, .iadd, 1, 0, 0), (64, .putfield 25, 3, 1, 2), (67, .iinc 2 1, 3, 0, 0), (70, .goto (-63), 3, 0, 0), (73, .return_, 1, 0, 0)]
def E_m8 : E_MI := (1, ⟨E_R1, "copyFrom", "(LGramFinder$Family;)V"⟩, prog_3_method_6_code, 3, (Option.none : Option FieldType), false, 1, E_c8)
def E_c9 : List E_C := [(0, .aload_n 0, 1, 0, 0), (1, .getfield 25, 3, 1, 2), (4, .iconst 1, 1, 0, 0), (5, .if_icmp .ne 18, 3, 0, 0), (8, .aload_n 0, 1, 0, 0), (9, .iconst 0, 1, 0, 0), (10, .invokevirtual 43, 3, 5, 0), (13, .getfield 62, 3, 7, 1), (16, .ifCond .ne 7, 3, 0, 0), (19, .iconst 1, 1, 0, 0), (20, .goto 4, 3, 0, 0), (23, .iconst 0, 1, 0, 0), (24, .ireturn, 1, 0, 0)]
def E_m9 : E_MI := (1, ⟨E_R1, "isAll", "()Z"⟩, prog_3_method_7_code, 1, (Option.some FieldType.boolean), false, 0, E_c9)
def E_c10 : List E_C := [(0, .iconst 0, 1, 0, 0), (1, .istore_n 2, 1, 0, 0), (2, .iload_n 2, 1, 0, 0), (3, .aload_n 0, 1, 0, 0), (4, .getfield 25, 3, 1, 2), (7, .if_icmp .ge 23, 3, 0, 0), (10, .aload_n 1, 1, 0, 0), (11, .aload_n 0, 1, 0, 0), (12, .iload_n 2, 1, 0, 0), (13, .invokevirtual 43, 3, 5, 0), (16, .invokestatic 63, 3, 13, 0), (19, .ifCond .eq 5, 3, 0, 0), (22, .iconst 1, 1, 0, 0), (23, .ireturn, 1, 0, 0), (24, .iinc 2 1, 3, 0, 0), (27, .goto (-25), 3, 0, 0), (30, .iconst 0, 1, 0, 0), (31, .ireturn, 1, 0, 0)]
def E_m10 : E_MI := (1, ⟨E_R1, "isMetBy", "(LGramFinder$Row;)Z"⟩, prog_3_method_8_code, 3, (Option.some FieldType.boolean), false, 1, E_c10)
def E_c11 : List E_C := [(0, .aload_n 1, 1, 0, 0), (1, .invokevirtual 67, 3, 89, 0), (4, .iconst 0, 1, 0, 0), (5, .istore_n 2, 1, 0, 0), (6, .aload_n 0, 1, 0, 0), (7, .getfield 25, 3, 1, 2), (10, .ifCond .le 79, 3, 0, 0), (13, .iload_n 2, 1, 0, 0), (14, .aload_n 0, 1, 0, 0), (15, .iconst 0, 1, 0, 0), (16, .invokevirtual 43, 3, 5, 0), (19, .getfield 62, 3, 7, 1), (22, .if_icmp .ge 67, 3, 0, 0), (25, .aload_n 0, 1, 0, 0), (26, .iconst 0, 1, 0, 0), (27, .invokevirtual 43, 3, 5, 0), (30, .iload_n 2, 1, 0, 0), (31, .invokevirtual 70, 3, 88, 0), (34, .istore_n 3, 1, 0, 0), (35, .iconst 1, 1, 0, 0), (36, .istore 4, 2, 0, 0), (38, .iconst 1, 1, 0, 0), (39, .istore 5, 2, 0, 0), (41, .iload 5, 2, 0, 0), (43, .aload_n 0, 1, 0, 0), (44, .getfield 25, 3, 1, 2), (47, .if_icmp .ge 26, 3, 0, 0), (50, .iload 4, 2, 0, 0), (52, .ifCond .eq 21, 3, 0, 0), (55, .aload_n 0, 1, 0, 0), (56, .iload 5, 2, 0, 0), (58, .invokevirtual 43, 3, 5, 0), (61, .iload_n 3, 1, 0, 0), (62, .invokevirtual 74, 3, 92, 0), (65, .istore 4, 2, 0, 0), (67, .iinc 5 1, 3, 0, 0), (70, .goto (-29), 3, 0, 0), (73, .iload 4, 2, 0, 0), (75, .ifCond .eq 8, 3, 0, 0), (78, .aload_n 1, 1, 0, 0), (79, .iload_n 3, 1, 0, 0), (80, .invokevirtual 78, 3, 90, 0), (83, .iinc 2 1, 3, 0, 0), (86, .goto (-80), 3, 0, 0), (89, .return_, 1, 0, 0)]
def E_m11 : E_MI := (1, ⟨E_R1, "coreInto", "(LGramFinder$Row;)V"⟩, prog_3_method_9_code, 6, (Option.none : Option FieldType), false, 1, E_c11)
def E_c12 : List E_C := [(0, .iconst 1, 1, 0, 0), (1, .istore_n 1, 1, 0, 0), (2, .iload_n 1, 1, 0, 0), (3, .aload_n 0, 1, 0, 0), (4, .getfield 25, 3, 1, 2), (7, .if_icmp .ge 47, 3, 0, 0), (10, .iload_n 1, 1, 0, 0), (11, .istore_n 2, 1, 0, 0), (12, .iload_n 2, 1, 0, 0), (13, .ifCond .le 35, 3, 0, 0), (16, .aload_n 0, 1, 0, 0), (17, .iload_n 2, 1, 0, 0), (18, .invokevirtual 43, 3, 5, 0), (21, .aload_n 0, 1, 0, 0), (22, .iload_n 2, 1, 0, 0), (23, .iconst 1, 1, 0, 0), (24, .isub, 1, 0, 0), (25, .invokevirtual 43, 3, 5, 0), (28, .invokevirtual 82, 3, 96, 0), (31, .ifCond .eq 17, 3, 0, 0), (34, .aload_n 0, 1, 0, 0), (35, .iload_n 2, 1, 0, 0), (36, .iload_n 2, 1, 0, 0), (37, .iconst 1, 1, 0, 0), (38, .isub, 1, 0, 0), (39, .invokevirtual 51, 3, 15, 0), (42, .iinc 2 (-1), 3, 0, 0), (45, .goto (-33), 3, 0, 0), (48, .iinc 1 1, 3, 0, 0), (51, .goto (-49), 3, 0, 0), (54, .return_, 1, 0, 0)]
def E_m12 : E_MI := (1, ⟨E_R1, "putInOrder", "()V"⟩, prog_3_method_10_code, 3, (Option.none : Option FieldType), false, 0, E_c12)
def E_c13 : List E_C := [(0, .iconst 0, 1, 0, 0), (1, .istore_n 2, 1, 0, 0), (2, .iload_n 2, 1, 0, 0), (3, .aload_n 1, 1, 0, 0), (4, .getfield 62, 3, 7, 1), (7, .if_icmp .ge 23, 3, 0, 0), (10, .aload_n 0, 1, 0, 0), (11, .aload_n 1, 1, 0, 0), (12, .iload_n 2, 1, 0, 0), (13, .invokevirtual 70, 3, 88, 0), (16, .invokevirtual 74, 3, 92, 0), (19, .ifCond .ne 5, 3, 0, 0), (22, .iconst 0, 1, 0, 0), (23, .ireturn, 1, 0, 0), (24, .iinc 2 1, 3, 0, 0), (27, .goto (-25), 3, 0, 0), (30, .iconst 1, 1, 0, 0), (31, .ireturn, 1, 0, 0)]
def E_m13 : E_MI := (1, ⟨E_R1, "holdsEach", "(LGramFinder$Row;LGramFinder$Row;)Z"⟩, prog_3_method_11_code, 3, (Option.some FieldType.boolean), true, 2, E_c13)
def E_c14 : List E_C := [(0, .iload_n 1, 1, 0, 0), (1, .ifCond .lt 21, 3, 0, 0), (4, .iload_n 1, 1, 0, 0), (5, .aload_n 0, 1, 0, 0), (6, .getfield 21, 3, 1, 1), (9, .arraylength, 1, 0, 0), (10, .if_icmp .ge 12, 3, 0, 0), (13, .aload_n 0, 1, 0, 0), (14, .getfield 21, 3, 1, 1), (17, .iload_n 1, 1, 0, 0), (18, .laload, 1, 0, 0), (19, .goto 4, 3, 0, 0), (22, .lconst 0, 1, 0, 0), (23, .lreturn, 1, 0, 0)]
def E_m14 : E_MI := (1, ⟨E_R1, "markOf", "(I)J"⟩, prog_3_method_12_code, 2, (Option.some FieldType.long), false, 1, E_c14)
def E_c15 : List E_C := [(0, .iload_n 1, 1, 0, 0), (1, .ifCond .lt 29, 3, 0, 0), (4, .iload_n 1, 1, 0, 0), (5, .aload_n 0, 1, 0, 0), (6, .getfield 15, 3, 1, 0), (9, .arraylength, 1, 0, 0), (10, .if_icmp .ge 20, 3, 0, 0), (13, .iload_n 2, 1, 0, 0), (14, .ifCond .lt 16, 3, 0, 0), (17, .iload_n 2, 1, 0, 0), (18, .aload_n 0, 1, 0, 0), (19, .getfield 15, 3, 1, 0), (22, .arraylength, 1, 0, 0), (23, .if_icmp .ge 7, 3, 0, 0), (26, .iconst 1, 1, 0, 0), (27, .goto 4, 3, 0, 0), (30, .iconst 0, 1, 0, 0), (31, .istore_n 3, 1, 0, 0), (32, .iload_n 1, 1, 0, 0), (33, .iload_n 2, 1, 0, 0), (34, .if_icmp .eq 81, 3, 0, 0), (37, .iload_n 3, 1, 0, 0), (38, .ifCond .eq 77, 3, 0, 0), (41, .iload_n 1, 1, 0, 0), (42, .aload_n 0, 1, 0, 0), (43, .getfield 21, 3, 1, 1), (46, .arraylength, 1, 0, 0), (47, .if_icmp .ge 68, 3, 0, 0), (50, .iload_n 2, 1, 0, 0), (51, .aload_n 0, 1, 0, 0), (52, .getfield 21, 3, 1, 1), (55, .arraylength, 1, 0, 0), (56, .if_icmp .ge 59, 3, 0, 0), (59, .aload_n 0, 1, 0, 0), (60, .getfield 15, 3, 1, 0), (63, .iload_n 1, 1, 0, 0), (64, .aaload, 1, 0, 0), (65, .astore 4, 2, 0, 0), (67, .aload_n 0, 1, 0, 0), (68, .getfield 15, 3, 1, 0), (71, .iload_n 1, 1, 0, 0), (72, .aload_n 0, 1, 0, 0), (73, .getfield 15, 3, 1, 0), (76, .iload_n 2, 1, 0, 0), (77, .aaload, 1, 0, 0), (78, .aastore, 1, 0, 0), (79, .aload_n 0, 1, 0, 0), (80, .getfield 15, 3, 1, 0), (83, .iload_n 2, 1, 0, 0), (84, .aload 4, 2, 0, 0), (86, .aastore, 1, 0, 0), (87, .aload_n 0, 1, 0, 0), (88, .getfield 21, 3, 1, 1), (91, .iload_n 1, 1, 0, 0), (92, .laload, 1, 0, 0), (93, .lstore 5, 2, 0, 0), (95, .aload_n 0, 1, 0, 0), (96, .getfield 21, 3, 1, 1), (99, .iload_n 1, 1, 0, 0), (100, .aload_n 0, 1, 0, 0), (101, .getfield 21, 3, 1, 1), (104, .iload_n 2, 1, 0, 0), (105, .laload, 1, 0, 0), (106, .lastore, 1, 0, 0), (107, .aload_n 0, 1, 0, 0), (108, .getfield 21, 3, 1, 1), (111, .iload_n 2, 1, 0, 0), (112, .lload 5, 2, 0, 0), (114, .lastore, 1, 0, 0), (115, .return_, 1, 0, 0)]
def E_m15 : E_MI := (1, ⟨E_R1, "swap", "(II)V"⟩, prog_3_method_13_code, 7, (Option.none : Option FieldType), false, 2, E_c15)
def E_c16 : List E_C := [(0, .aload_n 0, 1, 0, 0), (1, .invokespecial 3, 3, 999, 0), (4, .aload_n 0, 1, 0, 0), (5, .sipush 202, 3, 0, 0), (8, .newarray .int, 2, 0, 0), (10, .putfield 9, 3, 2, 1), (13, .aload_n 0, 1, 0, 0), (14, .sipush 202, 3, 0, 0), (17, .newarray .int, 2, 0, 0), (19, .putfield 15, 3, 2, 2), (22, .aload_n 0, 1, 0, 0), (23, .sipush 202, 3, 0, 0), (26, .newarray .int, 2, 0, 0), (28, .putfield 18, 3, 2, 3), (31, .aload_n 0, 1, 0, 0), (32, .sipush 202, 3, 0, 0), (35, .newarray .int, 2, 0, 0), (37, .putfield 21, 3, 2, 4), (40, .aload_n 0, 1, 0, 0), (41, .sipush 202, 3, 0, 0), (44, .newarray .int, 2, 0, 0), (46, .putfield 24, 3, 2, 7), (49, .aload_n 0, 1, 0, 0), (50, .sipush 202, 3, 0, 0), (53, .newarray .int, 2, 0, 0), (55, .putfield 27, 3, 2, 8), (58, .aload_n 0, 1, 0, 0), (59, .sipush 202, 3, 0, 0), (62, .newarray .int, 2, 0, 0), (64, .putfield 30, 3, 2, 10), (67, .aload_n 0, 1, 0, 0), (68, .sipush 202, 3, 0, 0), (71, .newarray .int, 2, 0, 0), (73, .putfield 33, 3, 2, 12), (76, .aload_n 0, 1, 0, 0), (77, .iconst 0, 1, 0, 0), (78, .newarray .byte, 2, 1, 0), (80, .putfield 36, 3, 2, 14), (83, .aload_n 0, 1, 0, 0), (84, .iconst (-1), 1, 0, 0), (85, .putfield 40, 3, 2, 15), (88, .aload_n 0, 1, 0, 0), (89, .iconst (-1), 1, 0, 0), (90, .putfield 44, 3, 2, 16), (93, .aload_n 0, 1, 0, 0), (94, .aload_n 1, 1, 0, 0), (95, .putfield 47, 3, 2, 0), (98, .return_, 1, 0, 0)]
def E_m16 : E_MI := (2, ⟨E_R2, "<init>", "(LGramFinder$Tree;)V"⟩, prog_4_method_1_code, 2, (Option.none : Option FieldType), false, 1, E_c16)
def E_c17 : List E_C := [(0, .aload_n 0, 1, 0, 0), (1, .iconst 0, 1, 0, 0), (2, .putfield 51, 3, 2, 5), (5, .aload_n 0, 1, 0, 0), (6, .bipush 8, 2, 0, 0), (8, .iconst (-1), 1, 0, 0), (9, .iconst (-1), 1, 0, 0), (10, .iconst (-1), 1, 0, 0), (11, .invokevirtual 54, 3, 22, 0), (14, .istore_n 1, 1, 0, 0), (15, .aload_n 0, 1, 0, 0), (16, .aload_n 0, 1, 0, 0), (17, .aload_n 0, 1, 0, 0), (18, .getfield 47, 3, 2, 0), (21, .invokevirtual 58, 3, 120, 0), (24, .iload_n 1, 1, 0, 0), (25, .iconst 0, 1, 0, 0), (26, .invokevirtual 64, 3, 18, 0), (29, .putfield 68, 3, 2, 6), (32, .return_, 1, 0, 0)]
def E_m17 : E_MI := (2, ⟨E_R2, "build", "()V"⟩, prog_4_method_2_code, 2, (Option.none : Option FieldType), false, 0, E_c17)
def E_c18 : List E_C := [(0, .iload_n 3, 1, 0, 0), (1, .bipush 38, 2, 0, 0), (3, .if_icmp .gt 14, 3, 0, 0), (6, .aload_n 0, 1, 0, 0), (7, .getfield 47, 3, 2, 0), (10, .iload_n 1, 1, 0, 0), (11, .invokevirtual 71, 3, 134, 0), (14, .ifCond .ne 5, 3, 0, 0), (17, .iload_n 2, 1, 0, 0), (18, .ireturn, 1, 0, 0), (19, .aload_n 0, 1, 0, 0), (20, .getfield 47, 3, 2, 0), (23, .iload_n 1, 1, 0, 0), (24, .invokevirtual 75, 3, 126, 0), (27, .tableswitch 49 0 2 #[25, 33, 41], 25, 0, 0), (52, .aload_n 0, 1, 0, 0), (53, .iload_n 1, 1, 0, 0), (54, .iload_n 2, 1, 0, 0), (55, .iload_n 3, 1, 0, 0), (56, .invokevirtual 78, 3, 19, 0), (59, .ireturn, 1, 0, 0), (60, .aload_n 0, 1, 0, 0), (61, .iload_n 1, 1, 0, 0), (62, .iload_n 2, 1, 0, 0), (63, .iload_n 3, 1, 0, 0), (64, .invokevirtual 81, 3, 20, 0), (67, .ireturn, 1, 0, 0), (68, .aload_n 0, 1, 0, 0), (69, .iload_n 1, 1, 0, 0), (70, .iload_n 2, 1, 0, 0), (71, .iload_n 3, 1, 0, 0), (72, .invokevirtual 84, 3, 21, 0), (75, .ireturn, 1, 0, 0), (76, .aload_n 0, 1, 0, 0), (77, .aload_n 0, 1, 0, 0), (78, .getfield 47, 3, 2, 0), (81, .iload_n 1, 1, 0, 0), (82, .invokevirtual 75, 3, 126, 0), (85, .iload_n 2, 1, 0, 0), (86, .iconst (-1), 1, 0, 0), (87, .aload_n 0, 1, 0, 0), (88, .getfield 47, 3, 2, 0), (91, .iload_n 1, 1, 0, 0), (92, .invokevirtual 87, 3, 133, 0), (95, .invokevirtual 54, 3, 22, 0), (98, .ireturn, 1, 0, 0)]
def E_m18 : E_MI := (2, ⟨E_R2, "buildNode", "(III)I"⟩, prog_4_method_3_code, 4, (Option.some FieldType.int), false, 3, E_c18)
def E_c19 : List E_C := [(0, .aload_n 0, 1, 0, 0), (1, .getfield 47, 3, 2, 0), (4, .iload_n 1, 1, 0, 0), (5, .invokevirtual 90, 3, 128, 0), (8, .istore 4, 2, 0, 0), (10, .aload_n 0, 1, 0, 0), (11, .iload 4, 2, 0, 0), (13, .iload_n 2, 1, 0, 0), (14, .iload_n 3, 1, 0, 0), (15, .iconst 1, 1, 0, 0), (16, .iadd, 1, 0, 0), (17, .invokevirtual 64, 3, 18, 0), (20, .istore 5, 2, 0, 0), (22, .aload_n 0, 1, 0, 0), (23, .getfield 47, 3, 2, 0), (26, .iload 4, 2, 0, 0), (28, .invokevirtual 93, 3, 130, 0), (31, .istore 4, 2, 0, 0), (33, .iconst 0, 1, 0, 0), (34, .istore 6, 2, 0, 0), (36, .iload 6, 2, 0, 0), (38, .sipush 168, 3, 0, 0), (41, .if_icmp .ge 47, 3, 0, 0), (44, .iload 4, 2, 0, 0), (46, .iconst (-1), 1, 0, 0), (47, .if_icmp .eq 41, 3, 0, 0), (50, .aload_n 0, 1, 0, 0), (51, .bipush 7, 2, 0, 0), (53, .aload_n 0, 1, 0, 0), (54, .iload 4, 2, 0, 0), (56, .iload_n 2, 1, 0, 0), (57, .iload_n 3, 1, 0, 0), (58, .iconst 1, 1, 0, 0), (59, .iadd, 1, 0, 0), (60, .invokevirtual 64, 3, 18, 0), (63, .iload 5, 2, 0, 0), (65, .iconst (-1), 1, 0, 0), (66, .invokevirtual 54, 3, 22, 0), (69, .istore 5, 2, 0, 0), (71, .aload_n 0, 1, 0, 0), (72, .getfield 47, 3, 2, 0), (75, .iload 4, 2, 0, 0), (77, .invokevirtual 93, 3, 130, 0), (80, .istore 4, 2, 0, 0), (82, .iinc 6 1, 3, 0, 0), (85, .goto (-49), 3, 0, 0), (88, .iload 5, 2, 0, 0), (90, .ireturn, 1, 0, 0)]
def E_m19 : E_MI := (2, ⟨E_R2, "buildAlt", "(III)I"⟩, prog_4_method_4_code, 7, (Option.some FieldType.int), false, 3, E_c19)
def E_c20 : List E_C := [(0, .iload_n 2, 1, 0, 0), (1, .istore 4, 2, 0, 0), (3, .aload_n 0, 1, 0, 0), (4, .getfield 47, 3, 2, 0), (7, .iload_n 1, 1, 0, 0), (8, .invokevirtual 90, 3, 128, 0), (11, .istore 5, 2, 0, 0), (13, .iconst 0, 1, 0, 0), (14, .istore 6, 2, 0, 0), (16, .iload 6, 2, 0, 0), (18, .sipush 168, 3, 0, 0), (21, .if_icmp .ge 39, 3, 0, 0), (24, .iload 5, 2, 0, 0), (26, .iconst (-1), 1, 0, 0), (27, .if_icmp .eq 33, 3, 0, 0), (30, .aload_n 0, 1, 0, 0), (31, .iload 5, 2, 0, 0), (33, .iload 4, 2, 0, 0), (35, .iload_n 3, 1, 0, 0), (36, .iconst 1, 1, 0, 0), (37, .iadd, 1, 0, 0), (38, .invokevirtual 64, 3, 18, 0), (41, .istore 4, 2, 0, 0), (43, .aload_n 0, 1, 0, 0), (44, .getfield 47, 3, 2, 0), (47, .iload 5, 2, 0, 0), (49, .invokevirtual 93, 3, 130, 0), (52, .istore 5, 2, 0, 0), (54, .iinc 6 1, 3, 0, 0), (57, .goto (-41), 3, 0, 0), (60, .iload 4, 2, 0, 0), (62, .ireturn, 1, 0, 0)]
def E_m20 : E_MI := (2, ⟨E_R2, "buildCat", "(III)I"⟩, prog_4_method_5_code, 7, (Option.some FieldType.int), false, 3, E_c20)
def E_c21 : List E_C := [(0, .aload_n 0, 1, 0, 0), (1, .getfield 47, 3, 2, 0), (4, .iload_n 1, 1, 0, 0), (5, .invokevirtual 96, 3, 127, 0), (8, .istore 4, 2, 0, 0), (10, .aload_n 0, 1, 0, 0), (11, .getfield 47, 3, 2, 0), (14, .iload_n 1, 1, 0, 0), (15, .invokevirtual 99, 3, 131, 0), (18, .istore 5, 2, 0, 0), (20, .iload_n 2, 1, 0, 0), (21, .istore 6, 2, 0, 0), (23, .aload_n 0, 1, 0, 0), (24, .getfield 47, 3, 2, 0), (27, .iload_n 1, 1, 0, 0), (28, .invokevirtual 102, 3, 132, 0), (31, .iconst (-1), 1, 0, 0), (32, .if_icmp .ne 55, 3, 0, 0), (35, .aload_n 0, 1, 0, 0), (36, .bipush 7, 2, 0, 0), (38, .iconst (-1), 1, 0, 0), (39, .iload_n 2, 1, 0, 0), (40, .iconst (-1), 1, 0, 0), (41, .invokevirtual 54, 3, 22, 0), (44, .istore 7, 2, 0, 0), (46, .aload_n 0, 1, 0, 0), (47, .iload 4, 2, 0, 0), (49, .iload 7, 2, 0, 0), (51, .iload_n 3, 1, 0, 0), (52, .iconst 1, 1, 0, 0), (53, .iadd, 1, 0, 0), (54, .invokevirtual 64, 3, 18, 0), (57, .istore 8, 2, 0, 0), (59, .aload_n 0, 1, 0, 0), (60, .getfield 15, 3, 2, 2), (63, .iload 7, 2, 0, 0), (65, .iload 8, 2, 0, 0), (67, .invokestatic 105, 3, 165, 1), (70, .iload 5, 2, 0, 0), (72, .ifCond .ne 8, 3, 0, 0), (75, .iload 7, 2, 0, 0), (77, .goto 5, 3, 0, 0), (80, .iload 8, 2, 0, 0), (82, .istore 6, 2, 0, 0), (84, .iinc 5 (-1), 3, 0, 0), (87, .aload_n 0, 1, 0, 0), (88, .getfield 47, 3, 2, 0), (91, .iload_n 1, 1, 0, 0), (92, .invokevirtual 99, 3, 131, 0), (95, .istore 7, 2, 0, 0), (97, .iload 7, 2, 0, 0), (99, .aload_n 0, 1, 0, 0), (100, .getfield 47, 3, 2, 0), (103, .iload_n 1, 1, 0, 0), (104, .invokevirtual 102, 3, 132, 0), (107, .if_icmp .ge 31, 3, 0, 0), (110, .aload_n 0, 1, 0, 0), (111, .bipush 7, 2, 0, 0), (113, .aload_n 0, 1, 0, 0), (114, .iload 4, 2, 0, 0), (116, .iload 6, 2, 0, 0), (118, .iload_n 3, 1, 0, 0), (119, .iconst 1, 1, 0, 0), (120, .iadd, 1, 0, 0), (121, .invokevirtual 64, 3, 18, 0), (124, .iload 6, 2, 0, 0), (126, .iconst (-1), 1, 0, 0), (127, .invokevirtual 54, 3, 22, 0), (130, .istore 6, 2, 0, 0), (132, .iinc 7 1, 3, 0, 0), (135, .goto (-38), 3, 0, 0), (138, .iconst 0, 1, 0, 0), (139, .istore 7, 2, 0, 0), (141, .iload 7, 2, 0, 0), (143, .iload 5, 2, 0, 0), (145, .if_icmp .ge 22, 3, 0, 0), (148, .aload_n 0, 1, 0, 0), (149, .iload 4, 2, 0, 0), (151, .iload 6, 2, 0, 0), (153, .iload_n 3, 1, 0, 0), (154, .iconst 1, 1, 0, 0), (155, .iadd, 1, 0, 0), (156, .invokevirtual 64, 3, 18, 0), (159, .istore 6, 2, 0, 0), (161, .iinc 7 1, 3, 0, 0), (164, .goto (-23), 3, 0, 0), (167, .iload 6, 2, 0, 0), (169, .ireturn, 1, 0, 0)]
def E_m21 : E_MI := (2, ⟨E_R2, "buildRepeat", "(III)I"⟩, prog_4_method_6_code, 9, (Option.some FieldType.int), false, 3, E_c21)
def E_c22 : List E_C := [(0, .aload_n 0, 1, 0, 0), (1, .getfield 51, 3, 2, 5), (4, .istore 5, 2, 0, 0), (6, .iload 5, 2, 0, 0), (8, .sipush 202, 3, 0, 0), (11, .if_icmp .lt 5, 3, 0, 0), (14, .iconst (-1), 1, 0, 0), (15, .ireturn, 1, 0, 0), (16, .aload_n 0, 1, 0, 0), (17, .dup, 1, 0, 0), (18, .getfield 51, 3, 2, 5), (21, .iconst 1, 1, 0, 0), (22, .iadd, 1, 0, 0), (23, .putfield 51, 3, 2, 5), (26, .aload_n 0, 1, 0, 0), (27, .getfield 9, 3, 2, 1), (30, .iload 5, 2, 0, 0), (32, .iload_n 1, 1, 0, 0), (33, .invokestatic 105, 3, 165, 1), (36, .aload_n 0, 1, 0, 0), (37, .getfield 15, 3, 2, 2), (40, .iload 5, 2, 0, 0), (42, .iload_n 2, 1, 0, 0), (43, .invokestatic 105, 3, 165, 1), (46, .aload_n 0, 1, 0, 0), (47, .getfield 18, 3, 2, 3), (50, .iload 5, 2, 0, 0), (52, .iload_n 3, 1, 0, 0), (53, .invokestatic 105, 3, 165, 1), (56, .aload_n 0, 1, 0, 0), (57, .getfield 21, 3, 2, 4), (60, .iload 5, 2, 0, 0), (62, .iload 4, 2, 0, 0), (64, .invokestatic 105, 3, 165, 1), (67, .iload 5, 2, 0, 0), (69, .ireturn, 1, 0, 0)]
def E_m22 : E_MI := (2, ⟨E_R2, "newState", "(IIII)I"⟩, prog_4_method_7_code, 6, (Option.some FieldType.int), false, 4, E_c22)
def E_c23 : List E_C := [(0, .aload_n 0, 1, 0, 0), (1, .aload_n 1, 1, 0, 0), (2, .putfield 36, 3, 2, 14), (5, .aload_n 0, 1, 0, 0), (6, .iconst (-1), 1, 0, 0), (7, .putfield 40, 3, 2, 15), (10, .aload_n 0, 1, 0, 0), (11, .iconst (-1), 1, 0, 0), (12, .putfield 44, 3, 2, 16), (15, .aload_n 0, 1, 0, 0), (16, .iconst 0, 1, 0, 0), (17, .putfield 109, 3, 2, 11), (20, .aload_n 0, 1, 0, 0), (21, .getfield 24, 3, 2, 7), (24, .iconst (-1), 1, 0, 0), (25, .invokestatic 112, 3, 292, 0), (28, .iconst 0, 1, 0, 0), (29, .istore_n 2, 1, 0, 0), (30, .iload_n 2, 1, 0, 0), (31, .aload_n 1, 1, 0, 0), (32, .arraylength, 1, 0, 0), (33, .if_icmp .gt 34, 3, 0, 0), (36, .aload_n 0, 1, 0, 0), (37, .getfield 40, 3, 2, 15), (40, .iconst (-1), 1, 0, 0), (41, .if_icmp .eq 10, 3, 0, 0), (44, .aload_n 0, 1, 0, 0), (45, .getfield 109, 3, 2, 11), (48, .ifCond .le 19, 3, 0, 0), (51, .aload_n 0, 1, 0, 0), (52, .iload_n 2, 1, 0, 0), (53, .invokevirtual 118, 3, 24, 0), (56, .aload_n 0, 1, 0, 0), (57, .iload_n 2, 1, 0, 0), (58, .invokevirtual 122, 3, 30, 0), (61, .iinc 2 1, 3, 0, 0), (64, .goto (-34), 3, 0, 0), (67, .return_, 1, 0, 0)]
def E_m23 : E_MI := (2, ⟨E_R2, "seek", "([B)V"⟩, prog_4_method_8_code, 3, (Option.none : Option FieldType), false, 1, E_c23)
def E_c24 : List E_C := [(0, .aload_n 0, 1, 0, 0), (1, .iconst 0, 1, 0, 0), (2, .putfield 125, 3, 2, 13), (5, .iconst 0, 1, 0, 0), (6, .istore_n 2, 1, 0, 0), (7, .iload_n 2, 1, 0, 0), (8, .aload_n 0, 1, 0, 0), (9, .getfield 109, 3, 2, 11), (12, .if_icmp .ge 32, 3, 0, 0), (15, .aload_n 0, 1, 0, 0), (16, .getfield 30, 3, 2, 10), (19, .iload_n 2, 1, 0, 0), (20, .invokestatic 128, 3, 164, 1), (23, .istore_n 3, 1, 0, 0), (24, .aload_n 0, 1, 0, 0), (25, .iload_n 3, 1, 0, 0), (26, .sipush 255, 3, 0, 0), (29, .iand, 1, 0, 0), (30, .iload_n 3, 1, 0, 0), (31, .bipush 8, 2, 0, 0), (33, .ishr, 1, 0, 0), (34, .iload_n 1, 1, 0, 0), (35, .invokevirtual 132, 3, 25, 0), (38, .iinc 2 1, 3, 0, 0), (41, .goto (-34), 3, 0, 0), (44, .aload_n 0, 1, 0, 0), (45, .getfield 40, 3, 2, 15), (48, .iconst (-1), 1, 0, 0), (49, .if_icmp .ne 13, 3, 0, 0), (52, .aload_n 0, 1, 0, 0), (53, .aload_n 0, 1, 0, 0), (54, .getfield 68, 3, 2, 6), (57, .iload_n 1, 1, 0, 0), (58, .iload_n 1, 1, 0, 0), (59, .invokevirtual 132, 3, 25, 0), (62, .return_, 1, 0, 0)]
def E_m24 : E_MI := (2, ⟨E_R2, "spread", "(I)V"⟩, prog_4_method_9_code, 4, (Option.none : Option FieldType), false, 1, E_c24)
def E_c25 : List E_C := [(0, .aload_n 0, 1, 0, 0), (1, .iconst 0, 1, 0, 0), (2, .putfield 136, 3, 2, 9), (5, .aload_n 0, 1, 0, 0), (6, .iload_n 1, 1, 0, 0), (7, .iload_n 3, 1, 0, 0), (8, .invokevirtual 139, 3, 26, 0), (11, .iconst 0, 1, 0, 0), (12, .istore 4, 2, 0, 0), (14, .iload 4, 2, 0, 0), (16, .sipush 202, 3, 0, 0), (19, .if_icmp .ge 43, 3, 0, 0), (22, .aload_n 0, 1, 0, 0), (23, .getfield 136, 3, 2, 9), (26, .ifCond .le 36, 3, 0, 0), (29, .aload_n 0, 1, 0, 0), (30, .dup, 1, 0, 0), (31, .getfield 136, 3, 2, 9), (34, .iconst 1, 1, 0, 0), (35, .isub, 1, 0, 0), (36, .putfield 136, 3, 2, 9), (39, .aload_n 0, 1, 0, 0), (40, .aload_n 0, 1, 0, 0), (41, .getfield 27, 3, 2, 8), (44, .aload_n 0, 1, 0, 0), (45, .getfield 136, 3, 2, 9), (48, .invokestatic 128, 3, 164, 1), (51, .iload_n 2, 1, 0, 0), (52, .iload_n 3, 1, 0, 0), (53, .invokevirtual 143, 3, 27, 0), (56, .iinc 4 1, 3, 0, 0), (59, .goto (-45), 3, 0, 0), (62, .return_, 1, 0, 0)]
def E_m25 : E_MI := (2, ⟨E_R2, "enter", "(III)V"⟩, prog_4_method_10_code, 5, (Option.none : Option FieldType), false, 3, E_c25)
def E_c26 : List E_C := [(0, .iload_n 1, 1, 0, 0), (1, .ifCond .lt 53, 3, 0, 0), (4, .iload_n 1, 1, 0, 0), (5, .sipush 202, 3, 0, 0), (8, .if_icmp .ge 46, 3, 0, 0), (11, .aload_n 0, 1, 0, 0), (12, .getfield 24, 3, 2, 7), (15, .iload_n 1, 1, 0, 0), (16, .invokestatic 128, 3, 164, 1), (19, .iload_n 2, 1, 0, 0), (20, .if_icmp .eq 34, 3, 0, 0), (23, .aload_n 0, 1, 0, 0), (24, .getfield 24, 3, 2, 7), (27, .iload_n 1, 1, 0, 0), (28, .iload_n 2, 1, 0, 0), (29, .invokestatic 105, 3, 165, 1), (32, .aload_n 0, 1, 0, 0), (33, .getfield 27, 3, 2, 8), (36, .aload_n 0, 1, 0, 0), (37, .getfield 136, 3, 2, 9), (40, .iload_n 1, 1, 0, 0), (41, .invokestatic 105, 3, 165, 1), (44, .aload_n 0, 1, 0, 0), (45, .dup, 1, 0, 0), (46, .getfield 136, 3, 2, 9), (49, .iconst 1, 1, 0, 0), (50, .iadd, 1, 0, 0), (51, .putfield 136, 3, 2, 9), (54, .return_, 1, 0, 0)]
def E_m26 : E_MI := (2, ⟨E_R2, "push", "(II)V"⟩, prog_4_method_11_code, 3, (Option.none : Option FieldType), false, 2, E_c26)
def E_c27 : List E_C := [(0, .aload_n 0, 1, 0, 0), (1, .getfield 9, 3, 2, 1), (4, .iload_n 1, 1, 0, 0), (5, .invokestatic 128, 3, 164, 1), (8, .istore 4, 2, 0, 0), (10, .iload 4, 2, 0, 0), (12, .lookupswitch 104 #[(3, 45), (7, 75), (8, 36)], 36, 0, 0), (48, .aload_n 0, 1, 0, 0), (49, .iload_n 2, 1, 0, 0), (50, .iload_n 3, 1, 0, 0), (51, .invokevirtual 146, 3, 28, 0), (54, .goto 85, 3, 0, 0), (57, .aload_n 0, 1, 0, 0), (58, .getfield 33, 3, 2, 12), (61, .aload_n 0, 1, 0, 0), (62, .getfield 125, 3, 2, 13), (65, .iload_n 2, 1, 0, 0), (66, .bipush 8, 2, 0, 0), (68, .ishl, 1, 0, 0), (69, .iload_n 1, 1, 0, 0), (70, .ior, 1, 0, 0), (71, .invokestatic 105, 3, 165, 1), (74, .aload_n 0, 1, 0, 0), (75, .dup, 1, 0, 0), (76, .getfield 125, 3, 2, 13), (79, .iconst 1, 1, 0, 0), (80, .iadd, 1, 0, 0), (81, .putfield 125, 3, 2, 13), (84, .goto 55, 3, 0, 0), (87, .aload_n 0, 1, 0, 0), (88, .aload_n 0, 1, 0, 0), (89, .getfield 18, 3, 2, 3), (92, .iload_n 1, 1, 0, 0), (93, .invokestatic 128, 3, 164, 1), (96, .iload_n 3, 1, 0, 0), (97, .invokevirtual 139, 3, 26, 0), (100, .aload_n 0, 1, 0, 0), (101, .aload_n 0, 1, 0, 0), (102, .getfield 15, 3, 2, 2), (105, .iload_n 1, 1, 0, 0), (106, .invokestatic 128, 3, 164, 1), (109, .iload_n 3, 1, 0, 0), (110, .invokevirtual 139, 3, 26, 0), (113, .goto 26, 3, 0, 0), (116, .aload_n 0, 1, 0, 0), (117, .iload 4, 2, 0, 0), (119, .iload_n 3, 1, 0, 0), (120, .invokevirtual 149, 3, 29, 0), (123, .ifCond .eq 16, 3, 0, 0), (126, .aload_n 0, 1, 0, 0), (127, .aload_n 0, 1, 0, 0), (128, .getfield 15, 3, 2, 2), (131, .iload_n 1, 1, 0, 0), (132, .invokestatic 128, 3, 164, 1), (135, .iload_n 3, 1, 0, 0), (136, .invokevirtual 139, 3, 26, 0), (139, .return_, 1, 0, 0)]
def E_m27 : E_MI := (2, ⟨E_R2, "follow", "(III)V"⟩, prog_4_method_12_code, 5, (Option.none : Option FieldType), false, 3, E_c27)
def E_c28 : List E_C := [(0, .aload_n 0, 1, 0, 0), (1, .getfield 40, 3, 2, 15), (4, .iconst (-1), 1, 0, 0), (5, .if_icmp .eq 11, 3, 0, 0), (8, .iload_n 1, 1, 0, 0), (9, .aload_n 0, 1, 0, 0), (10, .getfield 40, 3, 2, 15), (13, .if_icmp .gt 13, 3, 0, 0), (16, .aload_n 0, 1, 0, 0), (17, .iload_n 1, 1, 0, 0), (18, .putfield 40, 3, 2, 15), (21, .aload_n 0, 1, 0, 0), (22, .iload_n 2, 1, 0, 0), (23, .putfield 44, 3, 2, 16), (26, .return_, 1, 0, 0)]
def E_m28 : E_MI := (2, ⟨E_R2, "noteMatch", "(II)V"⟩, prog_4_method_13_code, 3, (Option.none : Option FieldType), false, 2, E_c28)
def E_c29 : List E_C := [(0, .aload_n 0, 1, 0, 0), (1, .getfield 36, 3, 2, 14), (4, .iload_n 2, 1, 0, 0), (5, .iconst 1, 1, 0, 0), (6, .isub, 1, 0, 0), (7, .invokestatic 153, 3, 163, 1), (10, .istore_n 3, 1, 0, 0), (11, .aload_n 0, 1, 0, 0), (12, .getfield 36, 3, 2, 14), (15, .iload_n 2, 1, 0, 0), (16, .invokestatic 153, 3, 163, 1), (19, .istore 4, 2, 0, 0), (21, .iload_n 1, 1, 0, 0), (22, .tableswitch 82 4 6 #[26, 42, 64], 26, 0, 0), (48, .iload_n 2, 1, 0, 0), (49, .ifCond .eq 9, 3, 0, 0), (52, .iload_n 3, 1, 0, 0), (53, .bipush 10, 2, 0, 0), (55, .if_icmp .ne 7, 3, 0, 0), (58, .iconst 1, 1, 0, 0), (59, .goto 4, 3, 0, 0), (62, .iconst 0, 1, 0, 0), (63, .ireturn, 1, 0, 0), (64, .iload_n 2, 1, 0, 0), (65, .aload_n 0, 1, 0, 0), (66, .getfield 36, 3, 2, 14), (69, .arraylength, 1, 0, 0), (70, .if_icmp .eq 10, 3, 0, 0), (73, .iload 4, 2, 0, 0), (75, .bipush 10, 2, 0, 0), (77, .if_icmp .ne 7, 3, 0, 0), (80, .iconst 1, 1, 0, 0), (81, .goto 4, 3, 0, 0), (84, .iconst 0, 1, 0, 0), (85, .ireturn, 1, 0, 0), (86, .iload_n 3, 1, 0, 0), (87, .invokestatic 157, 3, 168, 1), (90, .iload 4, 2, 0, 0), (92, .invokestatic 157, 3, 168, 1), (95, .if_icmp .eq 7, 3, 0, 0), (98, .iconst 1, 1, 0, 0), (99, .goto 4, 3, 0, 0), (102, .iconst 0, 1, 0, 0), (103, .ireturn, 1, 0, 0), (104, .iconst 0, 1, 0, 0), (105, .ireturn, 1, 0, 0)]
def E_m29 : E_MI := (2, ⟨E_R2, "holdsAt", "(II)Z"⟩, prog_4_method_14_code, 5, (Option.some FieldType.boolean), false, 2, E_c29)
def E_c30 : List E_C := [(0, .aload_n 0, 1, 0, 0), (1, .iconst 0, 1, 0, 0), (2, .putfield 109, 3, 2, 11), (5, .aload_n 0, 1, 0, 0), (6, .getfield 36, 3, 2, 14), (9, .iload_n 1, 1, 0, 0), (10, .invokestatic 153, 3, 163, 1), (13, .istore_n 2, 1, 0, 0), (14, .iconst 0, 1, 0, 0), (15, .istore_n 3, 1, 0, 0), (16, .iload_n 3, 1, 0, 0), (17, .aload_n 0, 1, 0, 0), (18, .getfield 125, 3, 2, 13), (21, .if_icmp .ge 112, 3, 0, 0), (24, .iload_n 2, 1, 0, 0), (25, .iconst (-1), 1, 0, 0), (26, .if_icmp .eq 107, 3, 0, 0), (29, .aload_n 0, 1, 0, 0), (30, .getfield 33, 3, 2, 12), (33, .iload_n 3, 1, 0, 0), (34, .invokestatic 128, 3, 164, 1), (37, .istore 4, 2, 0, 0), (39, .iload 4, 2, 0, 0), (41, .sipush 255, 3, 0, 0), (44, .iand, 1, 0, 0), (45, .istore 5, 2, 0, 0), (47, .iload 4, 2, 0, 0), (49, .bipush 8, 2, 0, 0), (51, .ishr, 1, 0, 0), (52, .istore 6, 2, 0, 0), (54, .aload_n 0, 1, 0, 0), (55, .getfield 40, 3, 2, 15), (58, .iconst (-1), 1, 0, 0), (59, .if_icmp .eq 12, 3, 0, 0), (62, .iload 6, 2, 0, 0), (64, .aload_n 0, 1, 0, 0), (65, .getfield 40, 3, 2, 15), (68, .if_icmp .gt 59, 3, 0, 0), (71, .aload_n 0, 1, 0, 0), (72, .getfield 47, 3, 2, 0), (75, .aload_n 0, 1, 0, 0), (76, .getfield 21, 3, 2, 4), (79, .iload 5, 2, 0, 0), (81, .invokestatic 128, 3, 164, 1), (84, .iload_n 2, 1, 0, 0), (85, .invokevirtual 161, 3, 136, 0), (88, .ifCond .eq 39, 3, 0, 0), (91, .aload_n 0, 1, 0, 0), (92, .getfield 30, 3, 2, 10), (95, .aload_n 0, 1, 0, 0), (96, .getfield 109, 3, 2, 11), (99, .iload 6, 2, 0, 0), (101, .bipush 8, 2, 0, 0), (103, .ishl, 1, 0, 0), (104, .aload_n 0, 1, 0, 0), (105, .getfield 15, 3, 2, 2), (108, .iload 5, 2, 0, 0), (110, .invokestatic 128, 3, 164, 1), (113, .ior, 1, 0, 0), (114, .invokestatic 105, 3, 165, 1), (117, .aload_n 0, 1, 0, 0), (118, .dup, 1, 0, 0), (119, .getfield 109, 3, 2, 11), (122, .iconst 1, 1, 0, 0), (123, .iadd, 1, 0, 0), (124, .putfield 109, 3, 2, 11), (127, .iinc 3 1, 3, 0, 0), (130, .goto (-114), 3, 0, 0), (133, .return_, 1, 0, 0)]
def E_m30 : E_MI := (2, ⟨E_R2, "step", "(I)V"⟩, prog_4_method_15_code, 7, (Option.none : Option FieldType), false, 1, E_c30)
def E_c31 : List E_C := [(0, .aload_n 0, 1, 0, 0), (1, .invokespecial 3, 3, 999, 0), (4, .aload_n 0, 1, 0, 0), (5, .new 9, 3, 10, 0), (8, .dup, 1, 0, 0), (9, .invokespecial 11, 3, 118, 1), (12, .putfield 12, 3, 3, 0), (15, .aload_n 0, 1, 0, 0), (16, .iconst (-1), 1, 0, 0), (17, .putfield 18, 3, 3, 2), (20, .aload_n 0, 1, 0, 0), (21, .iconst 0, 1, 0, 0), (22, .newarray .byte, 2, 1, 0), (24, .putfield 22, 3, 3, 3), (27, .return_, 1, 0, 0)]
def E_m31 : E_MI := (3, ⟨E_R3, "<init>", "()V"⟩, prog_5_method_1_code, 1, (Option.none : Option FieldType), false, 0, E_c31)
def E_c32 : List E_C := [(0, .aload_n 0, 1, 0, 0), (1, .getfield 12, 3, 3, 0), (4, .invokevirtual 26, 3, 119, 0), (7, .aload_n 0, 1, 0, 0), (8, .iconst 0, 1, 0, 0), (9, .putfield 29, 3, 3, 1), (12, .aload_n 0, 1, 0, 0), (13, .iconst (-1), 1, 0, 0), (14, .putfield 18, 3, 3, 2), (17, .aload_n 0, 1, 0, 0), (18, .aload_n 1, 1, 0, 0), (19, .putfield 22, 3, 3, 3), (22, .aload_n 0, 1, 0, 0), (23, .iload_n 2, 1, 0, 0), (24, .putfield 32, 3, 3, 4), (27, .aload_n 0, 1, 0, 0), (28, .iconst 0, 1, 0, 0), (29, .putfield 35, 3, 3, 5), (32, .aload_n 0, 1, 0, 0), (33, .iload_n 3, 1, 0, 0), (34, .putfield 38, 3, 3, 6), (37, .aload_n 0, 1, 0, 0), (38, .getfield 32, 3, 3, 4), (41, .bipush 80, 2, 0, 0), (43, .if_icmp .le 11, 3, 0, 0), (46, .aload_n 0, 1, 0, 0), (47, .iconst 3, 1, 0, 0), (48, .bipush 80, 2, 0, 0), (50, .invokevirtual 42, 3, 33, 0), (53, .return_, 1, 0, 0), (54, .aload_n 0, 1, 0, 0), (55, .iconst 0, 1, 0, 0), (56, .invokevirtual 46, 3, 35, 0), (59, .istore 4, 2, 0, 0), (61, .aload_n 0, 1, 0, 0), (62, .getfield 35, 3, 3, 5), (65, .aload_n 0, 1, 0, 0), (66, .getfield 32, 3, 3, 4), (69, .if_icmp .ge 12, 3, 0, 0), (72, .aload_n 0, 1, 0, 0), (73, .iconst 1, 1, 0, 0), (74, .aload_n 0, 1, 0, 0), (75, .getfield 35, 3, 3, 5), (78, .invokevirtual 42, 3, 33, 0), (81, .aload_n 0, 1, 0, 0), (82, .getfield 12, 3, 3, 0), (85, .iload 4, 2, 0, 0), (87, .invokevirtual 50, 3, 134, 0), (90, .sipush 200, 3, 0, 0), (93, .if_icmp .le 12, 3, 0, 0), (96, .aload_n 0, 1, 0, 0), (97, .iconst 3, 1, 0, 0), (98, .aload_n 0, 1, 0, 0), (99, .getfield 32, 3, 3, 4), (102, .invokevirtual 42, 3, 33, 0), (105, .return_, 1, 0, 0)]
def E_m32 : E_MI := (3, ⟨E_R3, "read", "([BIZ)V"⟩, prog_5_method_2_code, 5, (Option.none : Option FieldType), false, 3, E_c32)
def E_c33 : List E_C := [(0, .aload_n 0, 1, 0, 0), (1, .getfield 29, 3, 3, 1), (4, .ifCond .ne 13, 3, 0, 0), (7, .aload_n 0, 1, 0, 0), (8, .iload_n 1, 1, 0, 0), (9, .putfield 29, 3, 3, 1), (12, .aload_n 0, 1, 0, 0), (13, .iload_n 2, 1, 0, 0), (14, .putfield 18, 3, 3, 2), (17, .return_, 1, 0, 0)]
def E_m33 : E_MI := (3, ⟨E_R3, "fail", "(II)V"⟩, prog_5_method_3_code, 3, (Option.none : Option FieldType), false, 2, E_c33)
def E_c34 : List E_C := [(0, .aload_n 0, 1, 0, 0), (1, .getfield 35, 3, 3, 5), (4, .aload_n 0, 1, 0, 0), (5, .getfield 32, 3, 3, 4), (8, .if_icmp .ge 17, 3, 0, 0), (11, .aload_n 0, 1, 0, 0), (12, .getfield 22, 3, 3, 3), (15, .aload_n 0, 1, 0, 0), (16, .getfield 35, 3, 3, 5), (19, .invokestatic 53, 3, 163, 1), (22, .goto 4, 3, 0, 0), (25, .iconst (-1), 1, 0, 0), (26, .ireturn, 1, 0, 0)]
def E_m34 : E_MI := (3, ⟨E_R3, "peek", "()I"⟩, prog_5_method_4_code, 1, (Option.some FieldType.int), false, 0, E_c34)
def E_c35 : List E_C := [(0, .aload_n 0, 1, 0, 0), (1, .getfield 12, 3, 3, 0), (4, .iconst 0, 1, 0, 0), (5, .iconst 0, 1, 0, 0), (6, .invokevirtual 57, 3, 121, 0), (9, .istore_n 2, 1, 0, 0), (10, .aload_n 0, 1, 0, 0), (11, .getfield 12, 3, 3, 0), (14, .iload_n 2, 1, 0, 0), (15, .aload_n 0, 1, 0, 0), (16, .iload_n 1, 1, 0, 0), (17, .invokevirtual 61, 3, 36, 0), (20, .invokevirtual 64, 3, 124, 0), (23, .iconst 0, 1, 0, 0), (24, .istore_n 3, 1, 0, 0), (25, .iload_n 3, 1, 0, 0), (26, .bipush 80, 2, 0, 0), (28, .if_icmp .ge 57, 3, 0, 0), (31, .aload_n 0, 1, 0, 0), (32, .getfield 29, 3, 3, 1), (35, .ifCond .ne 50, 3, 0, 0), (38, .aload_n 0, 1, 0, 0), (39, .invokevirtual 67, 3, 34, 0), (42, .bipush 124, 2, 0, 0), (44, .if_icmp .ne 41, 3, 0, 0), (47, .aload_n 0, 1, 0, 0), (48, .dup, 1, 0, 0), (49, .getfield 35, 3, 3, 5), (52, .iconst 1, 1, 0, 0), (53, .iadd, 1, 0, 0), (54, .putfield 35, 3, 3, 5), (57, .aload_n 0, 1, 0, 0), (58, .getfield 12, 3, 3, 0), (61, .iload_n 2, 1, 0, 0), (62, .iconst 1, 1, 0, 0), (63, .invokevirtual 71, 3, 125, 0), (66, .aload_n 0, 1, 0, 0), (67, .getfield 12, 3, 3, 0), (70, .iload_n 2, 1, 0, 0), (71, .aload_n 0, 1, 0, 0), (72, .iload_n 1, 1, 0, 0), (73, .invokevirtual 61, 3, 36, 0), (76, .invokevirtual 64, 3, 124, 0), (79, .iinc 3 1, 3, 0, 0), (82, .goto (-57), 3, 0, 0), (85, .iload_n 2, 1, 0, 0), (86, .ireturn, 1, 0, 0)]
def E_m35 : E_MI := (3, ⟨E_R3, "readAlt", "(I)I"⟩, prog_5_method_5_code, 4, (Option.some FieldType.int), false, 1, E_c35)
def E_c36 : List E_C := [(0, .aload_n 0, 1, 0, 0), (1, .getfield 12, 3, 3, 0), (4, .iconst 1, 1, 0, 0), (5, .iconst 0, 1, 0, 0), (6, .invokevirtual 57, 3, 121, 0), (9, .istore_n 2, 1, 0, 0), (10, .iconst 0, 1, 0, 0), (11, .istore_n 3, 1, 0, 0), (12, .iload_n 3, 1, 0, 0), (13, .bipush 80, 2, 0, 0), (15, .if_icmp .ge 64, 3, 0, 0), (18, .aload_n 0, 1, 0, 0), (19, .getfield 35, 3, 3, 5), (22, .aload_n 0, 1, 0, 0), (23, .getfield 32, 3, 3, 4), (26, .if_icmp .ge 53, 3, 0, 0), (29, .aload_n 0, 1, 0, 0), (30, .invokevirtual 67, 3, 34, 0), (33, .bipush 124, 2, 0, 0), (35, .if_icmp .eq 44, 3, 0, 0), (38, .aload_n 0, 1, 0, 0), (39, .invokevirtual 67, 3, 34, 0), (42, .bipush 41, 2, 0, 0), (44, .if_icmp .eq 35, 3, 0, 0), (47, .aload_n 0, 1, 0, 0), (48, .iload_n 1, 1, 0, 0), (49, .invokevirtual 74, 3, 37, 0), (52, .istore 4, 2, 0, 0), (54, .aload_n 0, 1, 0, 0), (55, .getfield 29, 3, 3, 1), (58, .ifCond .eq 5, 3, 0, 0), (61, .iload_n 2, 1, 0, 0), (62, .ireturn, 1, 0, 0), (63, .aload_n 0, 1, 0, 0), (64, .getfield 12, 3, 3, 0), (67, .iload_n 2, 1, 0, 0), (68, .iload 4, 2, 0, 0), (70, .invokevirtual 64, 3, 124, 0), (73, .iinc 3 1, 3, 0, 0), (76, .goto (-64), 3, 0, 0), (79, .iload_n 2, 1, 0, 0), (80, .ireturn, 1, 0, 0)]
def E_m36 : E_MI := (3, ⟨E_R3, "readCat", "(I)I"⟩, prog_5_method_6_code, 5, (Option.some FieldType.int), false, 1, E_c36)
def E_c37 : List E_C := [(0, .aload_n 0, 1, 0, 0), (1, .iload_n 1, 1, 0, 0), (2, .invokevirtual 77, 3, 41, 0), (5, .istore_n 2, 1, 0, 0), (6, .aload_n 0, 1, 0, 0), (7, .getfield 29, 3, 3, 1), (10, .ifCond .eq 5, 3, 0, 0), (13, .iload_n 2, 1, 0, 0), (14, .ireturn, 1, 0, 0), (15, .aload_n 0, 1, 0, 0), (16, .getfield 12, 3, 3, 0), (19, .iload_n 2, 1, 0, 0), (20, .invokevirtual 50, 3, 134, 0), (23, .istore_n 3, 1, 0, 0), (24, .aload_n 0, 1, 0, 0), (25, .invokevirtual 67, 3, 34, 0), (28, .lookupswitch 132 #[(42, 44), (43, 68), (63, 92), (123, 116)], 44, 0, 0), (72, .aload_n 0, 1, 0, 0), (73, .dup, 1, 0, 0), (74, .getfield 35, 3, 3, 5), (77, .iconst 1, 1, 0, 0), (78, .iadd, 1, 0, 0), (79, .putfield 35, 3, 3, 5), (82, .aload_n 0, 1, 0, 0), (83, .getfield 12, 3, 3, 0), (86, .iload_n 2, 1, 0, 0), (87, .iconst 0, 1, 0, 0), (88, .iconst (-1), 1, 0, 0), (89, .iload_n 3, 1, 0, 0), (90, .iconst 1, 1, 0, 0), (91, .iadd, 1, 0, 0), (92, .invokevirtual 80, 3, 122, 0), (95, .ireturn, 1, 0, 0), (96, .aload_n 0, 1, 0, 0), (97, .dup, 1, 0, 0), (98, .getfield 35, 3, 3, 5), (101, .iconst 1, 1, 0, 0), (102, .iadd, 1, 0, 0), (103, .putfield 35, 3, 3, 5), (106, .aload_n 0, 1, 0, 0), (107, .getfield 12, 3, 3, 0), (110, .iload_n 2, 1, 0, 0), (111, .iconst 1, 1, 0, 0), (112, .iconst (-1), 1, 0, 0), (113, .iload_n 3, 1, 0, 0), (114, .iconst 1, 1, 0, 0), (115, .iadd, 1, 0, 0), (116, .invokevirtual 80, 3, 122, 0), (119, .ireturn, 1, 0, 0), (120, .aload_n 0, 1, 0, 0), (121, .dup, 1, 0, 0), (122, .getfield 35, 3, 3, 5), (125, .iconst 1, 1, 0, 0), (126, .iadd, 1, 0, 0), (127, .putfield 35, 3, 3, 5), (130, .aload_n 0, 1, 0, 0), (131, .getfield 12, 3, 3, 0), (134, .iload_n 2, 1, 0, 0), (135, .iconst 0, 1, 0, 0), (136, .iconst 1, 1, 0, 0), (137, .iload_n 3, 1, 0, 0), (138, .iconst 1, 1, 0, 0), (139, .iadd, 1, 0, 0), (140, .invokevirtual 80, 3, 122, 0), (143, .ireturn, 1, 0, 0), (144, .aload_n 0, 1, 0, 0), (145, .dup, 1, 0, 0), (146, .getfield 35, 3, 3, 5), (149, .iconst 1, 1, 0, 0), (150, .iadd, 1, 0, 0), (151, .putfield 35, 3, 3, 5), (154, .aload_n 0, 1, 0, 0), (155, .iload_n 2, 1, 0, 0), (156, .invokevirtual 84, 3, 38, 0), (159, .ireturn, 1, 0, 0), (160, .iload_n 2, 1, 0, 0), (161, .ireturn, 1, 0, 0)]
def E_m37 : E_MI := (3, ⟨E_R3, "readRep", "(I)I"⟩, prog_5_method_7_code, 4, (Option.some FieldType.int), false, 1, E_c37)
def E_c38 : List E_C := [(0, .aload_n 0, 1, 0, 0), (1, .getfield 12, 3, 3, 0), (4, .iload_n 1, 1, 0, 0), (5, .invokevirtual 50, 3, 134, 0), (8, .istore_n 2, 1, 0, 0), (9, .aload_n 0, 1, 0, 0), (10, .invokevirtual 87, 3, 40, 0), (13, .istore_n 3, 1, 0, 0), (14, .iload_n 3, 1, 0, 0), (15, .istore 4, 2, 0, 0), (17, .aload_n 0, 1, 0, 0), (18, .getfield 29, 3, 3, 1), (21, .ifCond .ne 43, 3, 0, 0), (24, .aload_n 0, 1, 0, 0), (25, .invokevirtual 67, 3, 34, 0), (28, .bipush 44, 2, 0, 0), (30, .if_icmp .ne 34, 3, 0, 0), (33, .aload_n 0, 1, 0, 0), (34, .dup, 1, 0, 0), (35, .getfield 35, 3, 3, 5), (38, .iconst 1, 1, 0, 0), (39, .iadd, 1, 0, 0), (40, .putfield 35, 3, 3, 5), (43, .aload_n 0, 1, 0, 0), (44, .invokevirtual 67, 3, 34, 0), (47, .invokestatic 90, 3, 166, 1), (50, .ifCond .eq 11, 3, 0, 0), (53, .aload_n 0, 1, 0, 0), (54, .iload_n 3, 1, 0, 0), (55, .invokevirtual 94, 3, 39, 0), (58, .goto 4, 3, 0, 0), (61, .iconst (-1), 1, 0, 0), (62, .istore 4, 2, 0, 0), (64, .aload_n 0, 1, 0, 0), (65, .getfield 29, 3, 3, 1), (68, .ifCond .eq 5, 3, 0, 0), (71, .iload_n 1, 1, 0, 0), (72, .ireturn, 1, 0, 0), (73, .aload_n 0, 1, 0, 0), (74, .invokevirtual 67, 3, 34, 0), (77, .bipush 125, 2, 0, 0), (79, .if_icmp .eq 14, 3, 0, 0), (82, .aload_n 0, 1, 0, 0), (83, .iconst 1, 1, 0, 0), (84, .aload_n 0, 1, 0, 0), (85, .getfield 35, 3, 3, 5), (88, .invokevirtual 42, 3, 33, 0), (91, .iload_n 1, 1, 0, 0), (92, .ireturn, 1, 0, 0), (93, .aload_n 0, 1, 0, 0), (94, .dup, 1, 0, 0), (95, .getfield 35, 3, 3, 5), (98, .iconst 1, 1, 0, 0), (99, .iadd, 1, 0, 0), (100, .putfield 35, 3, 3, 5), (103, .iload 4, 2, 0, 0), (105, .iconst (-1), 1, 0, 0), (106, .if_icmp .ne 13, 3, 0, 0), (109, .iload_n 3, 1, 0, 0), (110, .iconst 1, 1, 0, 0), (111, .iadd, 1, 0, 0), (112, .iload_n 2, 1, 0, 0), (113, .imul, 1, 0, 0), (114, .iconst 1, 1, 0, 0), (115, .iadd, 1, 0, 0), (116, .goto 12, 3, 0, 0), (119, .iload 4, 2, 0, 0), (121, .iload_n 2, 1, 0, 0), (122, .imul, 1, 0, 0), (123, .iload 4, 2, 0, 0), (125, .iadd, 1, 0, 0), (126, .iload_n 3, 1, 0, 0), (127, .isub, 1, 0, 0), (128, .istore 5, 2, 0, 0), (130, .aload_n 0, 1, 0, 0), (131, .getfield 12, 3, 3, 0), (134, .iload_n 1, 1, 0, 0), (135, .iload_n 3, 1, 0, 0), (136, .iload 4, 2, 0, 0), (138, .iload 5, 2, 0, 0), (140, .invokevirtual 80, 3, 122, 0), (143, .ireturn, 1, 0, 0)]
def E_m38 : E_MI := (3, ⟨E_R3, "readBraces", "(I)I"⟩, prog_5_method_8_code, 6, (Option.some FieldType.int), false, 1, E_c38)
def E_c39 : List E_C := [(0, .aload_n 0, 1, 0, 0), (1, .getfield 35, 3, 3, 5), (4, .istore_n 2, 1, 0, 0), (5, .aload_n 0, 1, 0, 0), (6, .invokevirtual 87, 3, 40, 0), (9, .istore_n 3, 1, 0, 0), (10, .iload_n 3, 1, 0, 0), (11, .iload_n 1, 1, 0, 0), (12, .if_icmp .ge 9, 3, 0, 0), (15, .aload_n 0, 1, 0, 0), (16, .iconst 2, 1, 0, 0), (17, .iload_n 2, 1, 0, 0), (18, .invokevirtual 42, 3, 33, 0), (21, .iload_n 3, 1, 0, 0), (22, .ireturn, 1, 0, 0)]
def E_m39 : E_MI := (3, ⟨E_R3, "readSecondNumber", "(I)I"⟩, prog_5_method_9_code, 4, (Option.some FieldType.int), false, 1, E_c39)
def E_c40 : List E_C := [(0, .aload_n 0, 1, 0, 0), (1, .getfield 35, 3, 3, 5), (4, .istore_n 1, 1, 0, 0), (5, .aload_n 0, 1, 0, 0), (6, .invokevirtual 67, 3, 34, 0), (9, .invokestatic 90, 3, 166, 1), (12, .ifCond .ne 14, 3, 0, 0), (15, .aload_n 0, 1, 0, 0), (16, .iconst 1, 1, 0, 0), (17, .aload_n 0, 1, 0, 0), (18, .getfield 35, 3, 3, 5), (21, .invokevirtual 42, 3, 33, 0), (24, .iconst 0, 1, 0, 0), (25, .ireturn, 1, 0, 0), (26, .aload_n 0, 1, 0, 0), (27, .invokevirtual 67, 3, 34, 0), (30, .bipush 48, 2, 0, 0), (32, .isub, 1, 0, 0), (33, .istore_n 2, 1, 0, 0), (34, .aload_n 0, 1, 0, 0), (35, .dup, 1, 0, 0), (36, .getfield 35, 3, 3, 5), (39, .iconst 1, 1, 0, 0), (40, .iadd, 1, 0, 0), (41, .putfield 35, 3, 3, 5), (44, .aload_n 0, 1, 0, 0), (45, .invokevirtual 67, 3, 34, 0), (48, .invokestatic 90, 3, 166, 1), (51, .ifCond .eq 26, 3, 0, 0), (54, .bipush 10, 2, 0, 0), (56, .iload_n 2, 1, 0, 0), (57, .imul, 1, 0, 0), (58, .aload_n 0, 1, 0, 0), (59, .invokevirtual 67, 3, 34, 0), (62, .iadd, 1, 0, 0), (63, .bipush 48, 2, 0, 0), (65, .isub, 1, 0, 0), (66, .istore_n 2, 1, 0, 0), (67, .aload_n 0, 1, 0, 0), (68, .dup, 1, 0, 0), (69, .getfield 35, 3, 3, 5), (72, .iconst 1, 1, 0, 0), (73, .iadd, 1, 0, 0), (74, .putfield 35, 3, 3, 5), (77, .iload_n 2, 1, 0, 0), (78, .bipush 20, 2, 0, 0), (80, .if_icmp .le 9, 3, 0, 0), (83, .aload_n 0, 1, 0, 0), (84, .iconst 3, 1, 0, 0), (85, .iload_n 1, 1, 0, 0), (86, .invokevirtual 42, 3, 33, 0), (89, .iload_n 2, 1, 0, 0), (90, .ireturn, 1, 0, 0)]
def E_m40 : E_MI := (3, ⟨E_R3, "readNumber", "()I"⟩, prog_5_method_10_code, 3, (Option.some FieldType.int), false, 0, E_c40)
def E_c41 : List E_C := [(0, .aload_n 0, 1, 0, 0), (1, .invokevirtual 67, 3, 34, 0), (4, .istore_n 2, 1, 0, 0), (5, .iload_n 2, 1, 0, 0), (6, .lookupswitch 119 #[(36, 94), (40, 58), (46, 114), (91, 64), (92, 69), (94, 74)], 58, 0, 0), (64, .aload_n 0, 1, 0, 0), (65, .iload_n 1, 1, 0, 0), (66, .invokevirtual 97, 3, 42, 0), (69, .ireturn, 1, 0, 0), (70, .aload_n 0, 1, 0, 0), (71, .invokevirtual 100, 3, 48, 0), (74, .ireturn, 1, 0, 0), (75, .aload_n 0, 1, 0, 0), (76, .invokevirtual 103, 3, 45, 0), (79, .ireturn, 1, 0, 0), (80, .aload_n 0, 1, 0, 0), (81, .dup, 1, 0, 0), (82, .getfield 35, 3, 3, 5), (85, .iconst 1, 1, 0, 0), (86, .iadd, 1, 0, 0), (87, .putfield 35, 3, 3, 5), (90, .aload_n 0, 1, 0, 0), (91, .getfield 12, 3, 3, 0), (94, .iconst 4, 1, 0, 0), (95, .iconst 1, 1, 0, 0), (96, .invokevirtual 57, 3, 121, 0), (99, .ireturn, 1, 0, 0), (100, .aload_n 0, 1, 0, 0), (101, .dup, 1, 0, 0), (102, .getfield 35, 3, 3, 5), (105, .iconst 1, 1, 0, 0), (106, .iadd, 1, 0, 0), (107, .putfield 35, 3, 3, 5), (110, .aload_n 0, 1, 0, 0), (111, .getfield 12, 3, 3, 0), (114, .iconst 5, 1, 0, 0), (115, .iconst 1, 1, 0, 0), (116, .invokevirtual 57, 3, 121, 0), (119, .ireturn, 1, 0, 0), (120, .aload_n 0, 1, 0, 0), (121, .invokevirtual 106, 3, 43, 0), (124, .ireturn, 1, 0, 0), (125, .aload_n 0, 1, 0, 0), (126, .iload_n 2, 1, 0, 0), (127, .invokevirtual 109, 3, 44, 0), (130, .ireturn, 1, 0, 0)]
def E_m41 : E_MI := (3, ⟨E_R3, "readAtom", "(I)I"⟩, prog_5_method_11_code, 3, (Option.some FieldType.int), false, 1, E_c41)
def E_c42 : List E_C := [(0, .iload_n 1, 1, 0, 0), (1, .bipush 10, 2, 0, 0), (3, .if_icmp .lt 14, 3, 0, 0), (6, .aload_n 0, 1, 0, 0), (7, .iconst 3, 1, 0, 0), (8, .aload_n 0, 1, 0, 0), (9, .getfield 35, 3, 3, 5), (12, .invokevirtual 42, 3, 33, 0), (15, .iconst (-1), 1, 0, 0), (16, .ireturn, 1, 0, 0), (17, .aload_n 0, 1, 0, 0), (18, .dup, 1, 0, 0), (19, .getfield 35, 3, 3, 5), (22, .iconst 1, 1, 0, 0), (23, .iadd, 1, 0, 0), (24, .putfield 35, 3, 3, 5), (27, .aload_n 0, 1, 0, 0), (28, .iload_n 1, 1, 0, 0), (29, .iconst 1, 1, 0, 0), (30, .iadd, 1, 0, 0), (31, .invokevirtual 46, 3, 35, 0), (34, .istore_n 2, 1, 0, 0), (35, .aload_n 0, 1, 0, 0), (36, .getfield 29, 3, 3, 1), (39, .ifCond .ne 21, 3, 0, 0), (42, .aload_n 0, 1, 0, 0), (43, .invokevirtual 67, 3, 34, 0), (46, .bipush 41, 2, 0, 0), (48, .if_icmp .eq 12, 3, 0, 0), (51, .aload_n 0, 1, 0, 0), (52, .iconst 1, 1, 0, 0), (53, .aload_n 0, 1, 0, 0), (54, .getfield 35, 3, 3, 5), (57, .invokevirtual 42, 3, 33, 0), (60, .aload_n 0, 1, 0, 0), (61, .dup, 1, 0, 0), (62, .getfield 35, 3, 3, 5), (65, .iconst 1, 1, 0, 0), (66, .iadd, 1, 0, 0), (67, .putfield 35, 3, 3, 5), (70, .iload_n 2, 1, 0, 0), (71, .ireturn, 1, 0, 0)]
def E_m42 : E_MI := (3, ⟨E_R3, "readGroup", "(I)I"⟩, prog_5_method_12_code, 3, (Option.some FieldType.int), false, 1, E_c42)
def E_c43 : List E_C := [(0, .aload_n 0, 1, 0, 0), (1, .dup, 1, 0, 0), (2, .getfield 35, 3, 3, 5), (5, .iconst 1, 1, 0, 0), (6, .iadd, 1, 0, 0), (7, .putfield 35, 3, 3, 5), (10, .aload_n 0, 1, 0, 0), (11, .getfield 12, 3, 3, 0), (14, .invokevirtual 112, 3, 135, 0), (17, .istore_n 1, 1, 0, 0), (18, .aload_n 0, 1, 0, 0), (19, .getfield 12, 3, 3, 0), (22, .iload_n 1, 1, 0, 0), (23, .bipush 10, 2, 0, 0), (25, .invokevirtual 115, 3, 138, 0), (28, .aload_n 0, 1, 0, 0), (29, .getfield 12, 3, 3, 0), (32, .iload_n 1, 1, 0, 0), (33, .invokevirtual 118, 3, 142, 0), (36, .aload_n 0, 1, 0, 0), (37, .getfield 12, 3, 3, 0), (40, .iload_n 1, 1, 0, 0), (41, .invokevirtual 122, 3, 123, 0), (44, .ireturn, 1, 0, 0)]
def E_m43 : E_MI := (3, ⟨E_R3, "readDot", "()I"⟩, prog_5_method_13_code, 2, (Option.some FieldType.int), false, 0, E_c43)
def E_c44 : List E_C := [(0, .iload_n 1, 1, 0, 0), (1, .bipush 124, 2, 0, 0), (3, .if_icmp .eq 45, 3, 0, 0), (6, .iload_n 1, 1, 0, 0), (7, .bipush 42, 2, 0, 0), (9, .if_icmp .eq 39, 3, 0, 0), (12, .iload_n 1, 1, 0, 0), (13, .bipush 43, 2, 0, 0), (15, .if_icmp .eq 33, 3, 0, 0), (18, .iload_n 1, 1, 0, 0), (19, .bipush 63, 2, 0, 0), (21, .if_icmp .eq 27, 3, 0, 0), (24, .iload_n 1, 1, 0, 0), (25, .bipush 123, 2, 0, 0), (27, .if_icmp .eq 21, 3, 0, 0), (30, .iload_n 1, 1, 0, 0), (31, .bipush 125, 2, 0, 0), (33, .if_icmp .eq 15, 3, 0, 0), (36, .iload_n 1, 1, 0, 0), (37, .bipush 41, 2, 0, 0), (39, .if_icmp .eq 9, 3, 0, 0), (42, .iload_n 1, 1, 0, 0), (43, .bipush 93, 2, 0, 0), (45, .if_icmp .ne 7, 3, 0, 0), (48, .iconst 1, 1, 0, 0), (49, .goto 4, 3, 0, 0), (52, .iconst 0, 1, 0, 0), (53, .istore_n 2, 1, 0, 0), (54, .iload_n 2, 1, 0, 0), (55, .ifCond .ne 15, 3, 0, 0), (58, .iload_n 1, 1, 0, 0), (59, .bipush 32, 2, 0, 0), (61, .if_icmp .lt 9, 3, 0, 0), (64, .iload_n 1, 1, 0, 0), (65, .bipush 126, 2, 0, 0), (67, .if_icmp .le 14, 3, 0, 0), (70, .aload_n 0, 1, 0, 0), (71, .iconst 1, 1, 0, 0), (72, .aload_n 0, 1, 0, 0), (73, .getfield 35, 3, 3, 5), (76, .invokevirtual 42, 3, 33, 0), (79, .iconst (-1), 1, 0, 0), (80, .ireturn, 1, 0, 0), (81, .aload_n 0, 1, 0, 0), (82, .dup, 1, 0, 0), (83, .getfield 35, 3, 3, 5), (86, .iconst 1, 1, 0, 0), (87, .iadd, 1, 0, 0), (88, .putfield 35, 3, 3, 5), (91, .aload_n 0, 1, 0, 0), (92, .getfield 12, 3, 3, 0), (95, .invokevirtual 112, 3, 135, 0), (98, .istore_n 3, 1, 0, 0), (99, .aload_n 0, 1, 0, 0), (100, .getfield 12, 3, 3, 0), (103, .iload_n 3, 1, 0, 0), (104, .iload_n 1, 1, 0, 0), (105, .invokevirtual 115, 3, 138, 0), (108, .aload_n 0, 1, 0, 0), (109, .getfield 38, 3, 3, 6), (112, .ifCond .eq 11, 3, 0, 0), (115, .aload_n 0, 1, 0, 0), (116, .getfield 12, 3, 3, 0), (119, .iload_n 3, 1, 0, 0), (120, .invokevirtual 125, 3, 141, 0), (123, .aload_n 0, 1, 0, 0), (124, .getfield 12, 3, 3, 0), (127, .iload_n 3, 1, 0, 0), (128, .invokevirtual 122, 3, 123, 0), (131, .ireturn, 1, 0, 0)]
def E_m44 : E_MI := (3, ⟨E_R3, "readPlain", "(I)I"⟩, prog_5_method_14_code, 4, (Option.some FieldType.int), false, 1, E_c44)
def E_c45 : List E_C := [(0, .aload_n 0, 1, 0, 0), (1, .dup, 1, 0, 0), (2, .getfield 35, 3, 3, 5), (5, .iconst 1, 1, 0, 0), (6, .iadd, 1, 0, 0), (7, .putfield 35, 3, 3, 5), (10, .aload_n 0, 1, 0, 0), (11, .invokevirtual 67, 3, 34, 0), (14, .istore_n 1, 1, 0, 0), (15, .iload_n 1, 1, 0, 0), (16, .bipush 98, 2, 0, 0), (18, .if_icmp .ne 24, 3, 0, 0), (21, .aload_n 0, 1, 0, 0), (22, .dup, 1, 0, 0), (23, .getfield 35, 3, 3, 5), (26, .iconst 1, 1, 0, 0), (27, .iadd, 1, 0, 0), (28, .putfield 35, 3, 3, 5), (31, .aload_n 0, 1, 0, 0), (32, .getfield 12, 3, 3, 0), (35, .bipush 6, 2, 0, 0), (37, .iconst 1, 1, 0, 0), (38, .invokevirtual 57, 3, 121, 0), (41, .ireturn, 1, 0, 0), (42, .aload_n 0, 1, 0, 0), (43, .getfield 12, 3, 3, 0), (46, .invokevirtual 112, 3, 135, 0), (49, .istore_n 2, 1, 0, 0), (50, .iload_n 1, 1, 0, 0), (51, .invokestatic 128, 3, 46, 0), (54, .ifCond .eq 15, 3, 0, 0), (57, .aload_n 0, 1, 0, 0), (58, .getfield 12, 3, 3, 0), (61, .iload_n 2, 1, 0, 0), (62, .iload_n 1, 1, 0, 0), (63, .invokevirtual 131, 3, 140, 0), (66, .goto 37, 3, 0, 0), (69, .iload_n 1, 1, 0, 0), (70, .invokestatic 134, 3, 47, 0), (73, .iconst (-1), 1, 0, 0), (74, .if_icmp .eq 18, 3, 0, 0), (77, .aload_n 0, 1, 0, 0), (78, .getfield 12, 3, 3, 0), (81, .iload_n 2, 1, 0, 0), (82, .iload_n 1, 1, 0, 0), (83, .invokestatic 134, 3, 47, 0), (86, .invokevirtual 115, 3, 138, 0), (89, .goto 14, 3, 0, 0), (92, .aload_n 0, 1, 0, 0), (93, .iconst 1, 1, 0, 0), (94, .aload_n 0, 1, 0, 0), (95, .getfield 35, 3, 3, 5), (98, .invokevirtual 42, 3, 33, 0), (101, .iconst (-1), 1, 0, 0), (102, .ireturn, 1, 0, 0), (103, .aload_n 0, 1, 0, 0), (104, .dup, 1, 0, 0), (105, .getfield 35, 3, 3, 5), (108, .iconst 1, 1, 0, 0), (109, .iadd, 1, 0, 0), (110, .putfield 35, 3, 3, 5), (113, .aload_n 0, 1, 0, 0), (114, .getfield 12, 3, 3, 0), (117, .iload_n 2, 1, 0, 0), (118, .invokevirtual 122, 3, 123, 0), (121, .ireturn, 1, 0, 0)]
def E_m45 : E_MI := (3, ⟨E_R3, "readEscape", "()I"⟩, prog_5_method_15_code, 3, (Option.some FieldType.int), false, 0, E_c45)
def E_c46 : List E_C := [(0, .iload_n 0, 1, 0, 0), (1, .bipush 100, 2, 0, 0), (3, .if_icmp .eq 15, 3, 0, 0), (6, .iload_n 0, 1, 0, 0), (7, .bipush 119, 2, 0, 0), (9, .if_icmp .eq 9, 3, 0, 0), (12, .iload_n 0, 1, 0, 0), (13, .bipush 115, 2, 0, 0), (15, .if_icmp .ne 7, 3, 0, 0), (18, .iconst 1, 1, 0, 0), (19, .goto 4, 3, 0, 0), (22, .iconst 0, 1, 0, 0), (23, .ireturn, 1, 0, 0)]
def E_m46 : E_MI := (3, ⟨E_R3, "isName", "(I)Z"⟩, prog_5_method_16_code, 1, (Option.some FieldType.boolean), true, 1, E_c46)
def E_c47 : List E_C := [(0, .iload_n 0, 1, 0, 0), (1, .bipush 110, 2, 0, 0), (3, .if_icmp .ne 6, 3, 0, 0), (6, .bipush 10, 2, 0, 0), (8, .ireturn, 1, 0, 0), (9, .iload_n 0, 1, 0, 0), (10, .bipush 116, 2, 0, 0), (12, .if_icmp .ne 6, 3, 0, 0), (15, .bipush 9, 2, 0, 0), (17, .ireturn, 1, 0, 0), (18, .iload_n 0, 1, 0, 0), (19, .bipush 32, 2, 0, 0), (21, .if_icmp .lt 27, 3, 0, 0), (24, .iload_n 0, 1, 0, 0), (25, .bipush 126, 2, 0, 0), (27, .if_icmp .gt 21, 3, 0, 0), (30, .iload_n 0, 1, 0, 0), (31, .invokestatic 137, 3, 167, 1), (34, .ifCond .ne 14, 3, 0, 0), (37, .iload_n 0, 1, 0, 0), (38, .invokestatic 90, 3, 166, 1), (41, .ifCond .ne 7, 3, 0, 0), (44, .iload_n 0, 1, 0, 0), (45, .goto 4, 3, 0, 0), (48, .iconst (-1), 1, 0, 0), (49, .ireturn, 1, 0, 0)]
def E_m47 : E_MI := (3, ⟨E_R3, "escaped", "(I)I"⟩, prog_5_method_17_code, 1, (Option.some FieldType.int), true, 1, E_c47)
def E_c48 : List E_C := [(0, .aload_n 0, 1, 0, 0), (1, .dup, 1, 0, 0), (2, .getfield 35, 3, 3, 5), (5, .iconst 1, 1, 0, 0), (6, .iadd, 1, 0, 0), (7, .putfield 35, 3, 3, 5), (10, .aload_n 0, 1, 0, 0), (11, .invokevirtual 67, 3, 34, 0), (14, .bipush 94, 2, 0, 0), (16, .if_icmp .ne 7, 3, 0, 0), (19, .iconst 1, 1, 0, 0), (20, .goto 4, 3, 0, 0), (23, .iconst 0, 1, 0, 0), (24, .istore_n 1, 1, 0, 0), (25, .aload_n 0, 1, 0, 0), (26, .dup, 1, 0, 0), (27, .getfield 35, 3, 3, 5), (30, .iload_n 1, 1, 0, 0), (31, .ifCond .eq 7, 3, 0, 0), (34, .iconst 1, 1, 0, 0), (35, .goto 4, 3, 0, 0), (38, .iconst 0, 1, 0, 0), (39, .iadd, 1, 0, 0), (40, .putfield 35, 3, 3, 5), (43, .aload_n 0, 1, 0, 0), (44, .getfield 12, 3, 3, 0), (47, .invokevirtual 112, 3, 135, 0), (50, .istore_n 2, 1, 0, 0), (51, .aload_n 0, 1, 0, 0), (52, .iload_n 2, 1, 0, 0), (53, .invokevirtual 140, 3, 49, 0), (56, .iconst 0, 1, 0, 0), (57, .istore_n 3, 1, 0, 0), (58, .iload_n 3, 1, 0, 0), (59, .bipush 80, 2, 0, 0), (61, .if_icmp .ge 30, 3, 0, 0), (64, .aload_n 0, 1, 0, 0), (65, .getfield 29, 3, 3, 1), (68, .ifCond .ne 23, 3, 0, 0), (71, .aload_n 0, 1, 0, 0), (72, .invokevirtual 67, 3, 34, 0), (75, .bipush 93, 2, 0, 0), (77, .if_icmp .eq 14, 3, 0, 0), (80, .aload_n 0, 1, 0, 0), (81, .iload_n 2, 1, 0, 0), (82, .invokevirtual 140, 3, 49, 0), (85, .iinc 3 1, 3, 0, 0), (88, .goto (-30), 3, 0, 0), (91, .aload_n 0, 1, 0, 0), (92, .dup, 1, 0, 0), (93, .getfield 35, 3, 3, 5), (96, .iconst 1, 1, 0, 0), (97, .iadd, 1, 0, 0), (98, .putfield 35, 3, 3, 5), (101, .aload_n 0, 1, 0, 0), (102, .getfield 38, 3, 3, 6), (105, .ifCond .eq 11, 3, 0, 0), (108, .aload_n 0, 1, 0, 0), (109, .getfield 12, 3, 3, 0), (112, .iload_n 2, 1, 0, 0), (113, .invokevirtual 125, 3, 141, 0), (116, .iload_n 1, 1, 0, 0), (117, .ifCond .eq 11, 3, 0, 0), (120, .aload_n 0, 1, 0, 0), (121, .getfield 12, 3, 3, 0), (124, .iload_n 2, 1, 0, 0), (125, .invokevirtual 118, 3, 142, 0), (128, .aload_n 0, 1, 0, 0), (129, .getfield 12, 3, 3, 0), (132, .iload_n 2, 1, 0, 0), (133, .invokevirtual 122, 3, 123, 0), (136, .ireturn, 1, 0, 0)]
def E_m48 : E_MI := (3, ⟨E_R3, "readClass", "()I"⟩, prog_5_method_18_code, 4, (Option.some FieldType.int), false, 0, E_c48)
def E_c49 : List E_C := [(0, .aload_n 0, 1, 0, 0), (1, .invokevirtual 67, 3, 34, 0), (4, .bipush 92, 2, 0, 0), (6, .if_icmp .ne 67, 3, 0, 0), (9, .aload_n 0, 1, 0, 0), (10, .getfield 35, 3, 3, 5), (13, .iconst 1, 1, 0, 0), (14, .iadd, 1, 0, 0), (15, .aload_n 0, 1, 0, 0), (16, .getfield 32, 3, 3, 4), (19, .if_icmp .ge 54, 3, 0, 0), (22, .aload_n 0, 1, 0, 0), (23, .getfield 22, 3, 3, 3), (26, .aload_n 0, 1, 0, 0), (27, .getfield 35, 3, 3, 5), (30, .iconst 1, 1, 0, 0), (31, .iadd, 1, 0, 0), (32, .invokestatic 53, 3, 163, 1), (35, .invokestatic 128, 3, 46, 0), (38, .ifCond .eq 35, 3, 0, 0), (41, .aload_n 0, 1, 0, 0), (42, .getfield 12, 3, 3, 0), (45, .iload_n 1, 1, 0, 0), (46, .aload_n 0, 1, 0, 0), (47, .getfield 22, 3, 3, 3), (50, .aload_n 0, 1, 0, 0), (51, .getfield 35, 3, 3, 5), (54, .iconst 1, 1, 0, 0), (55, .iadd, 1, 0, 0), (56, .invokestatic 53, 3, 163, 1), (59, .invokevirtual 131, 3, 140, 0), (62, .aload_n 0, 1, 0, 0), (63, .dup, 1, 0, 0), (64, .getfield 35, 3, 3, 5), (67, .iconst 2, 1, 0, 0), (68, .iadd, 1, 0, 0), (69, .putfield 35, 3, 3, 5), (72, .return_, 1, 0, 0), (73, .aload_n 0, 1, 0, 0), (74, .invokevirtual 143, 3, 50, 0), (77, .istore_n 2, 1, 0, 0), (78, .iload_n 2, 1, 0, 0), (79, .istore_n 3, 1, 0, 0), (80, .aload_n 0, 1, 0, 0), (81, .getfield 29, 3, 3, 1), (84, .ifCond .ne 45, 3, 0, 0), (87, .aload_n 0, 1, 0, 0), (88, .invokevirtual 67, 3, 34, 0), (91, .bipush 45, 2, 0, 0), (93, .if_icmp .ne 36, 3, 0, 0), (96, .aload_n 0, 1, 0, 0), (97, .dup, 1, 0, 0), (98, .getfield 35, 3, 3, 5), (101, .iconst 1, 1, 0, 0), (102, .iadd, 1, 0, 0), (103, .putfield 35, 3, 3, 5), (106, .aload_n 0, 1, 0, 0), (107, .getfield 35, 3, 3, 5), (110, .istore 4, 2, 0, 0), (112, .aload_n 0, 1, 0, 0), (113, .invokevirtual 143, 3, 50, 0), (116, .istore_n 3, 1, 0, 0), (117, .iload_n 3, 1, 0, 0), (118, .iload_n 2, 1, 0, 0), (119, .if_icmp .ge 10, 3, 0, 0), (122, .aload_n 0, 1, 0, 0), (123, .iconst 2, 1, 0, 0), (124, .iload 4, 2, 0, 0), (126, .invokevirtual 42, 3, 33, 0), (129, .aload_n 0, 1, 0, 0), (130, .getfield 29, 3, 3, 1), (133, .ifCond .ne 13, 3, 0, 0), (136, .aload_n 0, 1, 0, 0), (137, .getfield 12, 3, 3, 0), (140, .iload_n 1, 1, 0, 0), (141, .iload_n 2, 1, 0, 0), (142, .iload_n 3, 1, 0, 0), (143, .invokevirtual 146, 3, 139, 0), (146, .return_, 1, 0, 0)]
def E_m49 : E_MI := (3, ⟨E_R3, "readPiece", "(I)V"⟩, prog_5_method_19_code, 5, (Option.none : Option FieldType), false, 1, E_c49)
def E_c50 : List E_C := [(0, .aload_n 0, 1, 0, 0), (1, .invokevirtual 67, 3, 34, 0), (4, .istore_n 1, 1, 0, 0), (5, .iload_n 1, 1, 0, 0), (6, .istore_n 2, 1, 0, 0), (7, .iload_n 1, 1, 0, 0), (8, .bipush 92, 2, 0, 0), (10, .if_icmp .ne 24, 3, 0, 0), (13, .aload_n 0, 1, 0, 0), (14, .dup, 1, 0, 0), (15, .getfield 35, 3, 3, 5), (18, .iconst 1, 1, 0, 0), (19, .iadd, 1, 0, 0), (20, .putfield 35, 3, 3, 5), (23, .aload_n 0, 1, 0, 0), (24, .invokevirtual 67, 3, 34, 0), (27, .invokestatic 134, 3, 47, 0), (30, .istore_n 2, 1, 0, 0), (31, .goto 29, 3, 0, 0), (34, .iload_n 1, 1, 0, 0), (35, .bipush 32, 2, 0, 0), (37, .if_icmp .lt 21, 3, 0, 0), (40, .iload_n 1, 1, 0, 0), (41, .bipush 126, 2, 0, 0), (43, .if_icmp .gt 15, 3, 0, 0), (46, .iload_n 1, 1, 0, 0), (47, .bipush 93, 2, 0, 0), (49, .if_icmp .eq 9, 3, 0, 0), (52, .iload_n 1, 1, 0, 0), (53, .bipush 45, 2, 0, 0), (55, .if_icmp .ne 5, 3, 0, 0), (58, .iconst (-1), 1, 0, 0), (59, .istore_n 2, 1, 0, 0), (60, .iload_n 2, 1, 0, 0), (61, .iconst (-1), 1, 0, 0), (62, .if_icmp .ne 14, 3, 0, 0), (65, .aload_n 0, 1, 0, 0), (66, .iconst 1, 1, 0, 0), (67, .aload_n 0, 1, 0, 0), (68, .getfield 35, 3, 3, 5), (71, .invokevirtual 42, 3, 33, 0), (74, .iconst (-1), 1, 0, 0), (75, .ireturn, 1, 0, 0), (76, .aload_n 0, 1, 0, 0), (77, .dup, 1, 0, 0), (78, .getfield 35, 3, 3, 5), (81, .iconst 1, 1, 0, 0), (82, .iadd, 1, 0, 0), (83, .putfield 35, 3, 3, 5), (86, .iload_n 2, 1, 0, 0), (87, .ireturn, 1, 0, 0)]
def E_m50 : E_MI := (3, ⟨E_R3, "readOne", "()I"⟩, prog_5_method_20_code, 3, (Option.some FieldType.int), false, 0, E_c50)
def E_c51 : List E_C := [(0, .aload_n 0, 1, 0, 0), (1, .invokespecial 3, 3, 999, 0), (4, .aload_n 0, 1, 0, 0), (5, .new 9, 3, 9, 0), (8, .dup, 1, 0, 0), (9, .invokespecial 11, 3, 108, 1), (12, .putfield 12, 3, 4, 2), (15, .aload_n 0, 1, 0, 0), (16, .new 18, 3, 7, 0), (19, .dup, 1, 0, 0), (20, .invokespecial 20, 3, 87, 1), (23, .putfield 21, 3, 4, 3), (26, .aload_n 0, 1, 0, 0), (27, .new 18, 3, 7, 0), (30, .dup, 1, 0, 0), (31, .invokespecial 20, 3, 87, 1), (34, .putfield 25, 3, 4, 4), (37, .aload_n 0, 1, 0, 0), (38, .new 28, 3, 1, 0), (41, .dup, 1, 0, 0), (42, .bipush 24, 2, 0, 0), (44, .invokespecial 30, 3, 3, 0), (47, .putfield 33, 3, 4, 5), (50, .return_, 1, 0, 0)]
def E_m51 : E_MI := (4, ⟨E_R4, "<init>", "()V"⟩, prog_6_method_1_code, 1, (Option.none : Option FieldType), false, 0, E_c51)
def E_c52 : List E_C := [(0, .aload_n 0, 1, 0, 0), (1, .getfield 12, 3, 4, 2), (4, .aload_n 1, 1, 0, 0), (5, .invokevirtual 37, 3, 114, 0), (8, .aload_n 0, 1, 0, 0), (9, .iconst 1, 1, 0, 0), (10, .putfield 41, 3, 4, 0), (13, .aload_n 0, 1, 0, 0), (14, .iconst 0, 1, 0, 0), (15, .putfield 45, 3, 4, 1), (18, .return_, 1, 0, 0)]
def E_m52 : E_MI := (4, ⟨E_R4, "becomeExact", "(LGramFinder$Texts;)V"⟩, prog_6_method_2_code, 2, (Option.none : Option FieldType), false, 1, E_c52)
def E_c53 : List E_C := [(0, .aload_n 0, 1, 0, 0), (1, .iconst 0, 1, 0, 0), (2, .putfield 41, 3, 4, 0), (5, .aload_n 0, 1, 0, 0), (6, .iconst 1, 1, 0, 0), (7, .putfield 45, 3, 4, 1), (10, .aload_n 0, 1, 0, 0), (11, .getfield 21, 3, 4, 3), (14, .invokevirtual 48, 3, 89, 0), (17, .aload_n 0, 1, 0, 0), (18, .getfield 21, 3, 4, 3), (21, .iconst 0, 1, 0, 0), (22, .invokevirtual 51, 3, 90, 0), (25, .aload_n 0, 1, 0, 0), (26, .getfield 25, 3, 4, 4), (29, .invokevirtual 48, 3, 89, 0), (32, .aload_n 0, 1, 0, 0), (33, .getfield 25, 3, 4, 4), (36, .iconst 0, 1, 0, 0), (37, .invokevirtual 51, 3, 90, 0), (40, .aload_n 0, 1, 0, 0), (41, .getfield 33, 3, 4, 5), (44, .invokevirtual 54, 3, 4, 0), (47, .aload_n 0, 1, 0, 0), (48, .getfield 33, 3, 4, 5), (51, .aload_n 1, 1, 0, 0), (52, .invokevirtual 55, 3, 6, 0), (55, .return_, 1, 0, 0)]
def E_m53 : E_MI := (4, ⟨E_R4, "becomeShut", "(LGramFinder$Row;)V"⟩, prog_6_method_3_code, 2, (Option.none : Option FieldType), false, 1, E_c53)
def E_c54 : List E_C := [(0, .aload_n 0, 1, 0, 0), (1, .invokespecial 3, 3, 999, 0), (4, .aload_n 0, 1, 0, 0), (5, .bipush 38, 2, 0, 0), (7, .anewarray 9, 3, 5, 0), (10, .putfield 11, 3, 5, 1), (13, .aload_n 0, 1, 0, 0), (14, .new 17, 3, 1, 0), (17, .dup, 1, 0, 0), (18, .sipush 576, 3, 0, 0), (21, .invokespecial 19, 3, 3, 0), (24, .putfield 22, 3, 5, 2), (27, .aload_n 0, 1, 0, 0), (28, .new 17, 3, 1, 0), (31, .dup, 1, 0, 0), (32, .bipush 24, 2, 0, 0), (34, .invokespecial 19, 3, 3, 0), (37, .putfield 26, 3, 5, 3), (40, .aload_n 0, 1, 0, 0), (41, .new 29, 3, 7, 0), (44, .dup, 1, 0, 0), (45, .invokespecial 31, 3, 87, 1), (48, .putfield 32, 3, 5, 4), (51, .aload_n 0, 1, 0, 0), (52, .new 29, 3, 7, 0), (55, .dup, 1, 0, 0), (56, .invokespecial 31, 3, 87, 1), (59, .putfield 36, 3, 5, 5), (62, .aload_n 0, 1, 0, 0), (63, .new 29, 3, 7, 0), (66, .dup, 1, 0, 0), (67, .invokespecial 31, 3, 87, 1), (70, .putfield 39, 3, 5, 6), (73, .aload_n 0, 1, 0, 0), (74, .new 29, 3, 7, 0), (77, .dup, 1, 0, 0), (78, .invokespecial 31, 3, 87, 1), (81, .putfield 42, 3, 5, 7), (84, .aload_n 0, 1, 0, 0), (85, .new 45, 3, 9, 0), (88, .dup, 1, 0, 0), (89, .invokespecial 47, 3, 108, 1), (92, .putfield 48, 3, 5, 8), (95, .aload_n 0, 1, 0, 0), (96, .bipush 60, 2, 0, 0), (98, .newarray .byte, 2, 1, 0), (100, .putfield 52, 3, 5, 9), (103, .aload_n 0, 1, 0, 0), (104, .new 9, 3, 4, 0), (107, .dup, 1, 0, 0), (108, .invokespecial 56, 3, 51, 1), (111, .putfield 57, 3, 5, 10), (114, .aload_n 0, 1, 0, 0), (115, .aload_n 1, 1, 0, 0), (116, .putfield 61, 3, 5, 0), (119, .return_, 1, 0, 0)]
def E_m54 : E_MI := (5, ⟨E_R5, "<init>", "(LGramFinder$Tree;)V"⟩, prog_7_method_1_code, 2, (Option.none : Option FieldType), false, 1, E_c54)
def E_c55 : List E_C := [(0, .aload_n 0, 1, 0, 0), (1, .iconst 0, 1, 0, 0), (2, .invokevirtual 65, 3, 57, 0), (5, .areturn, 1, 0, 0)]
def E_m55 : E_MI := (5, ⟨E_R5, "whole", "()LGramFinder$Part;"⟩, prog_7_method_2_code, 1, (Option.some (FieldType.object "GramFinder$Part")), false, 0, E_c55)
def E_c56 : List E_C := [(0, .aload_n 0, 1, 0, 0), (1, .aload_n 0, 1, 0, 0), (2, .getfield 57, 3, 5, 10), (5, .invokevirtual 69, 3, 58, 0), (8, .aload_n 0, 1, 0, 0), (9, .aload_n 0, 1, 0, 0), (10, .getfield 61, 3, 5, 0), (13, .invokevirtual 73, 3, 120, 0), (16, .iconst 0, 1, 0, 0), (17, .invokevirtual 79, 3, 60, 0), (20, .aload_n 0, 1, 0, 0), (21, .aload_n 0, 1, 0, 0), (22, .invokevirtual 83, 3, 55, 0), (25, .invokevirtual 87, 3, 69, 0), (28, .aload_n 0, 1, 0, 0), (29, .invokevirtual 83, 3, 55, 0), (32, .getfield 90, 3, 4, 5), (35, .invokevirtual 93, 3, 12, 0), (38, .return_, 1, 0, 0)]
def E_m56 : E_MI := (5, ⟨E_R5, "plan", "()V"⟩, prog_7_method_3_code, 1, (Option.none : Option FieldType), false, 0, E_c56)
def E_c57 : List E_C := [(0, .iconst 0, 1, 0, 0), (1, .iload_n 1, 1, 0, 0), (2, .aload_n 0, 1, 0, 0), (3, .getfield 11, 3, 5, 1), (6, .arraylength, 1, 0, 0), (7, .iconst 1, 1, 0, 0), (8, .isub, 1, 0, 0), (9, .invokestatic 96, 3, 289, 0), (12, .invokestatic 102, 3, 288, 0), (15, .istore_n 2, 1, 0, 0), (16, .aload_n 0, 1, 0, 0), (17, .getfield 11, 3, 5, 1), (20, .iload_n 2, 1, 0, 0), (21, .aaload, 1, 0, 0), (22, .ifnonnull 16, 3, 0, 0), (25, .aload_n 0, 1, 0, 0), (26, .getfield 11, 3, 5, 1), (29, .iload_n 2, 1, 0, 0), (30, .new 9, 3, 4, 0), (33, .dup, 1, 0, 0), (34, .invokespecial 56, 3, 51, 1), (37, .aastore, 1, 0, 0), (38, .aload_n 0, 1, 0, 0), (39, .getfield 11, 3, 5, 1), (42, .iload_n 2, 1, 0, 0), (43, .aaload, 1, 0, 0), (44, .areturn, 1, 0, 0)]
def E_m57 : E_MI := (5, ⟨E_R5, "part", "(I)LGramFinder$Part;"⟩, prog_7_method_4_code, 3, (Option.some (FieldType.object "GramFinder$Part")), false, 1, E_c57)
def E_c58 : List E_C := [(0, .aload_n 0, 1, 0, 0), (1, .getfield 48, 3, 5, 8), (4, .invokevirtual 105, 3, 109, 0), (7, .aload_n 0, 1, 0, 0), (8, .getfield 48, 3, 5, 8), (11, .aload_n 0, 1, 0, 0), (12, .getfield 52, 3, 5, 9), (15, .iconst 0, 1, 0, 0), (16, .invokevirtual 108, 3, 112, 0), (19, .pop, 1, 0, 0), (20, .aload_n 1, 1, 0, 0), (21, .aload_n 0, 1, 0, 0), (22, .getfield 48, 3, 5, 8), (25, .invokevirtual 112, 3, 52, 0), (28, .return_, 1, 0, 0)]
def E_m58 : E_MI := (5, ⟨E_R5, "becomeNothing", "(LGramFinder$Part;)V"⟩, prog_7_method_5_code, 2, (Option.none : Option FieldType), false, 1, E_c58)
def E_c59 : List E_C := [(0, .aload_n 0, 1, 0, 0), (1, .getfield 32, 3, 5, 4), (4, .invokevirtual 116, 3, 89, 0), (7, .aload_n 1, 1, 0, 0), (8, .aload_n 0, 1, 0, 0), (9, .getfield 32, 3, 5, 4), (12, .invokevirtual 117, 3, 53, 0), (15, .return_, 1, 0, 0)]
def E_m59 : E_MI := (5, ⟨E_R5, "becomeShut", "(LGramFinder$Part;)V"⟩, prog_7_method_6_code, 2, (Option.none : Option FieldType), false, 1, E_c59)
def E_c60 : List E_C := [(0, .iload_n 2, 1, 0, 0), (1, .bipush 38, 2, 0, 0), (3, .if_icmp .lt 4, 3, 0, 0), (6, .return_, 1, 0, 0), (7, .aload_n 0, 1, 0, 0), (8, .getfield 61, 3, 5, 0), (11, .iload_n 1, 1, 0, 0), (12, .invokevirtual 121, 3, 126, 0), (15, .tableswitch 76 0 3 #[29, 38, 47, 56], 29, 0, 0), (44, .aload_n 0, 1, 0, 0), (45, .iload_n 1, 1, 0, 0), (46, .iload_n 2, 1, 0, 0), (47, .invokevirtual 125, 3, 61, 0), (50, .goto 50, 3, 0, 0), (53, .aload_n 0, 1, 0, 0), (54, .iload_n 1, 1, 0, 0), (55, .iload_n 2, 1, 0, 0), (56, .invokevirtual 128, 3, 62, 0), (59, .goto 41, 3, 0, 0), (62, .aload_n 0, 1, 0, 0), (63, .iload_n 1, 1, 0, 0), (64, .iload_n 2, 1, 0, 0), (65, .invokevirtual 131, 3, 63, 0), (68, .goto 32, 3, 0, 0), (71, .aload_n 0, 1, 0, 0), (72, .aload_n 0, 1, 0, 0), (73, .getfield 61, 3, 5, 0), (76, .iload_n 1, 1, 0, 0), (77, .invokevirtual 134, 3, 133, 0), (80, .aload_n 0, 1, 0, 0), (81, .iload_n 2, 1, 0, 0), (82, .invokevirtual 65, 3, 57, 0), (85, .invokevirtual 137, 3, 64, 0), (88, .goto 12, 3, 0, 0), (91, .aload_n 0, 1, 0, 0), (92, .aload_n 0, 1, 0, 0), (93, .iload_n 2, 1, 0, 0), (94, .invokevirtual 65, 3, 57, 0), (97, .invokevirtual 69, 3, 58, 0), (100, .return_, 1, 0, 0)]
def E_m60 : E_MI := (5, ⟨E_R5, "work", "(II)V"⟩, prog_7_method_7_code, 3, (Option.none : Option FieldType), false, 2, E_c60)
def E_c61 : List E_C := [(0, .aload_n 0, 1, 0, 0), (1, .getfield 61, 3, 5, 0), (4, .iload_n 1, 1, 0, 0), (5, .invokevirtual 141, 3, 127, 0), (8, .istore_n 3, 1, 0, 0), (9, .aload_n 0, 1, 0, 0), (10, .iload_n 3, 1, 0, 0), (11, .iload_n 2, 1, 0, 0), (12, .invokevirtual 79, 3, 60, 0), (15, .aload_n 0, 1, 0, 0), (16, .getfield 61, 3, 5, 0), (19, .iload_n 3, 1, 0, 0), (20, .invokevirtual 144, 3, 129, 0), (23, .istore_n 3, 1, 0, 0), (24, .iconst 0, 1, 0, 0), (25, .istore 4, 2, 0, 0), (27, .iload 4, 2, 0, 0), (29, .sipush 168, 3, 0, 0), (32, .if_icmp .ge 47, 3, 0, 0), (35, .iload_n 3, 1, 0, 0), (36, .iconst (-1), 1, 0, 0), (37, .if_icmp .eq 42, 3, 0, 0), (40, .aload_n 0, 1, 0, 0), (41, .iload_n 3, 1, 0, 0), (42, .iload_n 2, 1, 0, 0), (43, .iconst 1, 1, 0, 0), (44, .iadd, 1, 0, 0), (45, .invokevirtual 79, 3, 60, 0), (48, .aload_n 0, 1, 0, 0), (49, .aload_n 0, 1, 0, 0), (50, .iload_n 2, 1, 0, 0), (51, .invokevirtual 65, 3, 57, 0), (54, .aload_n 0, 1, 0, 0), (55, .iload_n 2, 1, 0, 0), (56, .iconst 1, 1, 0, 0), (57, .iadd, 1, 0, 0), (58, .invokevirtual 65, 3, 57, 0), (61, .invokevirtual 147, 3, 66, 0), (64, .aload_n 0, 1, 0, 0), (65, .getfield 61, 3, 5, 0), (68, .iload_n 3, 1, 0, 0), (69, .invokevirtual 144, 3, 129, 0), (72, .istore_n 3, 1, 0, 0), (73, .iinc 4 1, 3, 0, 0), (76, .goto (-49), 3, 0, 0), (79, .return_, 1, 0, 0)]
def E_m61 : E_MI := (5, ⟨E_R5, "workAlt", "(II)V"⟩, prog_7_method_8_code, 5, (Option.none : Option FieldType), false, 2, E_c61)
def E_c62 : List E_C := [(0, .aload_n 0, 1, 0, 0), (1, .aload_n 0, 1, 0, 0), (2, .iload_n 2, 1, 0, 0), (3, .invokevirtual 65, 3, 57, 0), (6, .invokevirtual 69, 3, 58, 0), (9, .aload_n 0, 1, 0, 0), (10, .getfield 61, 3, 5, 0), (13, .iload_n 1, 1, 0, 0), (14, .invokevirtual 141, 3, 127, 0), (17, .istore_n 3, 1, 0, 0), (18, .iconst 0, 1, 0, 0), (19, .istore 4, 2, 0, 0), (21, .iload 4, 2, 0, 0), (23, .sipush 168, 3, 0, 0), (26, .if_icmp .ge 47, 3, 0, 0), (29, .iload_n 3, 1, 0, 0), (30, .iconst (-1), 1, 0, 0), (31, .if_icmp .eq 42, 3, 0, 0), (34, .aload_n 0, 1, 0, 0), (35, .iload_n 3, 1, 0, 0), (36, .iload_n 2, 1, 0, 0), (37, .iconst 1, 1, 0, 0), (38, .iadd, 1, 0, 0), (39, .invokevirtual 79, 3, 60, 0), (42, .aload_n 0, 1, 0, 0), (43, .aload_n 0, 1, 0, 0), (44, .iload_n 2, 1, 0, 0), (45, .invokevirtual 65, 3, 57, 0), (48, .aload_n 0, 1, 0, 0), (49, .iload_n 2, 1, 0, 0), (50, .iconst 1, 1, 0, 0), (51, .iadd, 1, 0, 0), (52, .invokevirtual 65, 3, 57, 0), (55, .invokevirtual 151, 3, 65, 0), (58, .aload_n 0, 1, 0, 0), (59, .getfield 61, 3, 5, 0), (62, .iload_n 3, 1, 0, 0), (63, .invokevirtual 144, 3, 129, 0), (66, .istore_n 3, 1, 0, 0), (67, .iinc 4 1, 3, 0, 0), (70, .goto (-49), 3, 0, 0), (73, .return_, 1, 0, 0)]
def E_m62 : E_MI := (5, ⟨E_R5, "workCat", "(II)V"⟩, prog_7_method_9_code, 5, (Option.none : Option FieldType), false, 2, E_c62)
def E_c63 : List E_C := [(0, .aload_n 0, 1, 0, 0), (1, .getfield 61, 3, 5, 0), (4, .iload_n 1, 1, 0, 0), (5, .invokevirtual 154, 3, 131, 0), (8, .istore_n 3, 1, 0, 0), (9, .aload_n 0, 1, 0, 0), (10, .getfield 61, 3, 5, 0), (13, .iload_n 1, 1, 0, 0), (14, .invokevirtual 157, 3, 132, 0), (17, .istore 4, 2, 0, 0), (19, .aload_n 0, 1, 0, 0), (20, .iload_n 2, 1, 0, 0), (21, .invokevirtual 65, 3, 57, 0), (24, .astore 5, 2, 0, 0), (26, .aload_n 0, 1, 0, 0), (27, .iload_n 2, 1, 0, 0), (28, .iconst 1, 1, 0, 0), (29, .iadd, 1, 0, 0), (30, .invokevirtual 65, 3, 57, 0), (33, .astore 6, 2, 0, 0), (35, .iload_n 3, 1, 0, 0), (36, .ifCond .ne 16, 3, 0, 0), (39, .iload 4, 2, 0, 0), (41, .iconst (-1), 1, 0, 0), (42, .if_icmp .ne 10, 3, 0, 0), (45, .aload_n 0, 1, 0, 0), (46, .aload 5, 2, 0, 0), (48, .invokevirtual 160, 3, 59, 0), (51, .return_, 1, 0, 0), (52, .aload_n 0, 1, 0, 0), (53, .aload 5, 2, 0, 0), (55, .invokevirtual 69, 3, 58, 0), (58, .iload 4, 2, 0, 0), (60, .ifCond .ne 4, 3, 0, 0), (63, .return_, 1, 0, 0), (64, .aload_n 0, 1, 0, 0), (65, .aload_n 0, 1, 0, 0), (66, .getfield 61, 3, 5, 0), (69, .iload_n 1, 1, 0, 0), (70, .invokevirtual 141, 3, 127, 0), (73, .iload_n 2, 1, 0, 0), (74, .iconst 1, 1, 0, 0), (75, .iadd, 1, 0, 0), (76, .invokevirtual 79, 3, 60, 0), (79, .iconst 0, 1, 0, 0), (80, .istore 7, 2, 0, 0), (82, .iload 7, 2, 0, 0), (84, .iload 4, 2, 0, 0), (86, .iconst (-1), 1, 0, 0), (87, .if_icmp .ne 9, 3, 0, 0), (90, .iload_n 3, 1, 0, 0), (91, .iconst 1, 1, 0, 0), (92, .isub, 1, 0, 0), (93, .goto 4, 3, 0, 0), (96, .iload_n 3, 1, 0, 0), (97, .if_icmp .ge 17, 3, 0, 0), (100, .aload_n 0, 1, 0, 0), (101, .aload 5, 2, 0, 0), (103, .aload 6, 2, 0, 0), (105, .invokevirtual 151, 3, 65, 0), (108, .iinc 7 1, 3, 0, 0), (111, .goto (-29), 3, 0, 0), (114, .iload 4, 2, 0, 0), (116, .iconst (-1), 1, 0, 0), (117, .if_icmp .ne 26, 3, 0, 0), (120, .aload_n 0, 1, 0, 0), (121, .aload 6, 2, 0, 0), (123, .invokevirtual 87, 3, 69, 0), (126, .aload 6, 2, 0, 0), (128, .iconst 0, 1, 0, 0), (129, .putfield 162, 3, 4, 0), (132, .aload_n 0, 1, 0, 0), (133, .aload 5, 2, 0, 0), (135, .aload 6, 2, 0, 0), (137, .invokevirtual 151, 3, 65, 0), (140, .goto 43, 3, 0, 0), (143, .iload 4, 2, 0, 0), (145, .iload_n 3, 1, 0, 0), (146, .if_icmp .le 37, 3, 0, 0), (149, .aload_n 0, 1, 0, 0), (150, .aload 6, 2, 0, 0), (152, .aload_n 0, 1, 0, 0), (153, .getfield 57, 3, 5, 10), (156, .invokevirtual 147, 3, 66, 0), (159, .iload_n 3, 1, 0, 0), (160, .istore 7, 2, 0, 0), (162, .iload 7, 2, 0, 0), (164, .iload 4, 2, 0, 0), (166, .if_icmp .ge 17, 3, 0, 0), (169, .aload_n 0, 1, 0, 0), (170, .aload 5, 2, 0, 0), (172, .aload 6, 2, 0, 0), (174, .invokevirtual 151, 3, 65, 0), (177, .iinc 7 1, 3, 0, 0), (180, .goto (-18), 3, 0, 0), (183, .return_, 1, 0, 0)]
def E_m63 : E_MI := (5, ⟨E_R5, "workRepeat", "(II)V"⟩, prog_7_method_10_code, 8, (Option.none : Option FieldType), false, 2, E_c63)
def E_c64 : List E_C := [(0, .aload_n 0, 1, 0, 0), (1, .getfield 48, 3, 5, 8), (4, .invokevirtual 105, 3, 109, 0), (7, .aload_n 0, 1, 0, 0), (8, .getfield 61, 3, 5, 0), (11, .iload_n 1, 1, 0, 0), (12, .iconst 0, 1, 0, 0), (13, .invokevirtual 166, 3, 137, 0), (16, .istore_n 3, 1, 0, 0), (17, .iconst 0, 1, 0, 0), (18, .istore 4, 2, 0, 0), (20, .iload 4, 2, 0, 0), (22, .bipush 8, 2, 0, 0), (24, .if_icmp .gt 55, 3, 0, 0), (27, .iload_n 3, 1, 0, 0), (28, .iconst (-1), 1, 0, 0), (29, .if_icmp .eq 50, 3, 0, 0), (32, .aload_n 0, 1, 0, 0), (33, .getfield 52, 3, 5, 9), (36, .iconst 0, 1, 0, 0), (37, .iload_n 3, 1, 0, 0), (38, .i2b, 1, 0, 0), (39, .bastore, 1, 0, 0), (40, .aload_n 0, 1, 0, 0), (41, .getfield 48, 3, 5, 8), (44, .aload_n 0, 1, 0, 0), (45, .getfield 52, 3, 5, 9), (48, .iconst 1, 1, 0, 0), (49, .invokevirtual 108, 3, 112, 0), (52, .ifCond .ne 9, 3, 0, 0), (55, .aload_n 0, 1, 0, 0), (56, .aload_n 2, 1, 0, 0), (57, .invokevirtual 160, 3, 59, 0), (60, .return_, 1, 0, 0), (61, .aload_n 0, 1, 0, 0), (62, .getfield 61, 3, 5, 0), (65, .iload_n 1, 1, 0, 0), (66, .iload_n 3, 1, 0, 0), (67, .iconst 1, 1, 0, 0), (68, .iadd, 1, 0, 0), (69, .invokevirtual 166, 3, 137, 0), (72, .istore_n 3, 1, 0, 0), (73, .iinc 4 1, 3, 0, 0), (76, .goto (-56), 3, 0, 0), (79, .aload_n 2, 1, 0, 0), (80, .aload_n 0, 1, 0, 0), (81, .getfield 48, 3, 5, 8), (84, .invokevirtual 112, 3, 52, 0), (87, .return_, 1, 0, 0)]
def E_m64 : E_MI := (5, ⟨E_R5, "workBytes", "(ILGramFinder$Part;)V"⟩, prog_7_method_11_code, 5, (Option.none : Option FieldType), false, 2, E_c64)
def E_c65 : List E_C := [(0, .aload_n 1, 1, 0, 0), (1, .getfield 162, 3, 4, 0), (4, .ifCond .eq 34, 3, 0, 0), (7, .aload_n 2, 1, 0, 0), (8, .getfield 162, 3, 4, 0), (11, .ifCond .eq 27, 3, 0, 0), (14, .aload_n 0, 1, 0, 0), (15, .aload_n 1, 1, 0, 0), (16, .getfield 169, 3, 4, 2), (19, .aload_n 2, 1, 0, 0), (20, .getfield 169, 3, 4, 2), (23, .invokevirtual 172, 3, 67, 0), (26, .ifCond .eq 12, 3, 0, 0), (29, .aload_n 1, 1, 0, 0), (30, .aload_n 0, 1, 0, 0), (31, .getfield 48, 3, 5, 8), (34, .invokevirtual 112, 3, 52, 0), (37, .return_, 1, 0, 0), (38, .aload_n 0, 1, 0, 0), (39, .aload_n 1, 1, 0, 0), (40, .invokevirtual 87, 3, 69, 0), (43, .aload_n 0, 1, 0, 0), (44, .aload_n 2, 1, 0, 0), (45, .invokevirtual 87, 3, 69, 0), (48, .aload_n 0, 1, 0, 0), (49, .aload_n 1, 1, 0, 0), (50, .getfield 176, 3, 4, 4), (53, .aload_n 2, 1, 0, 0), (54, .getfield 179, 3, 4, 3), (57, .invokevirtual 182, 3, 76, 0), (60, .aload_n 1, 1, 0, 0), (61, .getfield 162, 3, 4, 0), (64, .ifCond .eq 12, 3, 0, 0), (67, .aload_n 0, 1, 0, 0), (68, .aload_n 1, 1, 0, 0), (69, .aload_n 2, 1, 0, 0), (70, .getfield 179, 3, 4, 3), (73, .invokevirtual 186, 3, 73, 0), (76, .aload_n 2, 1, 0, 0), (77, .getfield 162, 3, 4, 0), (80, .ifCond .eq 15, 3, 0, 0), (83, .aload_n 0, 1, 0, 0), (84, .aload_n 1, 1, 0, 0), (85, .aload_n 2, 1, 0, 0), (86, .getfield 169, 3, 4, 2), (89, .invokevirtual 190, 3, 74, 0), (92, .goto 14, 3, 0, 0), (95, .aload_n 1, 1, 0, 0), (96, .getfield 176, 3, 4, 4), (99, .aload_n 2, 1, 0, 0), (100, .getfield 176, 3, 4, 4), (103, .invokevirtual 194, 3, 93, 0), (106, .aload_n 0, 1, 0, 0), (107, .aload_n 1, 1, 0, 0), (108, .getfield 90, 3, 4, 5), (111, .aload_n 2, 1, 0, 0), (112, .getfield 90, 3, 4, 5), (115, .invokevirtual 197, 3, 79, 0), (118, .aload_n 0, 1, 0, 0), (119, .aload_n 1, 1, 0, 0), (120, .getfield 90, 3, 4, 5), (123, .aload_n 0, 1, 0, 0), (124, .getfield 26, 3, 5, 3), (127, .invokevirtual 197, 3, 79, 0), (130, .aload_n 1, 1, 0, 0), (131, .iconst 0, 1, 0, 0), (132, .putfield 162, 3, 4, 0), (135, .return_, 1, 0, 0)]
def E_m65 : E_MI := (5, ⟨E_R5, "join", "(LGramFinder$Part;LGramFinder$Part;)V"⟩, prog_7_method_12_code, 3, (Option.none : Option FieldType), false, 2, E_c65)
def E_c66 : List E_C := [(0, .aload_n 1, 1, 0, 0), (1, .getfield 162, 3, 4, 0), (4, .ifCond .eq 34, 3, 0, 0), (7, .aload_n 2, 1, 0, 0), (8, .getfield 162, 3, 4, 0), (11, .ifCond .eq 27, 3, 0, 0), (14, .aload_n 0, 1, 0, 0), (15, .aload_n 1, 1, 0, 0), (16, .getfield 169, 3, 4, 2), (19, .aload_n 2, 1, 0, 0), (20, .getfield 169, 3, 4, 2), (23, .invokevirtual 201, 3, 68, 0), (26, .ifCond .eq 12, 3, 0, 0), (29, .aload_n 1, 1, 0, 0), (30, .aload_n 0, 1, 0, 0), (31, .getfield 48, 3, 5, 8), (34, .invokevirtual 112, 3, 52, 0), (37, .return_, 1, 0, 0), (38, .aload_n 0, 1, 0, 0), (39, .aload_n 1, 1, 0, 0), (40, .invokevirtual 87, 3, 69, 0), (43, .aload_n 0, 1, 0, 0), (44, .aload_n 2, 1, 0, 0), (45, .invokevirtual 87, 3, 69, 0), (48, .aload_n 0, 1, 0, 0), (49, .getfield 39, 3, 5, 6), (52, .aload_n 1, 1, 0, 0), (53, .getfield 179, 3, 4, 3), (56, .aload_n 2, 1, 0, 0), (57, .getfield 179, 3, 4, 3), (60, .invokevirtual 204, 3, 94, 0), (63, .aload_n 0, 1, 0, 0), (64, .aload_n 1, 1, 0, 0), (65, .getfield 179, 3, 4, 3), (68, .iconst 0, 1, 0, 0), (69, .invokevirtual 207, 3, 75, 0), (72, .aload_n 0, 1, 0, 0), (73, .getfield 39, 3, 5, 6), (76, .aload_n 1, 1, 0, 0), (77, .getfield 176, 3, 4, 4), (80, .aload_n 2, 1, 0, 0), (81, .getfield 176, 3, 4, 4), (84, .invokevirtual 204, 3, 94, 0), (87, .aload_n 0, 1, 0, 0), (88, .aload_n 1, 1, 0, 0), (89, .getfield 176, 3, 4, 4), (92, .iconst 1, 1, 0, 0), (93, .invokevirtual 207, 3, 75, 0), (96, .aload_n 0, 1, 0, 0), (97, .getfield 22, 3, 5, 2), (100, .invokevirtual 211, 3, 4, 0), (103, .aload_n 0, 1, 0, 0), (104, .getfield 22, 3, 5, 2), (107, .aload_n 1, 1, 0, 0), (108, .getfield 90, 3, 4, 5), (111, .invokevirtual 212, 3, 7, 0), (114, .aload_n 0, 1, 0, 0), (115, .getfield 22, 3, 5, 2), (118, .aload_n 2, 1, 0, 0), (119, .getfield 90, 3, 4, 5), (122, .invokevirtual 212, 3, 7, 0), (125, .aload_n 0, 1, 0, 0), (126, .aload_n 1, 1, 0, 0), (127, .getfield 90, 3, 4, 5), (130, .invokevirtual 216, 3, 78, 0), (133, .aload_n 1, 1, 0, 0), (134, .iconst 0, 1, 0, 0), (135, .putfield 162, 3, 4, 0), (138, .return_, 1, 0, 0)]
def E_m66 : E_MI := (5, ⟨E_R5, "alternate", "(LGramFinder$Part;LGramFinder$Part;)V"⟩, prog_7_method_13_code, 3, (Option.none : Option FieldType), false, 2, E_c66)
def E_c67 : List E_C := [(0, .aload_n 0, 1, 0, 0), (1, .getfield 48, 3, 5, 8), (4, .invokevirtual 105, 3, 109, 0), (7, .iconst 0, 1, 0, 0), (8, .istore_n 3, 1, 0, 0), (9, .iload_n 3, 1, 0, 0), (10, .aload_n 1, 1, 0, 0), (11, .getfield 219, 3, 9, 2), (14, .if_icmp .ge 89, 3, 0, 0), (17, .iconst 0, 1, 0, 0), (18, .istore 4, 2, 0, 0), (20, .iload 4, 2, 0, 0), (22, .aload_n 2, 1, 0, 0), (23, .getfield 219, 3, 9, 2), (26, .if_icmp .ge 71, 3, 0, 0), (29, .aload_n 1, 1, 0, 0), (30, .iload_n 3, 1, 0, 0), (31, .invokevirtual 223, 3, 110, 0), (34, .aload_n 2, 1, 0, 0), (35, .iload 4, 2, 0, 0), (37, .invokevirtual 223, 3, 110, 0), (40, .iadd, 1, 0, 0), (41, .istore 5, 2, 0, 0), (43, .iload 5, 2, 0, 0), (45, .bipush 60, 2, 0, 0), (47, .if_icmp .le 5, 3, 0, 0), (50, .iconst 0, 1, 0, 0), (51, .ireturn, 1, 0, 0), (52, .aload_n 2, 1, 0, 0), (53, .iload 4, 2, 0, 0), (55, .aload_n 0, 1, 0, 0), (56, .getfield 52, 3, 5, 9), (59, .aload_n 1, 1, 0, 0), (60, .iload_n 3, 1, 0, 0), (61, .aload_n 0, 1, 0, 0), (62, .getfield 52, 3, 5, 9), (65, .iconst 0, 1, 0, 0), (66, .invokevirtual 226, 3, 113, 0), (69, .invokevirtual 226, 3, 113, 0), (72, .pop, 1, 0, 0), (73, .aload_n 0, 1, 0, 0), (74, .getfield 48, 3, 5, 8), (77, .aload_n 0, 1, 0, 0), (78, .getfield 52, 3, 5, 9), (81, .iload 5, 2, 0, 0), (83, .invokevirtual 108, 3, 112, 0), (86, .ifCond .ne 5, 3, 0, 0), (89, .iconst 0, 1, 0, 0), (90, .ireturn, 1, 0, 0), (91, .iinc 4 1, 3, 0, 0), (94, .goto (-74), 3, 0, 0), (97, .iinc 3 1, 3, 0, 0), (100, .goto (-91), 3, 0, 0), (103, .iconst 1, 1, 0, 0), (104, .ireturn, 1, 0, 0)]
def E_m67 : E_MI := (5, ⟨E_R5, "multiply", "(LGramFinder$Texts;LGramFinder$Texts;)Z"⟩, prog_7_method_14_code, 6, (Option.some FieldType.boolean), false, 2, E_c67)
def E_c68 : List E_C := [(0, .aload_n 0, 1, 0, 0), (1, .getfield 48, 3, 5, 8), (4, .aload_n 1, 1, 0, 0), (5, .invokevirtual 230, 3, 114, 0), (8, .iconst 0, 1, 0, 0), (9, .istore_n 3, 1, 0, 0), (10, .iload_n 3, 1, 0, 0), (11, .aload_n 2, 1, 0, 0), (12, .getfield 219, 3, 9, 2), (15, .if_icmp .ge 35, 3, 0, 0), (18, .aload_n 0, 1, 0, 0), (19, .getfield 48, 3, 5, 8), (22, .aload_n 0, 1, 0, 0), (23, .getfield 52, 3, 5, 9), (26, .aload_n 2, 1, 0, 0), (27, .iload_n 3, 1, 0, 0), (28, .aload_n 0, 1, 0, 0), (29, .getfield 52, 3, 5, 9), (32, .iconst 0, 1, 0, 0), (33, .invokevirtual 226, 3, 113, 0), (36, .invokevirtual 108, 3, 112, 0), (39, .ifCond .ne 5, 3, 0, 0), (42, .iconst 0, 1, 0, 0), (43, .ireturn, 1, 0, 0), (44, .iinc 3 1, 3, 0, 0), (47, .goto (-37), 3, 0, 0), (50, .iconst 1, 1, 0, 0), (51, .ireturn, 1, 0, 0)]
def E_m68 : E_MI := (5, ⟨E_R5, "unite", "(LGramFinder$Texts;LGramFinder$Texts;)Z"⟩, prog_7_method_15_code, 4, (Option.some FieldType.boolean), false, 2, E_c68)
def E_c69 : List E_C := [(0, .aload_n 1, 1, 0, 0), (1, .getfield 232, 3, 4, 1), (4, .ifCond .eq 4, 3, 0, 0), (7, .return_, 1, 0, 0), (8, .aload_n 1, 1, 0, 0), (9, .getfield 169, 3, 4, 2), (12, .astore_n 2, 1, 0, 0), (13, .aload_n 0, 1, 0, 0), (14, .getfield 39, 3, 5, 6), (17, .invokevirtual 116, 3, 89, 0), (20, .iconst 0, 1, 0, 0), (21, .istore_n 3, 1, 0, 0), (22, .iload_n 3, 1, 0, 0), (23, .aload_n 2, 1, 0, 0), (24, .getfield 219, 3, 9, 2), (27, .if_icmp .ge 31, 3, 0, 0), (30, .aload_n 0, 1, 0, 0), (31, .getfield 39, 3, 5, 6), (34, .aload_n 2, 1, 0, 0), (35, .iload_n 3, 1, 0, 0), (36, .iconst 0, 1, 0, 0), (37, .invokevirtual 235, 3, 111, 0), (40, .aload_n 2, 1, 0, 0), (41, .iload_n 3, 1, 0, 0), (42, .iconst 1, 1, 0, 0), (43, .invokevirtual 235, 3, 111, 0), (46, .invokestatic 238, 3, 171, 1), (49, .invokevirtual 241, 3, 91, 0), (52, .iinc 3 1, 3, 0, 0), (55, .goto (-33), 3, 0, 0), (58, .aload_n 0, 1, 0, 0), (59, .aload_n 1, 1, 0, 0), (60, .getfield 179, 3, 4, 3), (63, .iconst 0, 1, 0, 0), (64, .invokevirtual 207, 3, 75, 0), (67, .aload_n 0, 1, 0, 0), (68, .getfield 39, 3, 5, 6), (71, .invokevirtual 116, 3, 89, 0), (74, .iconst 0, 1, 0, 0), (75, .istore_n 3, 1, 0, 0), (76, .iload_n 3, 1, 0, 0), (77, .aload_n 2, 1, 0, 0), (78, .getfield 219, 3, 9, 2), (81, .if_icmp .ge 22, 3, 0, 0), (84, .aload_n 0, 1, 0, 0), (85, .getfield 39, 3, 5, 6), (88, .aload_n 2, 1, 0, 0), (89, .iload_n 3, 1, 0, 0), (90, .iconst 0, 1, 0, 0), (91, .invokestatic 244, 3, 71, 0), (94, .invokevirtual 241, 3, 91, 0), (97, .iinc 3 1, 3, 0, 0), (100, .goto (-24), 3, 0, 0), (103, .aload_n 0, 1, 0, 0), (104, .aload_n 1, 1, 0, 0), (105, .getfield 176, 3, 4, 4), (108, .iconst 1, 1, 0, 0), (109, .invokevirtual 207, 3, 75, 0), (112, .aload_n 0, 1, 0, 0), (113, .getfield 22, 3, 5, 2), (116, .invokevirtual 211, 3, 4, 0), (119, .iconst 0, 1, 0, 0), (120, .istore_n 3, 1, 0, 0), (121, .iload_n 3, 1, 0, 0), (122, .aload_n 2, 1, 0, 0), (123, .getfield 219, 3, 9, 2), (126, .if_icmp .ge 15, 3, 0, 0), (129, .aload_n 0, 1, 0, 0), (130, .aload_n 2, 1, 0, 0), (131, .iload_n 3, 1, 0, 0), (132, .invokevirtual 248, 3, 70, 0), (135, .iinc 3 1, 3, 0, 0), (138, .goto (-17), 3, 0, 0), (141, .aload_n 1, 1, 0, 0), (142, .getfield 90, 3, 4, 5), (145, .aload_n 0, 1, 0, 0), (146, .getfield 22, 3, 5, 2), (149, .invokevirtual 252, 3, 8, 0), (152, .aload_n 1, 1, 0, 0), (153, .iconst 1, 1, 0, 0), (154, .putfield 232, 3, 4, 1), (157, .return_, 1, 0, 0)]
def E_m69 : E_MI := (5, ⟨E_R5, "unfold", "(LGramFinder$Part;)V"⟩, prog_7_method_16_code, 4, (Option.none : Option FieldType), false, 1, E_c69)
def E_c70 : List E_C := [(0, .aload_n 0, 1, 0, 0), (1, .getfield 32, 3, 5, 4), (4, .invokevirtual 116, 3, 89, 0), (7, .iconst 0, 1, 0, 0), (8, .istore_n 3, 1, 0, 0), (9, .iload_n 3, 1, 0, 0), (10, .iconst 2, 1, 0, 0), (11, .iadd, 1, 0, 0), (12, .aload_n 1, 1, 0, 0), (13, .iload_n 2, 1, 0, 0), (14, .invokevirtual 223, 3, 110, 0), (17, .if_icmp .ge 41, 3, 0, 0), (20, .aload_n 0, 1, 0, 0), (21, .getfield 32, 3, 5, 4), (24, .aload_n 1, 1, 0, 0), (25, .iload_n 2, 1, 0, 0), (26, .iload_n 3, 1, 0, 0), (27, .invokevirtual 235, 3, 111, 0), (30, .aload_n 1, 1, 0, 0), (31, .iload_n 2, 1, 0, 0), (32, .iload_n 3, 1, 0, 0), (33, .iconst 1, 1, 0, 0), (34, .iadd, 1, 0, 0), (35, .invokevirtual 235, 3, 111, 0), (38, .aload_n 1, 1, 0, 0), (39, .iload_n 2, 1, 0, 0), (40, .iload_n 3, 1, 0, 0), (41, .iconst 2, 1, 0, 0), (42, .iadd, 1, 0, 0), (43, .invokevirtual 235, 3, 111, 0), (46, .invokestatic 254, 3, 170, 1), (49, .invokevirtual 241, 3, 91, 0), (52, .iinc 3 1, 3, 0, 0), (55, .goto (-46), 3, 0, 0), (58, .aload_n 0, 1, 0, 0), (59, .getfield 22, 3, 5, 2), (62, .aload_n 0, 1, 0, 0), (63, .getfield 32, 3, 5, 4), (66, .invokevirtual 258, 3, 6, 0), (69, .return_, 1, 0, 0)]
def E_m70 : E_MI := (5, ⟨E_R5, "offerGrams", "(LGramFinder$Texts;I)V"⟩, prog_7_method_17_code, 4, (Option.none : Option FieldType), false, 2, E_c70)
def E_c71 : List E_C := [(0, .aload_n 0, 1, 0, 0), (1, .iload_n 1, 1, 0, 0), (2, .invokevirtual 223, 3, 110, 0), (5, .istore_n 3, 1, 0, 0), (6, .iload_n 3, 1, 0, 0), (7, .ifCond .ne 5, 3, 0, 0), (10, .iload_n 2, 1, 0, 0), (11, .ireturn, 1, 0, 0), (12, .aload_n 0, 1, 0, 0), (13, .iload_n 1, 1, 0, 0), (14, .iload_n 3, 1, 0, 0), (15, .iconst 1, 1, 0, 0), (16, .isub, 1, 0, 0), (17, .invokevirtual 235, 3, 111, 0), (20, .istore 4, 2, 0, 0), (22, .iload_n 3, 1, 0, 0), (23, .iconst 1, 1, 0, 0), (24, .if_icmp .ne 10, 3, 0, 0), (27, .iload_n 2, 1, 0, 0), (28, .invokestatic 261, 3, 173, 1), (31, .goto 11, 3, 0, 0), (34, .aload_n 0, 1, 0, 0), (35, .iload_n 1, 1, 0, 0), (36, .iload_n 3, 1, 0, 0), (37, .iconst 2, 1, 0, 0), (38, .isub, 1, 0, 0), (39, .invokevirtual 235, 3, 111, 0), (42, .istore 5, 2, 0, 0), (44, .iload 5, 2, 0, 0), (46, .iconst (-1), 1, 0, 0), (47, .if_icmp .ne 12, 3, 0, 0), (50, .iload 4, 2, 0, 0), (52, .iconst (-1), 1, 0, 0), (53, .invokestatic 238, 3, 171, 1), (56, .goto 10, 3, 0, 0), (59, .iload 5, 2, 0, 0), (61, .iload 4, 2, 0, 0), (63, .invokestatic 238, 3, 171, 1), (66, .ireturn, 1, 0, 0)]
def E_m71 : E_MI := (5, ⟨E_R5, "tailKey", "(LGramFinder$Texts;II)I"⟩, prog_7_method_18_code, 6, (Option.some FieldType.int), true, 3, E_c71)
def E_c72 : List E_C := [(0, .aload_n 0, 1, 0, 0), (1, .iload_n 1, 1, 0, 0), (2, .invokevirtual 223, 3, 110, 0), (5, .istore_n 3, 1, 0, 0), (6, .iload_n 3, 1, 0, 0), (7, .ifCond .ne 5, 3, 0, 0), (10, .iload_n 2, 1, 0, 0), (11, .ireturn, 1, 0, 0), (12, .aload_n 0, 1, 0, 0), (13, .iload_n 1, 1, 0, 0), (14, .iconst 0, 1, 0, 0), (15, .invokevirtual 235, 3, 111, 0), (18, .iload_n 3, 1, 0, 0), (19, .iconst 1, 1, 0, 0), (20, .if_icmp .ne 11, 3, 0, 0), (23, .iload_n 2, 1, 0, 0), (24, .iconst 0, 1, 0, 0), (25, .invokestatic 264, 3, 172, 1), (28, .goto 9, 3, 0, 0), (31, .aload_n 0, 1, 0, 0), (32, .iload_n 1, 1, 0, 0), (33, .iconst 1, 1, 0, 0), (34, .invokevirtual 235, 3, 111, 0), (37, .invokestatic 238, 3, 171, 1), (40, .ireturn, 1, 0, 0)]
def E_m72 : E_MI := (5, ⟨E_R5, "headKey", "(LGramFinder$Texts;II)I"⟩, prog_7_method_19_code, 4, (Option.some FieldType.int), true, 3, E_c72)
def E_c73 : List E_C := [(0, .aload_n 0, 1, 0, 0), (1, .getfield 39, 3, 5, 6), (4, .invokevirtual 116, 3, 89, 0), (7, .iconst 0, 1, 0, 0), (8, .istore_n 3, 1, 0, 0), (9, .iload_n 3, 1, 0, 0), (10, .aload_n 1, 1, 0, 0), (11, .getfield 169, 3, 4, 2), (14, .getfield 219, 3, 9, 2), (17, .if_icmp .ge 48, 3, 0, 0), (20, .iconst 0, 1, 0, 0), (21, .istore 4, 2, 0, 0), (23, .iload 4, 2, 0, 0), (25, .aload_n 2, 1, 0, 0), (26, .getfield 267, 3, 7, 1), (29, .if_icmp .ge 30, 3, 0, 0), (32, .aload_n 0, 1, 0, 0), (33, .getfield 39, 3, 5, 6), (36, .aload_n 1, 1, 0, 0), (37, .getfield 169, 3, 4, 2), (40, .iload_n 3, 1, 0, 0), (41, .aload_n 2, 1, 0, 0), (42, .iload 4, 2, 0, 0), (44, .invokevirtual 268, 3, 88, 0), (47, .invokestatic 271, 3, 72, 0), (50, .invokevirtual 241, 3, 91, 0), (53, .iinc 4 1, 3, 0, 0), (56, .goto (-33), 3, 0, 0), (59, .iinc 3 1, 3, 0, 0), (62, .goto (-53), 3, 0, 0), (65, .aload_n 0, 1, 0, 0), (66, .aload_n 1, 1, 0, 0), (67, .getfield 179, 3, 4, 3), (70, .iconst 0, 1, 0, 0), (71, .invokevirtual 207, 3, 75, 0), (74, .return_, 1, 0, 0)]
def E_m73 : E_MI := (5, ⟨E_R5, "joinHeads", "(LGramFinder$Part;LGramFinder$Row;)V"⟩, prog_7_method_20_code, 5, (Option.none : Option FieldType), false, 2, E_c73)
def E_c74 : List E_C := [(0, .aload_n 0, 1, 0, 0), (1, .getfield 39, 3, 5, 6), (4, .invokevirtual 116, 3, 89, 0), (7, .iconst 0, 1, 0, 0), (8, .istore_n 3, 1, 0, 0), (9, .iload_n 3, 1, 0, 0), (10, .aload_n 2, 1, 0, 0), (11, .getfield 219, 3, 9, 2), (14, .if_icmp .ge 51, 3, 0, 0), (17, .iconst 0, 1, 0, 0), (18, .istore 4, 2, 0, 0), (20, .iload 4, 2, 0, 0), (22, .aload_n 1, 1, 0, 0), (23, .getfield 176, 3, 4, 4), (26, .getfield 267, 3, 7, 1), (29, .if_icmp .ge 30, 3, 0, 0), (32, .aload_n 0, 1, 0, 0), (33, .getfield 39, 3, 5, 6), (36, .aload_n 2, 1, 0, 0), (37, .iload_n 3, 1, 0, 0), (38, .aload_n 1, 1, 0, 0), (39, .getfield 176, 3, 4, 4), (42, .iload 4, 2, 0, 0), (44, .invokevirtual 268, 3, 88, 0), (47, .invokestatic 244, 3, 71, 0), (50, .invokevirtual 241, 3, 91, 0), (53, .iinc 4 1, 3, 0, 0), (56, .goto (-36), 3, 0, 0), (59, .iinc 3 1, 3, 0, 0), (62, .goto (-53), 3, 0, 0), (65, .aload_n 0, 1, 0, 0), (66, .aload_n 1, 1, 0, 0), (67, .getfield 176, 3, 4, 4), (70, .iconst 1, 1, 0, 0), (71, .invokevirtual 207, 3, 75, 0), (74, .return_, 1, 0, 0)]
def E_m74 : E_MI := (5, ⟨E_R5, "joinTails", "(LGramFinder$Part;LGramFinder$Texts;)V"⟩, prog_7_method_21_code, 5, (Option.none : Option FieldType), false, 2, E_c74)
def E_c75 : List E_C := [(0, .aload_n 1, 1, 0, 0), (1, .invokevirtual 116, 3, 89, 0), (4, .aload_n 0, 1, 0, 0), (5, .getfield 42, 3, 5, 7), (8, .invokevirtual 116, 3, 89, 0), (11, .iconst 0, 1, 0, 0), (12, .istore_n 3, 1, 0, 0), (13, .iload_n 3, 1, 0, 0), (14, .aload_n 0, 1, 0, 0), (15, .getfield 39, 3, 5, 6), (18, .getfield 267, 3, 7, 1), (21, .if_icmp .ge 120, 3, 0, 0), (24, .aload_n 0, 1, 0, 0), (25, .getfield 39, 3, 5, 6), (28, .iload_n 3, 1, 0, 0), (29, .invokevirtual 268, 3, 88, 0), (32, .istore 4, 2, 0, 0), (34, .iload 4, 2, 0, 0), (36, .sipush 257, 3, 0, 0), (39, .irem, 1, 0, 0), (40, .ifCond .ne 8, 3, 0, 0), (43, .iload 4, 2, 0, 0), (45, .goto 26, 3, 0, 0), (48, .iload_n 2, 1, 0, 0), (49, .ifCond .eq 12, 3, 0, 0), (52, .iload 4, 2, 0, 0), (54, .iconst 1, 1, 0, 0), (55, .invokestatic 264, 3, 172, 1), (58, .goto 9, 3, 0, 0), (61, .iload 4, 2, 0, 0), (63, .iconst 0, 1, 0, 0), (64, .invokestatic 264, 3, 172, 1), (67, .iconst (-1), 1, 0, 0), (68, .invokestatic 238, 3, 171, 1), (71, .istore 5, 2, 0, 0), (73, .iload 4, 2, 0, 0), (75, .ifCond .eq 14, 3, 0, 0), (78, .aload_n 0, 1, 0, 0), (79, .getfield 39, 3, 5, 6), (82, .iconst 0, 1, 0, 0), (83, .invokevirtual 274, 3, 92, 0), (86, .ifCond .ne 22, 3, 0, 0), (89, .iload 4, 2, 0, 0), (91, .iload 5, 2, 0, 0), (93, .if_icmp .eq 19, 3, 0, 0), (96, .aload_n 0, 1, 0, 0), (97, .getfield 39, 3, 5, 6), (100, .iload 5, 2, 0, 0), (102, .invokevirtual 274, 3, 92, 0), (105, .ifCond .eq 7, 3, 0, 0), (108, .iconst 1, 1, 0, 0), (109, .goto 4, 3, 0, 0), (112, .iconst 0, 1, 0, 0), (113, .istore 6, 2, 0, 0), (115, .iload 6, 2, 0, 0), (117, .ifCond .ne 18, 3, 0, 0), (120, .aload_n 1, 1, 0, 0), (121, .iload 4, 2, 0, 0), (123, .invokevirtual 278, 3, 90, 0), (126, .aload_n 0, 1, 0, 0), (127, .getfield 42, 3, 5, 7), (130, .iload 5, 2, 0, 0), (132, .invokevirtual 241, 3, 91, 0), (135, .iinc 3 1, 3, 0, 0), (138, .goto (-125), 3, 0, 0), (141, .aload_n 1, 1, 0, 0), (142, .getfield 267, 3, 7, 1), (145, .bipush 12, 2, 0, 0), (147, .if_icmp .le 11, 3, 0, 0), (150, .aload_n 1, 1, 0, 0), (151, .aload_n 0, 1, 0, 0), (152, .getfield 42, 3, 5, 7), (155, .invokevirtual 194, 3, 93, 0), (158, .aload_n 1, 1, 0, 0), (159, .getfield 267, 3, 7, 1), (162, .bipush 12, 2, 0, 0), (164, .if_icmp .le 12, 3, 0, 0), (167, .aload_n 1, 1, 0, 0), (168, .invokevirtual 116, 3, 89, 0), (171, .aload_n 1, 1, 0, 0), (172, .iconst 0, 1, 0, 0), (173, .invokevirtual 278, 3, 90, 0), (176, .return_, 1, 0, 0)]
def E_m75 : E_MI := (5, ⟨E_R5, "shorten", "(LGramFinder$Row;Z)V"⟩, prog_7_method_22_code, 7, (Option.none : Option FieldType), false, 2, E_c75)
def E_c76 : List E_C := [(0, .aload_n 0, 1, 0, 0), (1, .getfield 22, 3, 5, 2), (4, .invokevirtual 211, 3, 4, 0), (7, .iconst 0, 1, 0, 0), (8, .istore_n 3, 1, 0, 0), (9, .iload_n 3, 1, 0, 0), (10, .aload_n 1, 1, 0, 0), (11, .getfield 267, 3, 7, 1), (14, .if_icmp .ge 42, 3, 0, 0), (17, .iconst 0, 1, 0, 0), (18, .istore 4, 2, 0, 0), (20, .iload 4, 2, 0, 0), (22, .aload_n 2, 1, 0, 0), (23, .getfield 267, 3, 7, 1), (26, .if_icmp .ge 24, 3, 0, 0), (29, .aload_n 0, 1, 0, 0), (30, .aload_n 1, 1, 0, 0), (31, .iload_n 3, 1, 0, 0), (32, .invokevirtual 268, 3, 88, 0), (35, .aload_n 2, 1, 0, 0), (36, .iload 4, 2, 0, 0), (38, .invokevirtual 268, 3, 88, 0), (41, .invokevirtual 281, 3, 77, 0), (44, .iinc 4 1, 3, 0, 0), (47, .goto (-27), 3, 0, 0), (50, .iinc 3 1, 3, 0, 0), (53, .goto (-44), 3, 0, 0), (56, .aload_n 0, 1, 0, 0), (57, .aload_n 0, 1, 0, 0), (58, .getfield 26, 3, 5, 3), (61, .invokevirtual 216, 3, 78, 0), (64, .return_, 1, 0, 0)]
def E_m76 : E_MI := (5, ⟨E_R5, "cross", "(LGramFinder$Row;LGramFinder$Row;)V"⟩, prog_7_method_23_code, 5, (Option.none : Option FieldType), false, 2, E_c76)
def E_c77 : List E_C := [(0, .iload_n 1, 1, 0, 0), (1, .invokestatic 261, 3, 173, 1), (4, .istore_n 3, 1, 0, 0), (5, .iload_n 2, 1, 0, 0), (6, .iconst 0, 1, 0, 0), (7, .invokestatic 264, 3, 172, 1), (10, .istore 4, 2, 0, 0), (12, .aload_n 0, 1, 0, 0), (13, .getfield 32, 3, 5, 4), (16, .invokevirtual 116, 3, 89, 0), (19, .iload_n 1, 1, 0, 0), (20, .sipush 257, 3, 0, 0), (23, .irem, 1, 0, 0), (24, .ifCond .eq 27, 3, 0, 0), (27, .iload 4, 2, 0, 0), (29, .iconst (-1), 1, 0, 0), (30, .if_icmp .eq 21, 3, 0, 0), (33, .aload_n 0, 1, 0, 0), (34, .getfield 32, 3, 5, 4), (37, .iload_n 1, 1, 0, 0), (38, .iconst 0, 1, 0, 0), (39, .invokestatic 264, 3, 172, 1), (42, .iload_n 3, 1, 0, 0), (43, .iload 4, 2, 0, 0), (45, .invokestatic 254, 3, 170, 1), (48, .invokevirtual 241, 3, 91, 0), (51, .iload_n 3, 1, 0, 0), (52, .iconst (-1), 1, 0, 0), (53, .if_icmp .eq 29, 3, 0, 0), (56, .iload_n 2, 1, 0, 0), (57, .sipush 257, 3, 0, 0), (60, .irem, 1, 0, 0), (61, .ifCond .eq 21, 3, 0, 0), (64, .aload_n 0, 1, 0, 0), (65, .getfield 32, 3, 5, 4), (68, .iload_n 3, 1, 0, 0), (69, .iload 4, 2, 0, 0), (71, .iload_n 2, 1, 0, 0), (72, .iconst 1, 1, 0, 0), (73, .invokestatic 264, 3, 172, 1), (76, .invokestatic 254, 3, 170, 1), (79, .invokevirtual 241, 3, 91, 0), (82, .aload_n 0, 1, 0, 0), (83, .getfield 22, 3, 5, 2), (86, .aload_n 0, 1, 0, 0), (87, .getfield 32, 3, 5, 4), (90, .invokevirtual 258, 3, 6, 0), (93, .return_, 1, 0, 0)]
def E_m77 : E_MI := (5, ⟨E_R5, "offerCrossing", "(II)V"⟩, prog_7_method_24_code, 5, (Option.none : Option FieldType), false, 2, E_c77)
def E_c78 : List E_C := [(0, .aload_n 0, 1, 0, 0), (1, .getfield 22, 3, 5, 2), (4, .getfield 284, 3, 1, 2), (7, .bipush 24, 2, 0, 0), (9, .if_icmp .le 32, 3, 0, 0), (12, .aload_n 0, 1, 0, 0), (13, .getfield 22, 3, 5, 2), (16, .aload_n 0, 1, 0, 0), (17, .getfield 36, 3, 5, 5), (20, .invokevirtual 285, 3, 11, 0), (23, .aload_n 0, 1, 0, 0), (24, .getfield 22, 3, 5, 2), (27, .invokevirtual 211, 3, 4, 0), (30, .aload_n 0, 1, 0, 0), (31, .getfield 22, 3, 5, 2), (34, .aload_n 0, 1, 0, 0), (35, .getfield 36, 3, 5, 5), (38, .invokevirtual 258, 3, 6, 0), (41, .aload_n 1, 1, 0, 0), (42, .aload_n 0, 1, 0, 0), (43, .getfield 22, 3, 5, 2), (46, .invokevirtual 252, 3, 8, 0), (49, .return_, 1, 0, 0)]
def E_m78 : E_MI := (5, ⟨E_R5, "leastInto", "(LGramFinder$Family;)V"⟩, prog_7_method_25_code, 2, (Option.none : Option FieldType), false, 1, E_c78)
def E_c79 : List E_C := [(0, .aload_n 2, 1, 0, 0), (1, .invokevirtual 288, 3, 9, 0), (4, .ifCond .eq 4, 3, 0, 0), (7, .return_, 1, 0, 0), (8, .aload_n 0, 1, 0, 0), (9, .getfield 22, 3, 5, 2), (12, .invokevirtual 211, 3, 4, 0), (15, .iconst 0, 1, 0, 0), (16, .istore_n 3, 1, 0, 0), (17, .iload_n 3, 1, 0, 0), (18, .aload_n 1, 1, 0, 0), (19, .getfield 284, 3, 1, 2), (22, .if_icmp .ge 56, 3, 0, 0), (25, .iconst 0, 1, 0, 0), (26, .istore 4, 2, 0, 0), (28, .iload 4, 2, 0, 0), (30, .aload_n 2, 1, 0, 0), (31, .getfield 284, 3, 1, 2), (34, .if_icmp .ge 38, 3, 0, 0), (37, .aload_n 0, 1, 0, 0), (38, .getfield 32, 3, 5, 4), (41, .aload_n 1, 1, 0, 0), (42, .iload_n 3, 1, 0, 0), (43, .invokevirtual 292, 3, 5, 0), (46, .aload_n 2, 1, 0, 0), (47, .iload 4, 2, 0, 0), (49, .invokevirtual 292, 3, 5, 0), (52, .invokevirtual 204, 3, 94, 0), (55, .aload_n 0, 1, 0, 0), (56, .getfield 22, 3, 5, 2), (59, .aload_n 0, 1, 0, 0), (60, .getfield 32, 3, 5, 4), (63, .invokevirtual 258, 3, 6, 0), (66, .iinc 4 1, 3, 0, 0), (69, .goto (-41), 3, 0, 0), (72, .iinc 3 1, 3, 0, 0), (75, .goto (-58), 3, 0, 0), (78, .aload_n 0, 1, 0, 0), (79, .getfield 22, 3, 5, 2), (82, .getfield 284, 3, 1, 2), (85, .bipush 24, 2, 0, 0), (87, .if_icmp .le 9, 3, 0, 0), (90, .aload_n 0, 1, 0, 0), (91, .aload_n 1, 1, 0, 0), (92, .aload_n 2, 1, 0, 0), (93, .invokevirtual 296, 3, 80, 0), (96, .aload_n 1, 1, 0, 0), (97, .aload_n 0, 1, 0, 0), (98, .getfield 22, 3, 5, 2), (101, .invokevirtual 252, 3, 8, 0), (104, .return_, 1, 0, 0)]
def E_m79 : E_MI := (5, ⟨E_R5, "both", "(LGramFinder$Family;LGramFinder$Family;)V"⟩, prog_7_method_26_code, 5, (Option.none : Option FieldType), false, 2, E_c79)
def E_c80 : List E_C := [(0, .aload_n 1, 1, 0, 0), (1, .getfield 284, 3, 1, 2), (4, .aload_n 2, 1, 0, 0), (5, .getfield 284, 3, 1, 2), (8, .if_icmp .gt 7, 3, 0, 0), (11, .iconst 1, 1, 0, 0), (12, .goto 4, 3, 0, 0), (15, .iconst 0, 1, 0, 0), (16, .istore_n 3, 1, 0, 0), (17, .iload_n 3, 1, 0, 0), (18, .ifCond .eq 7, 3, 0, 0), (21, .aload_n 1, 1, 0, 0), (22, .goto 4, 3, 0, 0), (25, .aload_n 2, 1, 0, 0), (26, .astore 4, 2, 0, 0), (28, .iload_n 3, 1, 0, 0), (29, .ifCond .eq 7, 3, 0, 0), (32, .aload_n 2, 1, 0, 0), (33, .goto 4, 3, 0, 0), (36, .aload_n 1, 1, 0, 0), (37, .astore 5, 2, 0, 0), (39, .aload 5, 2, 0, 0), (41, .aload_n 0, 1, 0, 0), (42, .getfield 36, 3, 5, 5), (45, .invokevirtual 285, 3, 11, 0), (48, .aload_n 0, 1, 0, 0), (49, .getfield 22, 3, 5, 2), (52, .invokevirtual 211, 3, 4, 0), (55, .iconst 0, 1, 0, 0), (56, .istore 6, 2, 0, 0), (58, .iload 6, 2, 0, 0), (60, .aload 4, 2, 0, 0), (62, .getfield 284, 3, 1, 2), (65, .if_icmp .ge 38, 3, 0, 0), (68, .aload_n 0, 1, 0, 0), (69, .getfield 32, 3, 5, 4), (72, .aload 4, 2, 0, 0), (74, .iload 6, 2, 0, 0), (76, .invokevirtual 292, 3, 5, 0), (79, .aload_n 0, 1, 0, 0), (80, .getfield 36, 3, 5, 5), (83, .invokevirtual 204, 3, 94, 0), (86, .aload_n 0, 1, 0, 0), (87, .getfield 22, 3, 5, 2), (90, .aload_n 0, 1, 0, 0), (91, .getfield 32, 3, 5, 4), (94, .invokevirtual 258, 3, 6, 0), (97, .iinc 6 1, 3, 0, 0), (100, .goto (-42), 3, 0, 0), (103, .return_, 1, 0, 0)]
def E_m80 : E_MI := (5, ⟨E_R5, "bothByCore", "(LGramFinder$Family;LGramFinder$Family;)V"⟩, prog_7_method_27_code, 7, (Option.none : Option FieldType), false, 2, E_c80)
def E_c81 : List E_C := [(0, .aload_n 0, 1, 0, 0), (1, .invokespecial 3, 3, 999, 0), (4, .aload_n 0, 1, 0, 0), (5, .new 9, 3, 7, 0), (8, .dup, 1, 0, 0), (9, .invokespecial 11, 3, 87, 1), (12, .putfield 12, 3, 6, 0), (15, .aload_n 0, 1, 0, 0), (16, .new 9, 3, 7, 0), (19, .dup, 1, 0, 0), (20, .invokespecial 11, 3, 87, 1), (23, .putfield 18, 3, 6, 1), (26, .return_, 1, 0, 0)]
def E_m81 : E_MI := (6, ⟨E_R6, "<init>", "()V"⟩, prog_8_method_1_code, 1, (Option.none : Option FieldType), false, 0, E_c81)
def E_c82 : List E_C := [(0, .aload_n 0, 1, 0, 0), (1, .getfield 12, 3, 6, 0), (4, .invokevirtual 21, 3, 89, 0), (7, .aload_n 0, 1, 0, 0), (8, .getfield 18, 3, 6, 1), (11, .invokevirtual 21, 3, 89, 0), (14, .aload_n 0, 1, 0, 0), (15, .iconst 0, 1, 0, 0), (16, .putfield 24, 3, 6, 2), (19, .aload_n 0, 1, 0, 0), (20, .dup, 1, 0, 0), (21, .getfield 28, 3, 6, 3), (24, .iconst 1, 1, 0, 0), (25, .iadd, 1, 0, 0), (26, .putfield 28, 3, 6, 3), (29, .aload_n 0, 1, 0, 0), (30, .iload_n 1, 1, 0, 0), (31, .putfield 31, 3, 6, 6), (34, .return_, 1, 0, 0)]
def E_m82 : E_MI := (6, ⟨E_R6, "begin", "(I)V"⟩, prog_8_method_2_code, 2, (Option.none : Option FieldType), false, 1, E_c82)
def E_c83 : List E_C := [(0, .aload_n 0, 1, 0, 0), (1, .getfield 12, 3, 6, 0), (4, .iload_n 1, 1, 0, 0), (5, .invokevirtual 34, 3, 90, 0), (8, .aload_n 0, 1, 0, 0), (9, .dup, 1, 0, 0), (10, .getfield 38, 3, 6, 4), (13, .iconst 1, 1, 0, 0), (14, .iadd, 1, 0, 0), (15, .putfield 38, 3, 6, 4), (18, .return_, 1, 0, 0)]
def E_m83 : E_MI := (6, ⟨E_R6, "noteOpened", "(I)V"⟩, prog_8_method_3_code, 2, (Option.none : Option FieldType), false, 1, E_c83)
def E_c84 : List E_C := [(0, .aload_n 0, 1, 0, 0), (1, .getfield 18, 3, 6, 1), (4, .iload_n 1, 1, 0, 0), (5, .invokevirtual 34, 3, 90, 0), (8, .aload_n 0, 1, 0, 0), (9, .getfield 18, 3, 6, 1), (12, .iload_n 2, 1, 0, 0), (13, .invokevirtual 34, 3, 90, 0), (16, .aload_n 0, 1, 0, 0), (17, .getfield 18, 3, 6, 1), (20, .iload_n 3, 1, 0, 0), (21, .invokevirtual 34, 3, 90, 0), (24, .aload_n 0, 1, 0, 0), (25, .getfield 18, 3, 6, 1), (28, .iload 4, 2, 0, 0), (30, .invokevirtual 34, 3, 90, 0), (33, .aload_n 0, 1, 0, 0), (34, .dup, 1, 0, 0), (35, .getfield 24, 3, 6, 2), (38, .iconst 1, 1, 0, 0), (39, .iadd, 1, 0, 0), (40, .putfield 24, 3, 6, 2), (43, .aload_n 0, 1, 0, 0), (44, .dup, 1, 0, 0), (45, .getfield 41, 3, 6, 5), (48, .iconst 1, 1, 0, 0), (49, .iadd, 1, 0, 0), (50, .putfield 41, 3, 6, 5), (53, .return_, 1, 0, 0)]
def E_m84 : E_MI := (6, ⟨E_R6, "noteHit", "(IIII)V"⟩, prog_8_method_4_code, 5, (Option.none : Option FieldType), false, 4, E_c84)
def E_c85 : List E_C := [(0, .aload_n 0, 1, 0, 0), (1, .getfield 12, 3, 6, 0), (4, .iload_n 1, 1, 0, 0), (5, .invokevirtual 44, 3, 88, 0), (8, .ireturn, 1, 0, 0)]
def E_m85 : E_MI := (6, ⟨E_R6, "openedNumber", "(I)I"⟩, prog_8_method_5_code, 2, (Option.some FieldType.int), false, 1, E_c85)
def E_c86 : List E_C := [(0, .iload_n 1, 1, 0, 0), (1, .ifCond .lt 24, 3, 0, 0), (4, .iload_n 1, 1, 0, 0), (5, .aload_n 0, 1, 0, 0), (6, .getfield 24, 3, 6, 2), (9, .if_icmp .ge 16, 3, 0, 0), (12, .iload_n 2, 1, 0, 0), (13, .ifCond .lt 12, 3, 0, 0), (16, .iload_n 2, 1, 0, 0), (17, .iconst 3, 1, 0, 0), (18, .if_icmp .gt 7, 3, 0, 0), (21, .iconst 1, 1, 0, 0), (22, .goto 4, 3, 0, 0), (25, .iconst 0, 1, 0, 0), (26, .istore_n 3, 1, 0, 0), (27, .iload_n 3, 1, 0, 0), (28, .ifCond .eq 18, 3, 0, 0), (31, .aload_n 0, 1, 0, 0), (32, .getfield 18, 3, 6, 1), (35, .iconst 4, 1, 0, 0), (36, .iload_n 1, 1, 0, 0), (37, .imul, 1, 0, 0), (38, .iload_n 2, 1, 0, 0), (39, .iadd, 1, 0, 0), (40, .invokevirtual 44, 3, 88, 0), (43, .goto 4, 3, 0, 0), (46, .iconst (-1), 1, 0, 0), (47, .ireturn, 1, 0, 0)]
def E_m86 : E_MI := (6, ⟨E_R6, "hitFact", "(II)I"⟩, prog_8_method_6_code, 4, (Option.some FieldType.int), false, 2, E_c86)
def E_c87 : List E_C := [(0, .aload_n 0, 1, 0, 0), (1, .invokespecial 3, 3, 999, 0), (4, .aload_n 0, 1, 0, 0), (5, .bipush 8, 2, 0, 0), (7, .newarray .int, 2, 0, 0), (9, .putfield 9, 3, 7, 0), (12, .return_, 1, 0, 0)]
def E_m87 : E_MI := (7, ⟨E_R7, "<init>", "()V"⟩, prog_9_method_1_code, 1, (Option.none : Option FieldType), false, 0, E_c87)
def E_c88 : List E_C := [(0, .iload_n 1, 1, 0, 0), (1, .ifCond .lt 29, 3, 0, 0), (4, .iload_n 1, 1, 0, 0), (5, .aload_n 0, 1, 0, 0), (6, .getfield 15, 3, 7, 1), (9, .if_icmp .ge 21, 3, 0, 0), (12, .iload_n 1, 1, 0, 0), (13, .aload_n 0, 1, 0, 0), (14, .getfield 9, 3, 7, 0), (17, .arraylength, 1, 0, 0), (18, .if_icmp .ge 12, 3, 0, 0), (21, .aload_n 0, 1, 0, 0), (22, .getfield 9, 3, 7, 0), (25, .iload_n 1, 1, 0, 0), (26, .iaload, 1, 0, 0), (27, .goto 4, 3, 0, 0), (30, .iconst (-1), 1, 0, 0), (31, .ireturn, 1, 0, 0)]
def E_m88 : E_MI := (7, ⟨E_R7, "at", "(I)I"⟩, prog_9_method_2_code, 2, (Option.some FieldType.int), false, 1, E_c88)
def E_c89 : List E_C := [(0, .aload_n 0, 1, 0, 0), (1, .iconst 0, 1, 0, 0), (2, .putfield 15, 3, 7, 1), (5, .return_, 1, 0, 0)]
def E_m89 : E_MI := (7, ⟨E_R7, "clear", "()V"⟩, prog_9_method_3_code, 1, (Option.none : Option FieldType), false, 0, E_c89)
def E_c90 : List E_C := [(0, .aload_n 0, 1, 0, 0), (1, .aload_n 0, 1, 0, 0), (2, .getfield 15, 3, 7, 1), (5, .iconst 1, 1, 0, 0), (6, .iadd, 1, 0, 0), (7, .invokevirtual 19, 3, 99, 0), (10, .aload_n 0, 1, 0, 0), (11, .getfield 15, 3, 7, 1), (14, .ifCond .lt 35, 3, 0, 0), (17, .aload_n 0, 1, 0, 0), (18, .getfield 15, 3, 7, 1), (21, .aload_n 0, 1, 0, 0), (22, .getfield 9, 3, 7, 0), (25, .arraylength, 1, 0, 0), (26, .if_icmp .ge 23, 3, 0, 0), (29, .aload_n 0, 1, 0, 0), (30, .getfield 9, 3, 7, 0), (33, .aload_n 0, 1, 0, 0), (34, .getfield 15, 3, 7, 1), (37, .iload_n 1, 1, 0, 0), (38, .iastore, 1, 0, 0), (39, .aload_n 0, 1, 0, 0), (40, .dup, 1, 0, 0), (41, .getfield 15, 3, 7, 1), (44, .iconst 1, 1, 0, 0), (45, .iadd, 1, 0, 0), (46, .putfield 15, 3, 7, 1), (49, .return_, 1, 0, 0)]
def E_m90 : E_MI := (7, ⟨E_R7, "push", "(I)V"⟩, prog_9_method_4_code, 2, (Option.none : Option FieldType), false, 1, E_c90)
def E_c91 : List E_C := [(0, .aload_n 0, 1, 0, 0), (1, .iload_n 1, 1, 0, 0), (2, .invokevirtual 23, 3, 98, 0), (5, .istore_n 2, 1, 0, 0), (6, .iload_n 2, 1, 0, 0), (7, .aload_n 0, 1, 0, 0), (8, .getfield 15, 3, 7, 1), (11, .if_icmp .ge 13, 3, 0, 0), (14, .aload_n 0, 1, 0, 0), (15, .iload_n 2, 1, 0, 0), (16, .invokevirtual 27, 3, 88, 0), (19, .iload_n 1, 1, 0, 0), (20, .if_icmp .ne 4, 3, 0, 0), (23, .return_, 1, 0, 0), (24, .aload_n 0, 1, 0, 0), (25, .aload_n 0, 1, 0, 0), (26, .getfield 15, 3, 7, 1), (29, .iconst 1, 1, 0, 0), (30, .iadd, 1, 0, 0), (31, .invokevirtual 19, 3, 99, 0), (34, .iload_n 2, 1, 0, 0), (35, .ifCond .lt 61, 3, 0, 0), (38, .iload_n 2, 1, 0, 0), (39, .aload_n 0, 1, 0, 0), (40, .getfield 15, 3, 7, 1), (43, .if_icmp .gt 53, 3, 0, 0), (46, .aload_n 0, 1, 0, 0), (47, .getfield 15, 3, 7, 1), (50, .aload_n 0, 1, 0, 0), (51, .getfield 9, 3, 7, 0), (54, .arraylength, 1, 0, 0), (55, .if_icmp .ge 41, 3, 0, 0), (58, .aload_n 0, 1, 0, 0), (59, .getfield 9, 3, 7, 0), (62, .iload_n 2, 1, 0, 0), (63, .aload_n 0, 1, 0, 0), (64, .getfield 9, 3, 7, 0), (67, .iload_n 2, 1, 0, 0), (68, .iconst 1, 1, 0, 0), (69, .iadd, 1, 0, 0), (70, .aload_n 0, 1, 0, 0), (71, .getfield 15, 3, 7, 1), (74, .iload_n 2, 1, 0, 0), (75, .isub, 1, 0, 0), (76, .invokestatic 30, 3, 998, 0), (79, .aload_n 0, 1, 0, 0), (80, .getfield 9, 3, 7, 0), (83, .iload_n 2, 1, 0, 0), (84, .iload_n 1, 1, 0, 0), (85, .iastore, 1, 0, 0), (86, .aload_n 0, 1, 0, 0), (87, .dup, 1, 0, 0), (88, .getfield 15, 3, 7, 1), (91, .iconst 1, 1, 0, 0), (92, .iadd, 1, 0, 0), (93, .putfield 15, 3, 7, 1), (96, .return_, 1, 0, 0)]
def E_m91 : E_MI := (7, ⟨E_R7, "insert", "(I)V"⟩, prog_9_method_5_code, 3, (Option.none : Option FieldType), false, 1, E_c91)
def E_c92 : List E_C := [(0, .aload_n 0, 1, 0, 0), (1, .iload_n 1, 1, 0, 0), (2, .invokevirtual 23, 3, 98, 0), (5, .istore_n 2, 1, 0, 0), (6, .iload_n 2, 1, 0, 0), (7, .aload_n 0, 1, 0, 0), (8, .getfield 15, 3, 7, 1), (11, .if_icmp .ge 16, 3, 0, 0), (14, .aload_n 0, 1, 0, 0), (15, .iload_n 2, 1, 0, 0), (16, .invokevirtual 27, 3, 88, 0), (19, .iload_n 1, 1, 0, 0), (20, .if_icmp .ne 7, 3, 0, 0), (23, .iconst 1, 1, 0, 0), (24, .goto 4, 3, 0, 0), (27, .iconst 0, 1, 0, 0), (28, .ireturn, 1, 0, 0)]
def E_m92 : E_MI := (7, ⟨E_R7, "holds", "(I)Z"⟩, prog_9_method_6_code, 3, (Option.some FieldType.boolean), false, 1, E_c92)
def E_c93 : List E_C := [(0, .aload_n 0, 1, 0, 0), (1, .aload_n 1, 1, 0, 0), (2, .getfield 15, 3, 7, 1), (5, .invokevirtual 19, 3, 99, 0), (8, .aload_n 0, 1, 0, 0), (9, .iconst 0, 1, 0, 0), (10, .putfield 15, 3, 7, 1), (13, .aload_n 1, 1, 0, 0), (14, .getfield 15, 3, 7, 1), (17, .ifCond .lt 52, 3, 0, 0), (20, .aload_n 1, 1, 0, 0), (21, .getfield 15, 3, 7, 1), (24, .aload_n 0, 1, 0, 0), (25, .getfield 9, 3, 7, 0), (28, .arraylength, 1, 0, 0), (29, .if_icmp .gt 40, 3, 0, 0), (32, .aload_n 1, 1, 0, 0), (33, .getfield 15, 3, 7, 1), (36, .aload_n 1, 1, 0, 0), (37, .getfield 9, 3, 7, 0), (40, .arraylength, 1, 0, 0), (41, .if_icmp .gt 28, 3, 0, 0), (44, .aload_n 1, 1, 0, 0), (45, .getfield 9, 3, 7, 0), (48, .iconst 0, 1, 0, 0), (49, .aload_n 0, 1, 0, 0), (50, .getfield 9, 3, 7, 0), (53, .iconst 0, 1, 0, 0), (54, .aload_n 1, 1, 0, 0), (55, .getfield 15, 3, 7, 1), (58, .invokestatic 30, 3, 998, 0), (61, .aload_n 0, 1, 0, 0), (62, .aload_n 1, 1, 0, 0), (63, .getfield 15, 3, 7, 1), (66, .putfield 15, 3, 7, 1), (69, .return_, 1, 0, 0)]
def E_m93 : E_MI := (7, ⟨E_R7, "copyFrom", "(LGramFinder$Row;)V"⟩, prog_9_method_7_code, 2, (Option.none : Option FieldType), false, 1, E_c93)
def E_c94 : List E_C := [(0, .aload_n 0, 1, 0, 0), (1, .invokevirtual 36, 3, 89, 0), (4, .aload_n 0, 1, 0, 0), (5, .aload_n 1, 1, 0, 0), (6, .getfield 15, 3, 7, 1), (9, .aload_n 2, 1, 0, 0), (10, .getfield 15, 3, 7, 1), (13, .iadd, 1, 0, 0), (14, .invokevirtual 19, 3, 99, 0), (17, .iconst 0, 1, 0, 0), (18, .istore_n 3, 1, 0, 0), (19, .iconst 0, 1, 0, 0), (20, .istore 4, 2, 0, 0), (22, .aload_n 1, 1, 0, 0), (23, .getfield 15, 3, 7, 1), (26, .aload_n 2, 1, 0, 0), (27, .getfield 15, 3, 7, 1), (30, .iadd, 1, 0, 0), (31, .istore 5, 2, 0, 0), (33, .iload 5, 2, 0, 0), (35, .ifCond .le 153, 3, 0, 0), (38, .iload_n 3, 1, 0, 0), (39, .aload_n 1, 1, 0, 0), (40, .getfield 15, 3, 7, 1), (43, .if_icmp .lt 12, 3, 0, 0), (46, .iload 4, 2, 0, 0), (48, .aload_n 2, 1, 0, 0), (49, .getfield 15, 3, 7, 1), (52, .if_icmp .ge 136, 3, 0, 0), (55, .iload 4, 2, 0, 0), (57, .aload_n 2, 1, 0, 0), (58, .getfield 15, 3, 7, 1), (61, .if_icmp .ge 25, 3, 0, 0), (64, .iload_n 3, 1, 0, 0), (65, .aload_n 1, 1, 0, 0), (66, .getfield 15, 3, 7, 1), (69, .if_icmp .ge 21, 3, 0, 0), (72, .aload_n 1, 1, 0, 0), (73, .iload_n 3, 1, 0, 0), (74, .invokevirtual 27, 3, 88, 0), (77, .aload_n 2, 1, 0, 0), (78, .iload 4, 2, 0, 0), (80, .invokevirtual 27, 3, 88, 0), (83, .if_icmp .gt 7, 3, 0, 0), (86, .iconst 1, 1, 0, 0), (87, .goto 4, 3, 0, 0), (90, .iconst 0, 1, 0, 0), (91, .istore 6, 2, 0, 0), (93, .iload_n 3, 1, 0, 0), (94, .aload_n 1, 1, 0, 0), (95, .getfield 15, 3, 7, 1), (98, .if_icmp .ge 26, 3, 0, 0), (101, .iload 4, 2, 0, 0), (103, .aload_n 2, 1, 0, 0), (104, .getfield 15, 3, 7, 1), (107, .if_icmp .ge 21, 3, 0, 0), (110, .aload_n 2, 1, 0, 0), (111, .iload 4, 2, 0, 0), (113, .invokevirtual 27, 3, 88, 0), (116, .aload_n 1, 1, 0, 0), (117, .iload_n 3, 1, 0, 0), (118, .invokevirtual 27, 3, 88, 0), (121, .if_icmp .gt 7, 3, 0, 0), (124, .iconst 1, 1, 0, 0), (125, .goto 4, 3, 0, 0), (128, .iconst 0, 1, 0, 0), (129, .istore 7, 2, 0, 0), (131, .aload_n 0, 1, 0, 0), (132, .iload 6, 2, 0, 0), (134, .ifCond .eq 11, 3, 0, 0), (137, .aload_n 1, 1, 0, 0), (138, .iload_n 3, 1, 0, 0), (139, .invokevirtual 27, 3, 88, 0), (142, .goto 9, 3, 0, 0), (145, .aload_n 2, 1, 0, 0), (146, .iload 4, 2, 0, 0), (148, .invokevirtual 27, 3, 88, 0), (151, .invokevirtual 39, 3, 90, 0), (154, .iload_n 3, 1, 0, 0), (155, .iload 6, 2, 0, 0), (157, .ifCond .eq 7, 3, 0, 0), (160, .iconst 1, 1, 0, 0), (161, .goto 4, 3, 0, 0), (164, .iconst 0, 1, 0, 0), (165, .iadd, 1, 0, 0), (166, .istore_n 3, 1, 0, 0), (167, .iload 4, 2, 0, 0), (169, .iload 7, 2, 0, 0), (171, .ifCond .eq 7, 3, 0, 0), (174, .iconst 1, 1, 0, 0), (175, .goto 4, 3, 0, 0), (178, .iconst 0, 1, 0, 0), (179, .iadd, 1, 0, 0), (180, .istore 4, 2, 0, 0), (182, .iinc 5 (-1), 3, 0, 0), (185, .goto (-152), 3, 0, 0), (188, .return_, 1, 0, 0)]
def E_m94 : E_MI := (7, ⟨E_R7, "fillFromBoth", "(LGramFinder$Row;LGramFinder$Row;)V"⟩, prog_9_method_8_code, 8, (Option.none : Option FieldType), false, 2, E_c94)
def E_c95 : List E_C := [(0, .iconst 0, 1, 0, 0), (1, .istore_n 2, 1, 0, 0), (2, .iconst 0, 1, 0, 0), (3, .istore_n 3, 1, 0, 0), (4, .iload_n 3, 1, 0, 0), (5, .aload_n 0, 1, 0, 0), (6, .getfield 15, 3, 7, 1), (9, .if_icmp .ge 59, 3, 0, 0), (12, .iload_n 2, 1, 0, 0), (13, .aload_n 1, 1, 0, 0), (14, .getfield 15, 3, 7, 1), (17, .if_icmp .ge 22, 3, 0, 0), (20, .aload_n 1, 1, 0, 0), (21, .iload_n 2, 1, 0, 0), (22, .invokevirtual 27, 3, 88, 0), (25, .aload_n 0, 1, 0, 0), (26, .iload_n 3, 1, 0, 0), (27, .invokevirtual 27, 3, 88, 0), (30, .if_icmp .ge 9, 3, 0, 0), (33, .iinc 2 1, 3, 0, 0), (36, .goto (-24), 3, 0, 0), (39, .iload_n 2, 1, 0, 0), (40, .aload_n 1, 1, 0, 0), (41, .getfield 15, 3, 7, 1), (44, .if_icmp .ge 16, 3, 0, 0), (47, .aload_n 1, 1, 0, 0), (48, .iload_n 2, 1, 0, 0), (49, .invokevirtual 27, 3, 88, 0), (52, .aload_n 0, 1, 0, 0), (53, .iload_n 3, 1, 0, 0), (54, .invokevirtual 27, 3, 88, 0), (57, .if_icmp .eq 5, 3, 0, 0), (60, .iconst 0, 1, 0, 0), (61, .ireturn, 1, 0, 0), (62, .iinc 3 1, 3, 0, 0), (65, .goto (-61), 3, 0, 0), (68, .iconst 1, 1, 0, 0), (69, .ireturn, 1, 0, 0)]
def E_m95 : E_MI := (7, ⟨E_R7, "isPartOf", "(LGramFinder$Row;)Z"⟩, prog_9_method_9_code, 4, (Option.some FieldType.boolean), false, 1, E_c95)
def E_c96 : List E_C := [(0, .iconst 0, 1, 0, 0), (1, .istore_n 2, 1, 0, 0), (2, .iload_n 2, 1, 0, 0), (3, .aload_n 0, 1, 0, 0), (4, .getfield 15, 3, 7, 1), (7, .if_icmp .ge 49, 3, 0, 0), (10, .iload_n 2, 1, 0, 0), (11, .aload_n 1, 1, 0, 0), (12, .getfield 15, 3, 7, 1), (15, .if_icmp .ge 41, 3, 0, 0), (18, .aload_n 0, 1, 0, 0), (19, .iload_n 2, 1, 0, 0), (20, .invokevirtual 27, 3, 88, 0), (23, .aload_n 1, 1, 0, 0), (24, .iload_n 2, 1, 0, 0), (25, .invokevirtual 27, 3, 88, 0), (28, .if_icmp .eq 22, 3, 0, 0), (31, .aload_n 0, 1, 0, 0), (32, .iload_n 2, 1, 0, 0), (33, .invokevirtual 27, 3, 88, 0), (36, .aload_n 1, 1, 0, 0), (37, .iload_n 2, 1, 0, 0), (38, .invokevirtual 27, 3, 88, 0), (41, .if_icmp .ge 7, 3, 0, 0), (44, .iconst 1, 1, 0, 0), (45, .goto 4, 3, 0, 0), (48, .iconst 0, 1, 0, 0), (49, .ireturn, 1, 0, 0), (50, .iinc 2 1, 3, 0, 0), (53, .goto (-51), 3, 0, 0), (56, .aload_n 0, 1, 0, 0), (57, .getfield 15, 3, 7, 1), (60, .aload_n 1, 1, 0, 0), (61, .getfield 15, 3, 7, 1), (64, .if_icmp .ge 7, 3, 0, 0), (67, .iconst 1, 1, 0, 0), (68, .goto 4, 3, 0, 0), (71, .iconst 0, 1, 0, 0), (72, .ireturn, 1, 0, 0)]
def E_m96 : E_MI := (7, ⟨E_R7, "isAheadOf", "(LGramFinder$Row;)Z"⟩, prog_9_method_10_code, 3, (Option.some FieldType.boolean), false, 1, E_c96)
def E_c97 : List E_C := [(0, .lconst 0, 1, 0, 0), (1, .lstore_n 1, 1, 0, 0), (2, .iconst 0, 1, 0, 0), (3, .istore_n 3, 1, 0, 0), (4, .iload_n 3, 1, 0, 0), (5, .aload_n 0, 1, 0, 0), (6, .getfield 15, 3, 7, 1), (9, .if_icmp .ge 25, 3, 0, 0), (12, .lload_n 1, 1, 0, 0), (13, .lconst 1, 1, 0, 0), (14, .aload_n 0, 1, 0, 0), (15, .iload_n 3, 1, 0, 0), (16, .invokevirtual 27, 3, 88, 0), (19, .ldc 42, 2, 0, 0), (21, .imul, 1, 0, 0), (22, .bipush 26, 2, 0, 0), (24, .iushr, 1, 0, 0), (25, .lshl, 1, 0, 0), (26, .lor, 1, 0, 0), (27, .lstore_n 1, 1, 0, 0), (28, .iinc 3 1, 3, 0, 0), (31, .goto (-27), 3, 0, 0), (34, .lload_n 1, 1, 0, 0), (35, .lreturn, 1, 0, 0)]
def E_m97 : E_MI := (7, ⟨E_R7, "mark", "()J"⟩, prog_9_method_11_code, 4, (Option.some FieldType.long), false, 0, E_c97)
def E_c98 : List E_C := [(0, .iconst 0, 1, 0, 0), (1, .istore_n 2, 1, 0, 0), (2, .aload_n 0, 1, 0, 0), (3, .getfield 15, 3, 7, 1), (6, .istore_n 3, 1, 0, 0), (7, .iconst 0, 1, 0, 0), (8, .istore 4, 2, 0, 0), (10, .iload 4, 2, 0, 0), (12, .bipush 32, 2, 0, 0), (14, .if_icmp .ge 53, 3, 0, 0), (17, .iload_n 2, 1, 0, 0), (18, .iload_n 3, 1, 0, 0), (19, .if_icmp .ge 48, 3, 0, 0), (22, .iload_n 2, 1, 0, 0), (23, .iload_n 3, 1, 0, 0), (24, .iadd, 1, 0, 0), (25, .iconst 1, 1, 0, 0), (26, .iushr, 1, 0, 0), (27, .istore 5, 2, 0, 0), (29, .iload 5, 2, 0, 0), (31, .aload_n 0, 1, 0, 0), (32, .getfield 9, 3, 7, 0), (35, .arraylength, 1, 0, 0), (36, .if_icmp .ge 22, 3, 0, 0), (39, .aload_n 0, 1, 0, 0), (40, .getfield 9, 3, 7, 0), (43, .iload 5, 2, 0, 0), (45, .iaload, 1, 0, 0), (46, .iload_n 1, 1, 0, 0), (47, .if_icmp .ge 11, 3, 0, 0), (50, .iload 5, 2, 0, 0), (52, .iconst 1, 1, 0, 0), (53, .iadd, 1, 0, 0), (54, .istore_n 2, 1, 0, 0), (55, .goto 6, 3, 0, 0), (58, .iload 5, 2, 0, 0), (60, .istore_n 3, 1, 0, 0), (61, .iinc 4 1, 3, 0, 0), (64, .goto (-54), 3, 0, 0), (67, .iload_n 2, 1, 0, 0), (68, .ireturn, 1, 0, 0)]
def E_m98 : E_MI := (7, ⟨E_R7, "placeOf", "(I)I"⟩, prog_9_method_12_code, 6, (Option.some FieldType.int), false, 1, E_c98)
def E_c99 : List E_C := [(0, .iload_n 1, 1, 0, 0), (1, .aload_n 0, 1, 0, 0), (2, .getfield 9, 3, 7, 0), (5, .arraylength, 1, 0, 0), (6, .if_icmp .le 25, 3, 0, 0), (9, .aload_n 0, 1, 0, 0), (10, .aload_n 0, 1, 0, 0), (11, .getfield 9, 3, 7, 0), (14, .iload_n 1, 1, 0, 0), (15, .iconst 2, 1, 0, 0), (16, .aload_n 0, 1, 0, 0), (17, .getfield 9, 3, 7, 0), (20, .arraylength, 1, 0, 0), (21, .imul, 1, 0, 0), (22, .invokestatic 43, 3, 288, 0), (25, .invokestatic 49, 3, 294, 0), (28, .putfield 9, 3, 7, 0), (31, .return_, 1, 0, 0)]
def E_m99 : E_MI := (7, ⟨E_R7, "makeRoom", "(I)V"⟩, prog_9_method_13_code, 2, (Option.none : Option FieldType), false, 1, E_c99)
def E_c100 : List E_C := [(0, .aload_n 0, 1, 0, 0), (1, .invokespecial 3, 3, 999, 0), (4, .aload_n 0, 1, 0, 0), (5, .sipush 200, 3, 0, 0), (8, .anewarray 9, 3, 6, 0), (11, .putfield 11, 3, 8, 0), (14, .aload_n 0, 1, 0, 0), (15, .new 17, 3, 7, 0), (18, .dup, 1, 0, 0), (19, .invokespecial 19, 3, 87, 1), (22, .putfield 20, 3, 8, 1), (25, .aload_n 0, 1, 0, 0), (26, .new 17, 3, 7, 0), (29, .dup, 1, 0, 0), (30, .invokespecial 19, 3, 87, 1), (33, .putfield 24, 3, 8, 2), (36, .return_, 1, 0, 0)]
def E_m100 : E_MI := (8, ⟨E_R8, "<init>", "()V"⟩, prog_10_method_1_code, 1, (Option.none : Option FieldType), false, 0, E_c100)
def E_c101 : List E_C := [(0, .iload_n 1, 1, 0, 0), (1, .ifCond .lt 29, 3, 0, 0), (4, .iload_n 1, 1, 0, 0), (5, .aload_n 0, 1, 0, 0), (6, .getfield 27, 3, 8, 3), (9, .if_icmp .ge 21, 3, 0, 0), (12, .iload_n 1, 1, 0, 0), (13, .aload_n 0, 1, 0, 0), (14, .getfield 11, 3, 8, 0), (17, .arraylength, 1, 0, 0), (18, .if_icmp .ge 12, 3, 0, 0), (21, .aload_n 0, 1, 0, 0), (22, .getfield 11, 3, 8, 0), (25, .iload_n 1, 1, 0, 0), (26, .aaload, 1, 0, 0), (27, .goto 4, 3, 0, 0), (30, .aconst_null, 1, 0, 0), (31, .areturn, 1, 0, 0)]
def E_m101 : E_MI := (8, ⟨E_R8, "find", "(I)LGramFinder$Entry;"⟩, prog_10_method_2_code, 2, (Option.some (FieldType.object "GramFinder$Entry")), false, 1, E_c101)
def E_c102 : List E_C := [(0, .aload_n 0, 1, 0, 0), (1, .getfield 31, 3, 8, 4), (4, .bipush 40, 2, 0, 0), (6, .if_icmp .ge 25, 3, 0, 0), (9, .aload_n 0, 1, 0, 0), (10, .getfield 27, 3, 8, 3), (13, .sipush 200, 3, 0, 0), (16, .if_icmp .ge 15, 3, 0, 0), (19, .aload_n 0, 1, 0, 0), (20, .getfield 34, 3, 8, 5), (23, .iload_n 2, 1, 0, 0), (24, .iadd, 1, 0, 0), (25, .sipush 16000, 3, 0, 0), (28, .if_icmp .le 5, 3, 0, 0), (31, .iconst (-1), 1, 0, 0), (32, .ireturn, 1, 0, 0), (33, .new 9, 3, 0, 0), (36, .dup, 1, 0, 0), (37, .invokespecial 37, 3, 0, 1), (40, .astore_n 3, 1, 0, 0), (41, .aload_n 3, 1, 0, 0), (42, .aload_n 1, 1, 0, 0), (43, .iload_n 2, 1, 0, 0), (44, .invokevirtual 38, 3, 1, 0), (47, .aload_n 0, 1, 0, 0), (48, .getfield 27, 3, 8, 3), (51, .istore 4, 2, 0, 0), (53, .iload 4, 2, 0, 0), (55, .ifCond .lt 21, 3, 0, 0), (58, .iload 4, 2, 0, 0), (60, .aload_n 0, 1, 0, 0), (61, .getfield 11, 3, 8, 0), (64, .arraylength, 1, 0, 0), (65, .if_icmp .ge 11, 3, 0, 0), (68, .aload_n 0, 1, 0, 0), (69, .getfield 11, 3, 8, 0), (72, .iload 4, 2, 0, 0), (74, .aload_n 3, 1, 0, 0), (75, .aastore, 1, 0, 0), (76, .aload_n 0, 1, 0, 0), (77, .dup, 1, 0, 0), (78, .getfield 27, 3, 8, 3), (81, .iconst 1, 1, 0, 0), (82, .iadd, 1, 0, 0), (83, .putfield 27, 3, 8, 3), (86, .aload_n 0, 1, 0, 0), (87, .dup, 1, 0, 0), (88, .getfield 31, 3, 8, 4), (91, .iconst 1, 1, 0, 0), (92, .iadd, 1, 0, 0), (93, .putfield 31, 3, 8, 4), (96, .aload_n 0, 1, 0, 0), (97, .dup, 1, 0, 0), (98, .getfield 34, 3, 8, 5), (101, .iload_n 2, 1, 0, 0), (102, .iadd, 1, 0, 0), (103, .putfield 34, 3, 8, 5), (106, .iload 4, 2, 0, 0), (108, .ireturn, 1, 0, 0)]
def E_m102 : E_MI := (8, ⟨E_R8, "take", "([BI)I"⟩, prog_10_method_3_code, 5, (Option.some FieldType.int), false, 2, E_c102)
def E_c103 : List E_C := [(0, .aload_n 0, 1, 0, 0), (1, .iload_n 1, 1, 0, 0), (2, .invokevirtual 42, 3, 101, 0), (5, .astore 4, 2, 0, 0), (7, .aload 4, 2, 0, 0), (9, .ifnull 22, 3, 0, 0), (12, .aload_n 0, 1, 0, 0), (13, .getfield 34, 3, 8, 5), (16, .aload 4, 2, 0, 0), (18, .getfield 46, 3, 0, 0), (21, .arraylength, 1, 0, 0), (22, .isub, 1, 0, 0), (23, .iload_n 3, 1, 0, 0), (24, .iadd, 1, 0, 0), (25, .sipush 16000, 3, 0, 0), (28, .if_icmp .le 5, 3, 0, 0), (31, .iconst (-1), 1, 0, 0), (32, .ireturn, 1, 0, 0), (33, .aload_n 0, 1, 0, 0), (34, .dup, 1, 0, 0), (35, .getfield 34, 3, 8, 5), (38, .iload_n 3, 1, 0, 0), (39, .aload 4, 2, 0, 0), (41, .getfield 46, 3, 0, 0), (44, .arraylength, 1, 0, 0), (45, .isub, 1, 0, 0), (46, .iadd, 1, 0, 0), (47, .putfield 34, 3, 8, 5), (50, .aload 4, 2, 0, 0), (52, .aload_n 2, 1, 0, 0), (53, .iload_n 3, 1, 0, 0), (54, .invokevirtual 38, 3, 1, 0), (57, .iload_n 3, 1, 0, 0), (58, .ireturn, 1, 0, 0)]
def E_m103 : E_MI := (8, ⟨E_R8, "exchange", "(I[BI)I"⟩, prog_10_method_4_code, 5, (Option.some FieldType.int), false, 3, E_c103)
def E_c104 : List E_C := [(0, .aload_n 0, 1, 0, 0), (1, .iload_n 1, 1, 0, 0), (2, .invokevirtual 42, 3, 101, 0), (5, .astore_n 2, 1, 0, 0), (6, .aload_n 2, 1, 0, 0), (7, .ifnull 16, 3, 0, 0), (10, .iload_n 1, 1, 0, 0), (11, .ifCond .lt 12, 3, 0, 0), (14, .iload_n 1, 1, 0, 0), (15, .aload_n 0, 1, 0, 0), (16, .getfield 11, 3, 8, 0), (19, .arraylength, 1, 0, 0), (20, .if_icmp .lt 5, 3, 0, 0), (23, .iconst 0, 1, 0, 0), (24, .ireturn, 1, 0, 0), (25, .aload_n 0, 1, 0, 0), (26, .dup, 1, 0, 0), (27, .getfield 34, 3, 8, 5), (30, .aload_n 2, 1, 0, 0), (31, .getfield 46, 3, 0, 0), (34, .arraylength, 1, 0, 0), (35, .isub, 1, 0, 0), (36, .putfield 34, 3, 8, 5), (39, .aload_n 0, 1, 0, 0), (40, .dup, 1, 0, 0), (41, .getfield 31, 3, 8, 4), (44, .iconst 1, 1, 0, 0), (45, .isub, 1, 0, 0), (46, .putfield 31, 3, 8, 4), (49, .aload_n 0, 1, 0, 0), (50, .getfield 11, 3, 8, 0), (53, .iload_n 1, 1, 0, 0), (54, .aconst_null, 1, 0, 0), (55, .aastore, 1, 0, 0), (56, .iconst 1, 1, 0, 0), (57, .ireturn, 1, 0, 0)]
def E_m104 : E_MI := (8, ⟨E_R8, "drop", "(I)Z"⟩, prog_10_method_5_code, 3, (Option.some FieldType.boolean), false, 1, E_c104)
def E_c105 : List E_C := [(0, .iconst 0, 1, 0, 0), (1, .istore_n 3, 1, 0, 0), (2, .iconst 0, 1, 0, 0), (3, .istore 4, 2, 0, 0), (5, .iload 4, 2, 0, 0), (7, .aload_n 0, 1, 0, 0), (8, .getfield 27, 3, 8, 3), (11, .if_icmp .ge 49, 3, 0, 0), (14, .iload_n 2, 1, 0, 0), (15, .ifCond .lt 45, 3, 0, 0), (18, .aload_n 0, 1, 0, 0), (19, .iload 4, 2, 0, 0), (21, .invokevirtual 42, 3, 101, 0), (24, .astore 5, 2, 0, 0), (26, .aload 5, 2, 0, 0), (28, .ifnull 26, 3, 0, 0), (31, .aload 5, 2, 0, 0), (33, .getfield 50, 3, 0, 1), (36, .iload_n 1, 1, 0, 0), (37, .invokevirtual 53, 3, 92, 0), (40, .ifCond .eq 14, 3, 0, 0), (43, .iload_n 3, 1, 0, 0), (44, .iload_n 2, 1, 0, 0), (45, .if_icmp .ne 6, 3, 0, 0), (48, .iload 4, 2, 0, 0), (50, .ireturn, 1, 0, 0), (51, .iinc 3 1, 3, 0, 0), (54, .iinc 4 1, 3, 0, 0), (57, .goto (-52), 3, 0, 0), (60, .iconst (-1), 1, 0, 0), (61, .ireturn, 1, 0, 0)]
def E_m105 : E_MI := (8, ⟨E_R8, "holder", "(II)I"⟩, prog_10_method_6_code, 6, (Option.some FieldType.int), false, 2, E_c105)
def E_c106 : List E_C := [(0, .iconst 0, 1, 0, 0), (1, .istore_n 1, 1, 0, 0), (2, .iconst 0, 1, 0, 0), (3, .istore_n 2, 1, 0, 0), (4, .iload_n 2, 1, 0, 0), (5, .aload_n 0, 1, 0, 0), (6, .getfield 27, 3, 8, 3), (9, .if_icmp .ge 33, 3, 0, 0), (12, .aload_n 0, 1, 0, 0), (13, .iload_n 2, 1, 0, 0), (14, .invokevirtual 42, 3, 101, 0), (17, .astore_n 3, 1, 0, 0), (18, .iload_n 1, 1, 0, 0), (19, .aload_n 3, 1, 0, 0), (20, .ifnonnull 7, 3, 0, 0), (23, .iconst 0, 1, 0, 0), (24, .goto 10, 3, 0, 0), (27, .aload_n 3, 1, 0, 0), (28, .getfield 50, 3, 0, 1), (31, .getfield 57, 3, 7, 1), (34, .iadd, 1, 0, 0), (35, .istore_n 1, 1, 0, 0), (36, .iinc 2 1, 3, 0, 0), (39, .goto (-35), 3, 0, 0), (42, .iload_n 1, 1, 0, 0), (43, .ireturn, 1, 0, 0)]
def E_m106 : E_MI := (8, ⟨E_R8, "allGrams", "()I"⟩, prog_10_method_7_code, 4, (Option.some FieldType.int), false, 0, E_c106)
def E_c107 : List E_C := [(0, .aload_n 0, 1, 0, 0), (1, .getfield 20, 3, 8, 1), (4, .invokevirtual 60, 3, 89, 0), (7, .iconst 0, 1, 0, 0), (8, .istore_n 1, 1, 0, 0), (9, .iload_n 1, 1, 0, 0), (10, .aload_n 0, 1, 0, 0), (11, .getfield 27, 3, 8, 3), (14, .if_icmp .ge 52, 3, 0, 0), (17, .aload_n 0, 1, 0, 0), (18, .iload_n 1, 1, 0, 0), (19, .invokevirtual 42, 3, 101, 0), (22, .astore_n 2, 1, 0, 0), (23, .aload_n 2, 1, 0, 0), (24, .ifnull 36, 3, 0, 0), (27, .aload_n 0, 1, 0, 0), (28, .getfield 24, 3, 8, 2), (31, .aload_n 0, 1, 0, 0), (32, .getfield 20, 3, 8, 1), (35, .aload_n 2, 1, 0, 0), (36, .getfield 50, 3, 0, 1), (39, .invokevirtual 63, 3, 94, 0), (42, .aload_n 0, 1, 0, 0), (43, .getfield 24, 3, 8, 2), (46, .astore_n 3, 1, 0, 0), (47, .aload_n 0, 1, 0, 0), (48, .aload_n 0, 1, 0, 0), (49, .getfield 20, 3, 8, 1), (52, .putfield 24, 3, 8, 2), (55, .aload_n 0, 1, 0, 0), (56, .aload_n 3, 1, 0, 0), (57, .putfield 20, 3, 8, 1), (60, .iinc 1 1, 3, 0, 0), (63, .goto (-54), 3, 0, 0), (66, .aload_n 0, 1, 0, 0), (67, .getfield 20, 3, 8, 1), (70, .getfield 57, 3, 7, 1), (73, .ireturn, 1, 0, 0)]
def E_m107 : E_MI := (8, ⟨E_R8, "differentGrams", "()I"⟩, prog_10_method_8_code, 4, (Option.some FieldType.int), false, 0, E_c107)
def E_c108 : List E_C := [(0, .aload_n 0, 1, 0, 0), (1, .invokespecial 3, 3, 999, 0), (4, .aload_n 0, 1, 0, 0), (5, .bipush 8, 2, 0, 0), (7, .bipush 60, 2, 0, 0), (9, .multianewarray 9 2, 4, 7, 0), (13, .putfield 11, 3, 9, 0), (16, .aload_n 0, 1, 0, 0), (17, .bipush 8, 2, 0, 0), (19, .newarray .int, 2, 0, 0), (21, .putfield 16, 3, 9, 1), (24, .return_, 1, 0, 0)]
def E_m108 : E_MI := (9, ⟨E_R9, "<init>", "()V"⟩, prog_11_method_1_code, 1, (Option.none : Option FieldType), false, 0, E_c108)
def E_c109 : List E_C := [(0, .aload_n 0, 1, 0, 0), (1, .iconst 0, 1, 0, 0), (2, .putfield 20, 3, 9, 2), (5, .return_, 1, 0, 0)]
def E_m109 : E_MI := (9, ⟨E_R9, "clear", "()V"⟩, prog_11_method_2_code, 1, (Option.none : Option FieldType), false, 0, E_c109)
def E_c110 : List E_C := [(0, .iload_n 1, 1, 0, 0), (1, .ifCond .lt 29, 3, 0, 0), (4, .iload_n 1, 1, 0, 0), (5, .aload_n 0, 1, 0, 0), (6, .getfield 20, 3, 9, 2), (9, .if_icmp .ge 21, 3, 0, 0), (12, .iload_n 1, 1, 0, 0), (13, .aload_n 0, 1, 0, 0), (14, .getfield 16, 3, 9, 1), (17, .arraylength, 1, 0, 0), (18, .if_icmp .ge 12, 3, 0, 0), (21, .aload_n 0, 1, 0, 0), (22, .getfield 16, 3, 9, 1), (25, .iload_n 1, 1, 0, 0), (26, .iaload, 1, 0, 0), (27, .goto 4, 3, 0, 0), (30, .iconst 0, 1, 0, 0), (31, .ireturn, 1, 0, 0)]
def E_m110 : E_MI := (9, ⟨E_R9, "lengthOf", "(I)I"⟩, prog_11_method_3_code, 2, (Option.some FieldType.int), false, 1, E_c110)
def E_c111 : List E_C := [(0, .iload_n 1, 1, 0, 0), (1, .ifCond .lt 34, 3, 0, 0), (4, .iload_n 1, 1, 0, 0), (5, .aload_n 0, 1, 0, 0), (6, .getfield 11, 3, 9, 0), (9, .arraylength, 1, 0, 0), (10, .if_icmp .ge 25, 3, 0, 0), (13, .iload_n 2, 1, 0, 0), (14, .aload_n 0, 1, 0, 0), (15, .iload_n 1, 1, 0, 0), (16, .invokevirtual 24, 3, 110, 0), (19, .if_icmp .ge 16, 3, 0, 0), (22, .aload_n 0, 1, 0, 0), (23, .getfield 11, 3, 9, 0), (26, .iload_n 1, 1, 0, 0), (27, .aaload, 1, 0, 0), (28, .iload_n 2, 1, 0, 0), (29, .invokestatic 28, 3, 163, 1), (32, .goto 4, 3, 0, 0), (35, .iconst (-1), 1, 0, 0), (36, .ireturn, 1, 0, 0)]
def E_m111 : E_MI := (9, ⟨E_R9, "signAt", "(II)I"⟩, prog_11_method_4_code, 3, (Option.some FieldType.int), false, 2, E_c111)
def E_c112 : List E_C := [(0, .iconst 0, 1, 0, 0), (1, .istore_n 3, 1, 0, 0), (2, .iload_n 3, 1, 0, 0), (3, .aload_n 0, 1, 0, 0), (4, .getfield 20, 3, 9, 2), (7, .if_icmp .ge 19, 3, 0, 0), (10, .aload_n 0, 1, 0, 0), (11, .iload_n 3, 1, 0, 0), (12, .aload_n 1, 1, 0, 0), (13, .iload_n 2, 1, 0, 0), (14, .invokevirtual 32, 3, 115, 0), (17, .ifCond .ge 9, 3, 0, 0), (20, .iinc 3 1, 3, 0, 0), (23, .goto (-21), 3, 0, 0), (26, .iload_n 3, 1, 0, 0), (27, .aload_n 0, 1, 0, 0), (28, .getfield 20, 3, 9, 2), (31, .if_icmp .ge 15, 3, 0, 0), (34, .aload_n 0, 1, 0, 0), (35, .iload_n 3, 1, 0, 0), (36, .aload_n 1, 1, 0, 0), (37, .iload_n 2, 1, 0, 0), (38, .invokevirtual 32, 3, 115, 0), (41, .ifCond .ne 5, 3, 0, 0), (44, .iconst 1, 1, 0, 0), (45, .ireturn, 1, 0, 0), (46, .aload_n 0, 1, 0, 0), (47, .getfield 20, 3, 9, 2), (50, .bipush 8, 2, 0, 0), (52, .if_icmp .ge 19, 3, 0, 0), (55, .iload_n 2, 1, 0, 0), (56, .ifCond .lt 15, 3, 0, 0), (59, .iload_n 2, 1, 0, 0), (60, .bipush 60, 2, 0, 0), (62, .if_icmp .gt 9, 3, 0, 0), (65, .iload_n 2, 1, 0, 0), (66, .aload_n 1, 1, 0, 0), (67, .arraylength, 1, 0, 0), (68, .if_icmp .le 5, 3, 0, 0), (71, .iconst 0, 1, 0, 0), (72, .ireturn, 1, 0, 0), (73, .aload_n 0, 1, 0, 0), (74, .getfield 20, 3, 9, 2), (77, .istore 4, 2, 0, 0), (79, .iload 4, 2, 0, 0), (81, .iload_n 3, 1, 0, 0), (82, .if_icmp .le 17, 3, 0, 0), (85, .aload_n 0, 1, 0, 0), (86, .iload 4, 2, 0, 0), (88, .iconst 1, 1, 0, 0), (89, .isub, 1, 0, 0), (90, .invokevirtual 36, 3, 116, 0), (93, .iinc 4 (-1), 3, 0, 0), (96, .goto (-17), 3, 0, 0), (99, .aload_n 0, 1, 0, 0), (100, .dup, 1, 0, 0), (101, .getfield 20, 3, 9, 2), (104, .iconst 1, 1, 0, 0), (105, .iadd, 1, 0, 0), (106, .putfield 20, 3, 9, 2), (109, .aload_n 0, 1, 0, 0), (110, .iload_n 3, 1, 0, 0), (111, .aload_n 1, 1, 0, 0), (112, .iload_n 2, 1, 0, 0), (113, .invokevirtual 40, 3, 117, 0), (116, .iconst 1, 1, 0, 0), (117, .ireturn, 1, 0, 0)]
def E_m112 : E_MI := (9, ⟨E_R9, "put", "([BI)Z"⟩, prog_11_method_5_code, 5, (Option.some FieldType.boolean), false, 2, E_c112)
def E_c113 : List E_C := [(0, .iload_n 3, 1, 0, 0), (1, .istore 4, 2, 0, 0), (3, .iconst 0, 1, 0, 0), (4, .istore 5, 2, 0, 0), (6, .iload 5, 2, 0, 0), (8, .aload_n 0, 1, 0, 0), (9, .iload_n 1, 1, 0, 0), (10, .invokevirtual 24, 3, 110, 0), (13, .if_icmp .ge 36, 3, 0, 0), (16, .iload 4, 2, 0, 0), (18, .ifCond .lt 31, 3, 0, 0), (21, .iload 4, 2, 0, 0), (23, .aload_n 2, 1, 0, 0), (24, .arraylength, 1, 0, 0), (25, .if_icmp .ge 24, 3, 0, 0), (28, .aload_n 2, 1, 0, 0), (29, .iload 4, 2, 0, 0), (31, .aload_n 0, 1, 0, 0), (32, .iload_n 1, 1, 0, 0), (33, .iload 5, 2, 0, 0), (35, .invokevirtual 44, 3, 111, 0), (38, .i2b, 1, 0, 0), (39, .bastore, 1, 0, 0), (40, .iinc 4 1, 3, 0, 0), (43, .iinc 5 1, 3, 0, 0), (46, .goto (-40), 3, 0, 0), (49, .iload 4, 2, 0, 0), (51, .ireturn, 1, 0, 0)]
def E_m113 : E_MI := (9, ⟨E_R9, "copyTo", "(I[BI)I"⟩, prog_11_method_6_code, 6, (Option.some FieldType.int), false, 3, E_c113)
def E_c114 : List E_C := [(0, .aload_n 0, 1, 0, 0), (1, .iconst 0, 1, 0, 0), (2, .putfield 20, 3, 9, 2), (5, .iconst 0, 1, 0, 0), (6, .istore_n 2, 1, 0, 0), (7, .iload_n 2, 1, 0, 0), (8, .aload_n 1, 1, 0, 0), (9, .getfield 20, 3, 9, 2), (12, .if_icmp .ge 55, 3, 0, 0), (15, .iload_n 2, 1, 0, 0), (16, .aload_n 0, 1, 0, 0), (17, .getfield 11, 3, 9, 0), (20, .arraylength, 1, 0, 0), (21, .if_icmp .ge 46, 3, 0, 0), (24, .iload_n 2, 1, 0, 0), (25, .aload_n 0, 1, 0, 0), (26, .getfield 16, 3, 9, 1), (29, .arraylength, 1, 0, 0), (30, .if_icmp .ge 37, 3, 0, 0), (33, .aload_n 0, 1, 0, 0), (34, .getfield 16, 3, 9, 1), (37, .iload_n 2, 1, 0, 0), (38, .aload_n 1, 1, 0, 0), (39, .iload_n 2, 1, 0, 0), (40, .aload_n 0, 1, 0, 0), (41, .getfield 11, 3, 9, 0), (44, .iload_n 2, 1, 0, 0), (45, .aaload, 1, 0, 0), (46, .iconst 0, 1, 0, 0), (47, .invokevirtual 48, 3, 113, 0), (50, .iastore, 1, 0, 0), (51, .aload_n 0, 1, 0, 0), (52, .dup, 1, 0, 0), (53, .getfield 20, 3, 9, 2), (56, .iconst 1, 1, 0, 0), (57, .iadd, 1, 0, 0), (58, .putfield 20, 3, 9, 2), (61, .iinc 2 1, 3, 0, 0), (64, .goto (-57), 3, 0, 0), (67, .return_, 1, 0, 0)]
def E_m114 : E_MI := (9, ⟨E_R9, "copyFrom", "(LGramFinder$Texts;)V"⟩, prog_11_method_7_code, 3, (Option.none : Option FieldType), false, 1, E_c114)
def E_c115 : List E_C := [(0, .iconst 0, 1, 0, 0), (1, .istore 4, 2, 0, 0), (3, .iload 4, 2, 0, 0), (5, .aload_n 0, 1, 0, 0), (6, .iload_n 1, 1, 0, 0), (7, .invokevirtual 24, 3, 110, 0), (10, .if_icmp .ge 39, 3, 0, 0), (13, .iload 4, 2, 0, 0), (15, .iload_n 3, 1, 0, 0), (16, .if_icmp .ge 33, 3, 0, 0), (19, .aload_n 0, 1, 0, 0), (20, .iload_n 1, 1, 0, 0), (21, .iload 4, 2, 0, 0), (23, .invokevirtual 44, 3, 111, 0), (26, .aload_n 2, 1, 0, 0), (27, .iload 4, 2, 0, 0), (29, .invokestatic 28, 3, 163, 1), (32, .isub, 1, 0, 0), (33, .istore 5, 2, 0, 0), (35, .iload 5, 2, 0, 0), (37, .ifCond .eq 6, 3, 0, 0), (40, .iload 5, 2, 0, 0), (42, .ireturn, 1, 0, 0), (43, .iinc 4 1, 3, 0, 0), (46, .goto (-43), 3, 0, 0), (49, .aload_n 0, 1, 0, 0), (50, .iload_n 1, 1, 0, 0), (51, .invokevirtual 24, 3, 110, 0), (54, .iload_n 3, 1, 0, 0), (55, .isub, 1, 0, 0), (56, .ireturn, 1, 0, 0)]
def E_m115 : E_MI := (9, ⟨E_R9, "compare", "(I[BI)I"⟩, prog_11_method_8_code, 6, (Option.some FieldType.int), false, 3, E_c115)
def E_c116 : List E_C := [(0, .iload_n 1, 1, 0, 0), (1, .ifCond .lt 62, 3, 0, 0), (4, .iload_n 1, 1, 0, 0), (5, .iconst 1, 1, 0, 0), (6, .iadd, 1, 0, 0), (7, .aload_n 0, 1, 0, 0), (8, .getfield 11, 3, 9, 0), (11, .arraylength, 1, 0, 0), (12, .if_icmp .ge 51, 3, 0, 0), (15, .aload_n 0, 1, 0, 0), (16, .getfield 11, 3, 9, 0), (19, .iload_n 1, 1, 0, 0), (20, .iconst 1, 1, 0, 0), (21, .iadd, 1, 0, 0), (22, .aaload, 1, 0, 0), (23, .astore_n 2, 1, 0, 0), (24, .aload_n 0, 1, 0, 0), (25, .getfield 11, 3, 9, 0), (28, .iload_n 1, 1, 0, 0), (29, .iconst 1, 1, 0, 0), (30, .iadd, 1, 0, 0), (31, .aload_n 0, 1, 0, 0), (32, .getfield 11, 3, 9, 0), (35, .iload_n 1, 1, 0, 0), (36, .aaload, 1, 0, 0), (37, .aastore, 1, 0, 0), (38, .aload_n 0, 1, 0, 0), (39, .getfield 11, 3, 9, 0), (42, .iload_n 1, 1, 0, 0), (43, .aload_n 2, 1, 0, 0), (44, .aastore, 1, 0, 0), (45, .aload_n 0, 1, 0, 0), (46, .getfield 16, 3, 9, 1), (49, .iload_n 1, 1, 0, 0), (50, .iconst 1, 1, 0, 0), (51, .iadd, 1, 0, 0), (52, .aload_n 0, 1, 0, 0), (53, .getfield 16, 3, 9, 1), (56, .iload_n 1, 1, 0, 0), (57, .invokestatic 51, 3, 164, 1), (60, .invokestatic 55, 3, 165, 1), (63, .return_, 1, 0, 0)]
def E_m116 : E_MI := (9, ⟨E_R9, "moveUp", "(I)V"⟩, prog_11_method_9_code, 3, (Option.none : Option FieldType), false, 1, E_c116)
def E_c117 : List E_C := [(0, .iload_n 1, 1, 0, 0), (1, .ifCond .lt 55, 3, 0, 0), (4, .iload_n 1, 1, 0, 0), (5, .aload_n 0, 1, 0, 0), (6, .getfield 11, 3, 9, 0), (9, .arraylength, 1, 0, 0), (10, .if_icmp .ge 46, 3, 0, 0), (13, .iload_n 3, 1, 0, 0), (14, .ifCond .lt 42, 3, 0, 0), (17, .iload_n 3, 1, 0, 0), (18, .aload_n 2, 1, 0, 0), (19, .arraylength, 1, 0, 0), (20, .if_icmp .gt 36, 3, 0, 0), (23, .iload_n 3, 1, 0, 0), (24, .aload_n 0, 1, 0, 0), (25, .getfield 11, 3, 9, 0), (28, .iload_n 1, 1, 0, 0), (29, .aaload, 1, 0, 0), (30, .arraylength, 1, 0, 0), (31, .if_icmp .gt 25, 3, 0, 0), (34, .aload_n 2, 1, 0, 0), (35, .iconst 0, 1, 0, 0), (36, .aload_n 0, 1, 0, 0), (37, .getfield 11, 3, 9, 0), (40, .iload_n 1, 1, 0, 0), (41, .aaload, 1, 0, 0), (42, .iconst 0, 1, 0, 0), (43, .iload_n 3, 1, 0, 0), (44, .invokestatic 59, 3, 998, 0), (47, .aload_n 0, 1, 0, 0), (48, .getfield 16, 3, 9, 1), (51, .iload_n 1, 1, 0, 0), (52, .iload_n 3, 1, 0, 0), (53, .invokestatic 55, 3, 165, 1), (56, .return_, 1, 0, 0)]
def E_m117 : E_MI := (9, ⟨E_R9, "write", "(I[BI)V"⟩, prog_11_method_10_code, 4, (Option.none : Option FieldType), false, 3, E_c117)
def E_c118 : List E_C := [(0, .aload_n 0, 1, 0, 0), (1, .invokespecial 3, 3, 999, 0), (4, .aload_n 0, 1, 0, 0), (5, .sipush 168, 3, 0, 0), (8, .newarray .int, 2, 0, 0), (10, .putfield 9, 3, 10, 0), (13, .aload_n 0, 1, 0, 0), (14, .sipush 168, 3, 0, 0), (17, .newarray .int, 2, 0, 0), (19, .putfield 15, 3, 10, 1), (22, .aload_n 0, 1, 0, 0), (23, .sipush 168, 3, 0, 0), (26, .newarray .int, 2, 0, 0), (28, .putfield 18, 3, 10, 2), (31, .aload_n 0, 1, 0, 0), (32, .sipush 168, 3, 0, 0), (35, .newarray .int, 2, 0, 0), (37, .putfield 21, 3, 10, 3), (40, .aload_n 0, 1, 0, 0), (41, .sipush 168, 3, 0, 0), (44, .newarray .int, 2, 0, 0), (46, .putfield 24, 3, 10, 4), (49, .aload_n 0, 1, 0, 0), (50, .sipush 168, 3, 0, 0), (53, .newarray .int, 2, 0, 0), (55, .putfield 27, 3, 10, 5), (58, .aload_n 0, 1, 0, 0), (59, .sipush 168, 3, 0, 0), (62, .newarray .int, 2, 0, 0), (64, .putfield 30, 3, 10, 6), (67, .aload_n 0, 1, 0, 0), (68, .sipush 168, 3, 0, 0), (71, .newarray .int, 2, 0, 0), (73, .putfield 33, 3, 10, 7), (76, .aload_n 0, 1, 0, 0), (77, .sipush 168, 3, 0, 0), (80, .newarray .int, 2, 0, 0), (82, .putfield 36, 3, 10, 8), (85, .aload_n 0, 1, 0, 0), (86, .sipush 320, 3, 0, 0), (89, .newarray .long, 2, 3, 0), (91, .putfield 39, 3, 10, 9), (94, .return_, 1, 0, 0)]
def E_m118 : E_MI := (10, ⟨E_R10, "<init>", "()V"⟩, prog_12_method_1_code, 1, (Option.none : Option FieldType), false, 0, E_c118)
def E_c119 : List E_C := [(0, .aload_n 0, 1, 0, 0), (1, .iconst 0, 1, 0, 0), (2, .putfield 43, 3, 10, 10), (5, .aload_n 0, 1, 0, 0), (6, .iconst 0, 1, 0, 0), (7, .putfield 47, 3, 10, 11), (10, .return_, 1, 0, 0)]
def E_m119 : E_MI := (10, ⟨E_R10, "clear", "()V"⟩, prog_12_method_2_code, 1, (Option.none : Option FieldType), false, 0, E_c119)
def E_c120 : List E_C := [(0, .iconst 0, 1, 0, 0), (1, .ireturn, 1, 0, 0)]
def E_m120 : E_MI := (10, ⟨E_R10, "root", "()I"⟩, prog_12_method_3_code, 1, (Option.some FieldType.int), false, 0, E_c120)
def E_c121 : List E_C := [(0, .aload_n 0, 1, 0, 0), (1, .getfield 43, 3, 10, 10), (4, .istore_n 3, 1, 0, 0), (5, .iload_n 3, 1, 0, 0), (6, .sipush 168, 3, 0, 0), (9, .if_icmp .lt 5, 3, 0, 0), (12, .iconst (-1), 1, 0, 0), (13, .ireturn, 1, 0, 0), (14, .aload_n 0, 1, 0, 0), (15, .dup, 1, 0, 0), (16, .getfield 43, 3, 10, 10), (19, .iconst 1, 1, 0, 0), (20, .iadd, 1, 0, 0), (21, .putfield 43, 3, 10, 10), (24, .aload_n 0, 1, 0, 0), (25, .getfield 9, 3, 10, 0), (28, .iload_n 3, 1, 0, 0), (29, .iload_n 1, 1, 0, 0), (30, .invokestatic 50, 3, 165, 1), (33, .aload_n 0, 1, 0, 0), (34, .getfield 15, 3, 10, 1), (37, .iload_n 3, 1, 0, 0), (38, .iconst (-1), 1, 0, 0), (39, .invokestatic 50, 3, 165, 1), (42, .aload_n 0, 1, 0, 0), (43, .getfield 18, 3, 10, 2), (46, .iload_n 3, 1, 0, 0), (47, .iconst (-1), 1, 0, 0), (48, .invokestatic 50, 3, 165, 1), (51, .aload_n 0, 1, 0, 0), (52, .getfield 21, 3, 10, 3), (55, .iload_n 3, 1, 0, 0), (56, .iconst (-1), 1, 0, 0), (57, .invokestatic 50, 3, 165, 1), (60, .aload_n 0, 1, 0, 0), (61, .getfield 24, 3, 10, 4), (64, .iload_n 3, 1, 0, 0), (65, .iconst (-1), 1, 0, 0), (66, .invokestatic 50, 3, 165, 1), (69, .aload_n 0, 1, 0, 0), (70, .getfield 33, 3, 10, 7), (73, .iload_n 3, 1, 0, 0), (74, .iconst (-1), 1, 0, 0), (75, .invokestatic 50, 3, 165, 1), (78, .aload_n 0, 1, 0, 0), (79, .getfield 36, 3, 10, 8), (82, .iload_n 3, 1, 0, 0), (83, .iload_n 2, 1, 0, 0), (84, .invokestatic 50, 3, 165, 1), (87, .iload_n 3, 1, 0, 0), (88, .ireturn, 1, 0, 0)]
def E_m121 : E_MI := (10, ⟨E_R10, "newNode", "(II)I"⟩, prog_12_method_4_code, 4, (Option.some FieldType.int), false, 2, E_c121)
def E_c122 : List E_C := [(0, .aload_n 0, 1, 0, 0), (1, .iconst 2, 1, 0, 0), (2, .iload 4, 2, 0, 0), (4, .ldc 54, 2, 0, 0), (6, .invokestatic 55, 3, 289, 0), (9, .invokevirtual 61, 3, 121, 0), (12, .istore 5, 2, 0, 0), (14, .aload_n 0, 1, 0, 0), (15, .getfield 15, 3, 10, 1), (18, .iload 5, 2, 0, 0), (20, .iload_n 1, 1, 0, 0), (21, .invokestatic 50, 3, 165, 1), (24, .aload_n 0, 1, 0, 0), (25, .getfield 27, 3, 10, 5), (28, .iload 5, 2, 0, 0), (30, .iload_n 2, 1, 0, 0), (31, .invokestatic 50, 3, 165, 1), (34, .aload_n 0, 1, 0, 0), (35, .getfield 30, 3, 10, 6), (38, .iload 5, 2, 0, 0), (40, .iload_n 3, 1, 0, 0), (41, .invokestatic 50, 3, 165, 1), (44, .iload 5, 2, 0, 0), (46, .ireturn, 1, 0, 0)]
def E_m122 : E_MI := (10, ⟨E_R10, "newRepeat", "(IIII)I"⟩, prog_12_method_5_code, 6, (Option.some FieldType.int), false, 4, E_c122)
def E_c123 : List E_C := [(0, .aload_n 0, 1, 0, 0), (1, .iconst 3, 1, 0, 0), (2, .iconst 1, 1, 0, 0), (3, .invokevirtual 61, 3, 121, 0), (6, .istore_n 2, 1, 0, 0), (7, .aload_n 0, 1, 0, 0), (8, .getfield 33, 3, 10, 7), (11, .iload_n 2, 1, 0, 0), (12, .iload_n 1, 1, 0, 0), (13, .invokestatic 50, 3, 165, 1), (16, .iload_n 2, 1, 0, 0), (17, .ireturn, 1, 0, 0)]
def E_m123 : E_MI := (10, ⟨E_R10, "newBytes", "(I)I"⟩, prog_12_method_6_code, 3, (Option.some FieldType.int), false, 1, E_c123)
def E_c124 : List E_C := [(0, .aload_n 0, 1, 0, 0), (1, .iload_n 1, 1, 0, 0), (2, .invokevirtual 64, 3, 128, 0), (5, .istore_n 3, 1, 0, 0), (6, .aload_n 0, 1, 0, 0), (7, .getfield 24, 3, 10, 4), (10, .iload_n 2, 1, 0, 0), (11, .iload_n 3, 1, 0, 0), (12, .invokestatic 50, 3, 165, 1), (15, .aload_n 0, 1, 0, 0), (16, .getfield 18, 3, 10, 2), (19, .iload_n 1, 1, 0, 0), (20, .iload_n 2, 1, 0, 0), (21, .invokestatic 50, 3, 165, 1), (24, .iload_n 3, 1, 0, 0), (25, .iconst (-1), 1, 0, 0), (26, .if_icmp .ne 15, 3, 0, 0), (29, .aload_n 0, 1, 0, 0), (30, .getfield 15, 3, 10, 1), (33, .iload_n 1, 1, 0, 0), (34, .iload_n 2, 1, 0, 0), (35, .invokestatic 50, 3, 165, 1), (38, .goto 12, 3, 0, 0), (41, .aload_n 0, 1, 0, 0), (42, .getfield 21, 3, 10, 3), (45, .iload_n 3, 1, 0, 0), (46, .iload_n 2, 1, 0, 0), (47, .invokestatic 50, 3, 165, 1), (50, .aload_n 0, 1, 0, 0), (51, .iload_n 1, 1, 0, 0), (52, .aload_n 0, 1, 0, 0), (53, .iload_n 2, 1, 0, 0), (54, .invokevirtual 68, 3, 134, 0), (57, .invokevirtual 71, 3, 125, 0), (60, .return_, 1, 0, 0)]
def E_m124 : E_MI := (10, ⟨E_R10, "append", "(II)V"⟩, prog_12_method_7_code, 4, (Option.none : Option FieldType), false, 2, E_c124)
def E_c125 : List E_C := [(0, .aload_n 0, 1, 0, 0), (1, .getfield 36, 3, 10, 8), (4, .iload_n 1, 1, 0, 0), (5, .aload_n 0, 1, 0, 0), (6, .iload_n 1, 1, 0, 0), (7, .invokevirtual 68, 3, 134, 0), (10, .iload_n 2, 1, 0, 0), (11, .iadd, 1, 0, 0), (12, .ldc 54, 2, 0, 0), (14, .invokestatic 55, 3, 289, 0), (17, .invokestatic 50, 3, 165, 1), (20, .return_, 1, 0, 0)]
def E_m125 : E_MI := (10, ⟨E_R10, "grow", "(II)V"⟩, prog_12_method_8_code, 3, (Option.none : Option FieldType), false, 2, E_c125)
def E_c126 : List E_C := [(0, .aload_n 0, 1, 0, 0), (1, .getfield 9, 3, 10, 0), (4, .iload_n 1, 1, 0, 0), (5, .invokestatic 75, 3, 164, 1), (8, .ireturn, 1, 0, 0)]
def E_m126 : E_MI := (10, ⟨E_R10, "kindOf", "(I)I"⟩, prog_12_method_9_code, 2, (Option.some FieldType.int), false, 1, E_c126)
def E_c127 : List E_C := [(0, .aload_n 0, 1, 0, 0), (1, .getfield 15, 3, 10, 1), (4, .iload_n 1, 1, 0, 0), (5, .invokestatic 75, 3, 164, 1), (8, .ireturn, 1, 0, 0)]
def E_m127 : E_MI := (10, ⟨E_R10, "firstOf", "(I)I"⟩, prog_12_method_10_code, 2, (Option.some FieldType.int), false, 1, E_c127)
def E_c128 : List E_C := [(0, .aload_n 0, 1, 0, 0), (1, .getfield 18, 3, 10, 2), (4, .iload_n 1, 1, 0, 0), (5, .invokestatic 75, 3, 164, 1), (8, .ireturn, 1, 0, 0)]
def E_m128 : E_MI := (10, ⟨E_R10, "lastOf", "(I)I"⟩, prog_12_method_11_code, 2, (Option.some FieldType.int), false, 1, E_c128)
def E_c129 : List E_C := [(0, .aload_n 0, 1, 0, 0), (1, .getfield 21, 3, 10, 3), (4, .iload_n 1, 1, 0, 0), (5, .invokestatic 75, 3, 164, 1), (8, .ireturn, 1, 0, 0)]
def E_m129 : E_MI := (10, ⟨E_R10, "nextOf", "(I)I"⟩, prog_12_method_12_code, 2, (Option.some FieldType.int), false, 1, E_c129)
def E_c130 : List E_C := [(0, .aload_n 0, 1, 0, 0), (1, .getfield 24, 3, 10, 4), (4, .iload_n 1, 1, 0, 0), (5, .invokestatic 75, 3, 164, 1), (8, .ireturn, 1, 0, 0)]
def E_m130 : E_MI := (10, ⟨E_R10, "beforeOf", "(I)I"⟩, prog_12_method_13_code, 2, (Option.some FieldType.int), false, 1, E_c130)
def E_c131 : List E_C := [(0, .aload_n 0, 1, 0, 0), (1, .getfield 27, 3, 10, 5), (4, .iload_n 1, 1, 0, 0), (5, .invokestatic 75, 3, 164, 1), (8, .ireturn, 1, 0, 0)]
def E_m131 : E_MI := (10, ⟨E_R10, "lowOf", "(I)I"⟩, prog_12_method_14_code, 2, (Option.some FieldType.int), false, 1, E_c131)
def E_c132 : List E_C := [(0, .aload_n 0, 1, 0, 0), (1, .getfield 30, 3, 10, 6), (4, .iload_n 1, 1, 0, 0), (5, .invokestatic 75, 3, 164, 1), (8, .ireturn, 1, 0, 0)]
def E_m132 : E_MI := (10, ⟨E_R10, "highOf", "(I)I"⟩, prog_12_method_15_code, 2, (Option.some FieldType.int), false, 1, E_c132)
def E_c133 : List E_C := [(0, .aload_n 0, 1, 0, 0), (1, .getfield 33, 3, 10, 7), (4, .iload_n 1, 1, 0, 0), (5, .invokestatic 75, 3, 164, 1), (8, .ireturn, 1, 0, 0)]
def E_m133 : E_MI := (10, ⟨E_R10, "setOf", "(I)I"⟩, prog_12_method_16_code, 2, (Option.some FieldType.int), false, 1, E_c133)
def E_c134 : List E_C := [(0, .iconst 0, 1, 0, 0), (1, .aload_n 0, 1, 0, 0), (2, .getfield 36, 3, 10, 8), (5, .iload_n 1, 1, 0, 0), (6, .invokestatic 75, 3, 164, 1), (9, .invokestatic 79, 3, 288, 0), (12, .ireturn, 1, 0, 0)]
def E_m134 : E_MI := (10, ⟨E_R10, "sizeOf", "(I)I"⟩, prog_12_method_17_code, 2, (Option.some FieldType.int), false, 1, E_c134)
def E_c135 : List E_C := [(0, .aload_n 0, 1, 0, 0), (1, .getfield 47, 3, 10, 11), (4, .istore_n 1, 1, 0, 0), (5, .iload_n 1, 1, 0, 0), (6, .bipush 80, 2, 0, 0), (8, .if_icmp .lt 5, 3, 0, 0), (11, .iconst (-1), 1, 0, 0), (12, .ireturn, 1, 0, 0), (13, .aload_n 0, 1, 0, 0), (14, .dup, 1, 0, 0), (15, .getfield 47, 3, 10, 11), (18, .iconst 1, 1, 0, 0), (19, .iadd, 1, 0, 0), (20, .putfield 47, 3, 10, 11), (23, .aload_n 0, 1, 0, 0), (24, .getfield 39, 3, 10, 9), (27, .iconst 4, 1, 0, 0), (28, .iload_n 1, 1, 0, 0), (29, .imul, 1, 0, 0), (30, .iconst 4, 1, 0, 0), (31, .iload_n 1, 1, 0, 0), (32, .imul, 1, 0, 0), (33, .iconst 4, 1, 0, 0), (34, .iadd, 1, 0, 0), (35, .lconst 0, 1, 0, 0), (36, .invokestatic 82, 3, 291, 0), (39, .iload_n 1, 1, 0, 0), (40, .ireturn, 1, 0, 0)]
def E_m135 : E_MI := (10, ⟨E_R10, "newSet", "()I"⟩, prog_12_method_18_code, 2, (Option.some FieldType.int), false, 0, E_c135)
def E_c136 : List E_C := [(0, .aload_n 0, 1, 0, 0), (1, .iload_n 1, 1, 0, 0), (2, .iload_n 2, 1, 0, 0), (3, .invokevirtual 88, 3, 143, 0), (6, .istore_n 3, 1, 0, 0), (7, .iload_n 3, 1, 0, 0), (8, .iconst (-1), 1, 0, 0), (9, .if_icmp .eq 25, 3, 0, 0), (12, .aload_n 0, 1, 0, 0), (13, .getfield 39, 3, 10, 9), (16, .iload_n 3, 1, 0, 0), (17, .laload, 1, 0, 0), (18, .iload_n 2, 1, 0, 0), (19, .bipush 63, 2, 0, 0), (21, .iand, 1, 0, 0), (22, .lushr, 1, 0, 0), (23, .lconst 1, 1, 0, 0), (24, .land, 1, 0, 0), (25, .lconst 0, 1, 0, 0), (26, .lcmp, 1, 0, 0), (27, .ifCond .eq 7, 3, 0, 0), (30, .iconst 1, 1, 0, 0), (31, .goto 4, 3, 0, 0), (34, .iconst 0, 1, 0, 0), (35, .ireturn, 1, 0, 0)]
def E_m136 : E_MI := (10, ⟨E_R10, "contains", "(II)Z"⟩, prog_12_method_19_code, 4, (Option.some FieldType.boolean), false, 2, E_c136)
def E_c137 : List E_C := [(0, .iconst 0, 1, 0, 0), (1, .iload_n 2, 1, 0, 0), (2, .invokestatic 79, 3, 288, 0), (5, .istore_n 3, 1, 0, 0), (6, .iload_n 3, 1, 0, 0), (7, .sipush 256, 3, 0, 0), (10, .if_icmp .ge 60, 3, 0, 0), (13, .aload_n 0, 1, 0, 0), (14, .iload_n 1, 1, 0, 0), (15, .iload_n 3, 1, 0, 0), (16, .invokevirtual 88, 3, 143, 0), (19, .istore 4, 2, 0, 0), (21, .iload 4, 2, 0, 0), (23, .iconst (-1), 1, 0, 0), (24, .if_icmp .ne 7, 3, 0, 0), (27, .lconst 0, 1, 0, 0), (28, .goto 15, 3, 0, 0), (31, .aload_n 0, 1, 0, 0), (32, .getfield 39, 3, 10, 9), (35, .iload 4, 2, 0, 0), (37, .laload, 1, 0, 0), (38, .iload_n 3, 1, 0, 0), (39, .bipush 63, 2, 0, 0), (41, .iand, 1, 0, 0), (42, .lushr, 1, 0, 0), (43, .lstore 5, 2, 0, 0), (45, .lload 5, 2, 0, 0), (47, .lconst 0, 1, 0, 0), (48, .lcmp, 1, 0, 0), (49, .ifCond .eq 11, 3, 0, 0), (52, .iload_n 3, 1, 0, 0), (53, .lload 5, 2, 0, 0), (55, .invokestatic 91, 3, 287, 0), (58, .iadd, 1, 0, 0), (59, .ireturn, 1, 0, 0), (60, .iload_n 3, 1, 0, 0), (61, .bipush 63, 2, 0, 0), (63, .ior, 1, 0, 0), (64, .iconst 1, 1, 0, 0), (65, .iadd, 1, 0, 0), (66, .istore_n 3, 1, 0, 0), (67, .goto (-61), 3, 0, 0), (70, .iconst (-1), 1, 0, 0), (71, .ireturn, 1, 0, 0)]
def E_m137 : E_MI := (10, ⟨E_R10, "nextIn", "(II)I"⟩, prog_12_method_20_code, 7, (Option.some FieldType.int), false, 2, E_c137)
def E_c138 : List E_C := [(0, .aload_n 0, 1, 0, 0), (1, .iload_n 1, 1, 0, 0), (2, .iload_n 2, 1, 0, 0), (3, .invokevirtual 88, 3, 143, 0), (6, .istore_n 3, 1, 0, 0), (7, .iload_n 3, 1, 0, 0), (8, .iconst (-1), 1, 0, 0), (9, .if_icmp .eq 18, 3, 0, 0), (12, .aload_n 0, 1, 0, 0), (13, .getfield 39, 3, 10, 9), (16, .iload_n 3, 1, 0, 0), (17, .dup2, 1, 0, 0), (18, .laload, 1, 0, 0), (19, .lconst 1, 1, 0, 0), (20, .iload_n 2, 1, 0, 0), (21, .bipush 63, 2, 0, 0), (23, .iand, 1, 0, 0), (24, .lshl, 1, 0, 0), (25, .lor, 1, 0, 0), (26, .lastore, 1, 0, 0), (27, .return_, 1, 0, 0)]
def E_m138 : E_MI := (10, ⟨E_R10, "include", "(II)V"⟩, prog_12_method_21_code, 4, (Option.none : Option FieldType), false, 2, E_c138)
def E_c139 : List E_C := [(0, .iload_n 2, 1, 0, 0), (1, .istore 4, 2, 0, 0), (3, .iload 4, 2, 0, 0), (5, .iload_n 3, 1, 0, 0), (6, .if_icmp .gt 24, 3, 0, 0), (9, .iload 4, 2, 0, 0), (11, .sipush 256, 3, 0, 0), (14, .if_icmp .ge 16, 3, 0, 0), (17, .aload_n 0, 1, 0, 0), (18, .iload_n 1, 1, 0, 0), (19, .iload 4, 2, 0, 0), (21, .invokevirtual 97, 3, 138, 0), (24, .iinc 4 1, 3, 0, 0), (27, .goto (-24), 3, 0, 0), (30, .return_, 1, 0, 0)]
def E_m139 : E_MI := (10, ⟨E_R10, "includeRange", "(III)V"⟩, prog_12_method_22_code, 5, (Option.none : Option FieldType), false, 3, E_c139)
def E_c140 : List E_C := [(0, .iconst 0, 1, 0, 0), (1, .istore_n 3, 1, 0, 0), (2, .iload_n 3, 1, 0, 0), (3, .sipush 256, 3, 0, 0), (6, .if_icmp .ge 54, 3, 0, 0), (9, .iload_n 2, 1, 0, 0), (10, .bipush 100, 2, 0, 0), (12, .if_icmp .ne 10, 3, 0, 0), (15, .iload_n 3, 1, 0, 0), (16, .invokestatic 100, 3, 166, 1), (19, .ifCond .ne 29, 3, 0, 0), (22, .iload_n 2, 1, 0, 0), (23, .bipush 119, 2, 0, 0), (25, .if_icmp .ne 10, 3, 0, 0), (28, .iload_n 3, 1, 0, 0), (29, .invokestatic 104, 3, 168, 1), (32, .ifCond .ne 16, 3, 0, 0), (35, .iload_n 2, 1, 0, 0), (36, .bipush 115, 2, 0, 0), (38, .if_icmp .ne 16, 3, 0, 0), (41, .iload_n 3, 1, 0, 0), (42, .invokestatic 107, 3, 169, 1), (45, .ifCond .eq 9, 3, 0, 0), (48, .aload_n 0, 1, 0, 0), (49, .iload_n 1, 1, 0, 0), (50, .iload_n 3, 1, 0, 0), (51, .invokevirtual 97, 3, 138, 0), (54, .iinc 3 1, 3, 0, 0), (57, .goto (-55), 3, 0, 0), (60, .return_, 1, 0, 0)]
def E_m140 : E_MI := (10, ⟨E_R10, "includeNamed", "(II)V"⟩, prog_12_method_23_code, 4, (Option.none : Option FieldType), false, 2, E_c140)
def E_c141 : List E_C := [(0, .bipush 97, 2, 0, 0), (2, .istore_n 2, 1, 0, 0), (3, .iload_n 2, 1, 0, 0), (4, .bipush 122, 2, 0, 0), (6, .if_icmp .gt 47, 3, 0, 0), (9, .iload_n 2, 1, 0, 0), (10, .bipush 97, 2, 0, 0), (12, .isub, 1, 0, 0), (13, .bipush 65, 2, 0, 0), (15, .iadd, 1, 0, 0), (16, .istore_n 3, 1, 0, 0), (17, .aload_n 0, 1, 0, 0), (18, .iload_n 1, 1, 0, 0), (19, .iload_n 2, 1, 0, 0), (20, .invokevirtual 110, 3, 136, 0), (23, .ifCond .ne 12, 3, 0, 0), (26, .aload_n 0, 1, 0, 0), (27, .iload_n 1, 1, 0, 0), (28, .iload_n 3, 1, 0, 0), (29, .invokevirtual 110, 3, 136, 0), (32, .ifCond .eq 15, 3, 0, 0), (35, .aload_n 0, 1, 0, 0), (36, .iload_n 1, 1, 0, 0), (37, .iload_n 2, 1, 0, 0), (38, .invokevirtual 97, 3, 138, 0), (41, .aload_n 0, 1, 0, 0), (42, .iload_n 1, 1, 0, 0), (43, .iload_n 3, 1, 0, 0), (44, .invokevirtual 97, 3, 138, 0), (47, .iinc 2 1, 3, 0, 0), (50, .goto (-47), 3, 0, 0), (53, .return_, 1, 0, 0)]
def E_m141 : E_MI := (10, ⟨E_R10, "foldLetters", "(I)V"⟩, prog_12_method_24_code, 4, (Option.none : Option FieldType), false, 1, E_c141)
def E_c142 : List E_C := [(0, .iconst 0, 1, 0, 0), (1, .istore_n 2, 1, 0, 0), (2, .iload_n 2, 1, 0, 0), (3, .sipush 256, 3, 0, 0), (6, .if_icmp .ge 37, 3, 0, 0), (9, .aload_n 0, 1, 0, 0), (10, .iload_n 1, 1, 0, 0), (11, .iload_n 2, 1, 0, 0), (12, .invokevirtual 88, 3, 143, 0), (15, .istore_n 3, 1, 0, 0), (16, .iload_n 3, 1, 0, 0), (17, .iconst (-1), 1, 0, 0), (18, .if_icmp .eq 19, 3, 0, 0), (21, .aload_n 0, 1, 0, 0), (22, .getfield 39, 3, 10, 9), (25, .iload_n 3, 1, 0, 0), (26, .aload_n 0, 1, 0, 0), (27, .getfield 39, 3, 10, 9), (30, .iload_n 3, 1, 0, 0), (31, .laload, 1, 0, 0), (32, .ldc2_w 114, 3, 0, 0), (35, .lxor, 1, 0, 0), (36, .lastore, 1, 0, 0), (37, .iinc 2 64, 3, 0, 0), (40, .goto (-38), 3, 0, 0), (43, .return_, 1, 0, 0)]
def E_m142 : E_MI := (10, ⟨E_R10, "invert", "(I)V"⟩, prog_12_method_25_code, 4, (Option.none : Option FieldType), false, 1, E_c142)
def E_c143 : List E_C := [(0, .iload_n 1, 1, 0, 0), (1, .ifCond .lt 14, 3, 0, 0), (4, .iload_n 2, 1, 0, 0), (5, .ifCond .lt 10, 3, 0, 0), (8, .iload_n 2, 1, 0, 0), (9, .sipush 255, 3, 0, 0), (12, .if_icmp .le 5, 3, 0, 0), (15, .iconst (-1), 1, 0, 0), (16, .ireturn, 1, 0, 0), (17, .iconst 4, 1, 0, 0), (18, .iload_n 1, 1, 0, 0), (19, .imul, 1, 0, 0), (20, .iload_n 2, 1, 0, 0), (21, .bipush 6, 2, 0, 0), (23, .ishr, 1, 0, 0), (24, .iadd, 1, 0, 0), (25, .istore_n 3, 1, 0, 0), (26, .iload_n 3, 1, 0, 0), (27, .ifCond .lt 16, 3, 0, 0), (30, .iload_n 3, 1, 0, 0), (31, .aload_n 0, 1, 0, 0), (32, .getfield 39, 3, 10, 9), (35, .arraylength, 1, 0, 0), (36, .if_icmp .ge 7, 3, 0, 0), (39, .iload_n 3, 1, 0, 0), (40, .goto 4, 3, 0, 0), (43, .iconst (-1), 1, 0, 0), (44, .ireturn, 1, 0, 0)]
def E_m143 : E_MI := (10, ⟨E_R10, "wordOf", "(II)I"⟩, prog_12_method_26_code, 4, (Option.some FieldType.int), false, 2, E_c143)
def E_c144 : List E_C := [(0, .aload_n 0, 1, 0, 0), (1, .invokespecial 3, 3, 999, 0), (4, .aload_n 0, 1, 0, 0), (5, .sipush 1000, 3, 0, 0), (8, .newarray .byte, 2, 1, 0), (10, .putfield 9, 3, 11, 0), (13, .aload_n 0, 1, 0, 0), (14, .new 13, 3, 8, 0), (17, .dup, 1, 0, 0), (18, .invokespecial 15, 3, 100, 1), (21, .putfield 16, 3, 11, 2), (24, .aload_n 0, 1, 0, 0), (25, .new 20, 3, 3, 0), (28, .dup, 1, 0, 0), (29, .invokespecial 22, 3, 31, 1), (32, .putfield 23, 3, 11, 3), (35, .aload_n 0, 1, 0, 0), (36, .new 27, 3, 5, 0), (39, .dup, 1, 0, 0), (40, .aload_n 0, 1, 0, 0), (41, .getfield 23, 3, 11, 3), (44, .getfield 29, 3, 3, 0), (47, .invokespecial 33, 3, 54, 0), (50, .putfield 36, 3, 11, 4), (53, .aload_n 0, 1, 0, 0), (54, .new 40, 3, 2, 0), (57, .dup, 1, 0, 0), (58, .aload_n 0, 1, 0, 0), (59, .getfield 23, 3, 11, 3), (62, .getfield 29, 3, 3, 0), (65, .invokespecial 42, 3, 16, 0), (68, .putfield 43, 3, 11, 5), (71, .aload_n 0, 1, 0, 0), (72, .new 47, 3, 6, 0), (75, .dup, 1, 0, 0), (76, .invokespecial 49, 3, 81, 1), (79, .putfield 50, 3, 11, 6), (82, .return_, 1, 0, 0)]
def E_m144 : E_MI := (11, ⟨E_R11, "<init>", "()V"⟩, prog_1_method_1_code, 1, (Option.none : Option FieldType), false, 0, E_c144)
def E_c145 : List E_C := [(0, .aload_n 0, 1, 0, 0), (1, .getfield 54, 3, 11, 1), (4, .bipush 20, 2, 0, 0), (6, .iadd, 1, 0, 0), (7, .sipush 1000, 3, 0, 0), (10, .if_icmp .le 5, 3, 0, 0), (13, .iconst (-1), 1, 0, 0), (14, .ireturn, 1, 0, 0), (15, .aload_n 0, 1, 0, 0), (16, .iload_n 1, 1, 0, 0), (17, .invokevirtual 58, 3, 162, 0), (20, .aload_n 0, 1, 0, 0), (21, .iload_n 2, 1, 0, 0), (22, .invokevirtual 58, 3, 162, 0), (25, .aload_n 0, 1, 0, 0), (26, .iload_n 3, 1, 0, 0), (27, .invokevirtual 58, 3, 162, 0), (30, .aload_n 0, 1, 0, 0), (31, .iload 4, 2, 0, 0), (33, .invokevirtual 58, 3, 162, 0), (36, .aload_n 0, 1, 0, 0), (37, .iload 5, 2, 0, 0), (39, .invokevirtual 58, 3, 162, 0), (42, .aload_n 0, 1, 0, 0), (43, .getfield 54, 3, 11, 1), (46, .ireturn, 1, 0, 0)]
def E_m145 : E_MI := (11, ⟨E_R11, "feed", "(IIIII)I"⟩, prog_1_method_2_code, 6, (Option.some FieldType.int), false, 5, E_c145)
def E_c146 : List E_C := [(0, .iload_n 1, 1, 0, 0), (1, .ifCond .lt 11, 3, 0, 0), (4, .iload_n 1, 1, 0, 0), (5, .aload_n 0, 1, 0, 0), (6, .getfield 54, 3, 11, 1), (9, .if_icmp .le 5, 3, 0, 0), (12, .iconst 0, 1, 0, 0), (13, .ireturn, 1, 0, 0), (14, .aload_n 0, 1, 0, 0), (15, .iload_n 1, 1, 0, 0), (16, .putfield 54, 3, 11, 1), (19, .iconst 1, 1, 0, 0), (20, .ireturn, 1, 0, 0)]
def E_m146 : E_MI := (11, ⟨E_R11, "end", "(I)Z"⟩, prog_1_method_3_code, 2, (Option.some FieldType.boolean), false, 1, E_c146)
def E_c147 : List E_C := [(0, .aload_n 0, 1, 0, 0), (1, .getfield 16, 3, 11, 2), (4, .aload_n 0, 1, 0, 0), (5, .getfield 9, 3, 11, 0), (8, .aload_n 0, 1, 0, 0), (9, .getfield 54, 3, 11, 1), (12, .invokevirtual 62, 3, 102, 0), (15, .istore_n 1, 1, 0, 0), (16, .iload_n 1, 1, 0, 0), (17, .iconst (-1), 1, 0, 0), (18, .if_icmp .eq 8, 3, 0, 0), (21, .aload_n 0, 1, 0, 0), (22, .iconst 0, 1, 0, 0), (23, .putfield 54, 3, 11, 1), (26, .iload_n 1, 1, 0, 0), (27, .ireturn, 1, 0, 0)]
def E_m147 : E_MI := (11, ⟨E_R11, "add", "()I"⟩, prog_1_method_4_code, 2, (Option.some FieldType.int), false, 0, E_c147)
def E_c148 : List E_C := [(0, .aload_n 0, 1, 0, 0), (1, .getfield 16, 3, 11, 2), (4, .iload_n 1, 1, 0, 0), (5, .aload_n 0, 1, 0, 0), (6, .getfield 9, 3, 11, 0), (9, .aload_n 0, 1, 0, 0), (10, .getfield 54, 3, 11, 1), (13, .invokevirtual 66, 3, 103, 0), (16, .istore_n 2, 1, 0, 0), (17, .iload_n 2, 1, 0, 0), (18, .iconst (-1), 1, 0, 0), (19, .if_icmp .eq 8, 3, 0, 0), (22, .aload_n 0, 1, 0, 0), (23, .iconst 0, 1, 0, 0), (24, .putfield 54, 3, 11, 1), (27, .iload_n 2, 1, 0, 0), (28, .ireturn, 1, 0, 0)]
def E_m148 : E_MI := (11, ⟨E_R11, "change", "(I)I"⟩, prog_1_method_5_code, 3, (Option.some FieldType.int), false, 1, E_c148)
def E_c149 : List E_C := [(0, .aload_n 0, 1, 0, 0), (1, .getfield 16, 3, 11, 2), (4, .iload_n 1, 1, 0, 0), (5, .invokevirtual 70, 3, 104, 0), (8, .ireturn, 1, 0, 0)]
def E_m149 : E_MI := (11, ⟨E_R11, "remove", "(I)Z"⟩, prog_1_method_6_code, 2, (Option.some FieldType.boolean), false, 1, E_c149)
def E_c150 : List E_C := [(0, .aload_n 0, 1, 0, 0), (1, .getfield 16, 3, 11, 2), (4, .iload_n 1, 1, 0, 0), (5, .invokevirtual 74, 3, 101, 0), (8, .astore_n 2, 1, 0, 0), (9, .aload_n 2, 1, 0, 0), (10, .ifnonnull 7, 3, 0, 0), (13, .iconst (-1), 1, 0, 0), (14, .goto 8, 3, 0, 0), (17, .aload_n 2, 1, 0, 0), (18, .getfield 78, 3, 0, 0), (21, .arraylength, 1, 0, 0), (22, .ireturn, 1, 0, 0)]
def E_m150 : E_MI := (11, ⟨E_R11, "size", "(I)I"⟩, prog_1_method_7_code, 3, (Option.some FieldType.int), false, 1, E_c150)
def E_c151 : List E_C := [(0, .aload_n 0, 1, 0, 0), (1, .getfield 16, 3, 11, 2), (4, .iload_n 1, 1, 0, 0), (5, .invokevirtual 74, 3, 101, 0), (8, .astore_n 3, 1, 0, 0), (9, .aload_n 3, 1, 0, 0), (10, .ifnonnull 7, 3, 0, 0), (13, .iconst (-1), 1, 0, 0), (14, .goto 11, 3, 0, 0), (17, .aload_n 3, 1, 0, 0), (18, .getfield 78, 3, 0, 0), (21, .iload_n 2, 1, 0, 0), (22, .invokestatic 83, 3, 163, 0), (25, .ireturn, 1, 0, 0)]
def E_m151 : E_MI := (11, ⟨E_R11, "byteAt", "(II)I"⟩, prog_1_method_8_code, 4, (Option.some FieldType.int), false, 2, E_c151)
def E_c152 : List E_C := [(0, .aload_n 0, 1, 0, 0), (1, .getfield 16, 3, 11, 2), (4, .iload_n 1, 1, 0, 0), (5, .iload_n 2, 1, 0, 0), (6, .invokevirtual 86, 3, 105, 0), (9, .ireturn, 1, 0, 0)]
def E_m152 : E_MI := (11, ⟨E_R11, "posting", "(II)I"⟩, prog_1_method_9_code, 3, (Option.some FieldType.int), false, 2, E_c152)
def E_c153 : List E_C := [(0, .aload_n 0, 1, 0, 0), (1, .getfield 54, 3, 11, 1), (4, .istore_n 2, 1, 0, 0), (5, .aload_n 0, 1, 0, 0), (6, .iconst 0, 1, 0, 0), (7, .putfield 54, 3, 11, 1), (10, .aload_n 0, 1, 0, 0), (11, .getfield 23, 3, 11, 3), (14, .aload_n 0, 1, 0, 0), (15, .getfield 9, 3, 11, 0), (18, .iload_n 2, 1, 0, 0), (19, .iload_n 1, 1, 0, 0), (20, .invokevirtual 90, 3, 32, 0), (23, .aload_n 0, 1, 0, 0), (24, .getfield 23, 3, 11, 3), (27, .getfield 94, 3, 3, 1), (30, .ifCond .eq 5, 3, 0, 0), (33, .iconst (-1), 1, 0, 0), (34, .ireturn, 1, 0, 0), (35, .aload_n 0, 1, 0, 0), (36, .getfield 36, 3, 11, 4), (39, .invokevirtual 97, 3, 56, 0), (42, .aload_n 0, 1, 0, 0), (43, .getfield 43, 3, 11, 5), (46, .invokevirtual 100, 3, 17, 0), (49, .aload_n 0, 1, 0, 0), (50, .getfield 50, 3, 11, 6), (53, .aload_n 0, 1, 0, 0), (54, .getfield 23, 3, 11, 3), (57, .getfield 29, 3, 3, 0), (60, .aload_n 0, 1, 0, 0), (61, .getfield 23, 3, 11, 3), (64, .getfield 29, 3, 3, 0), (67, .invokevirtual 103, 3, 120, 0), (70, .invokevirtual 109, 3, 134, 0), (73, .invokevirtual 113, 3, 82, 0), (76, .aload_n 0, 1, 0, 0), (77, .getfield 36, 3, 11, 4), (80, .invokevirtual 116, 3, 55, 0), (83, .getfield 120, 3, 4, 5), (86, .astore_n 3, 1, 0, 0), (87, .iconst 0, 1, 0, 0), (88, .istore 4, 2, 0, 0), (90, .iload 4, 2, 0, 0), (92, .aload_n 0, 1, 0, 0), (93, .getfield 16, 3, 11, 2), (96, .getfield 126, 3, 8, 3), (99, .if_icmp .ge 104, 3, 0, 0), (102, .aload_n 0, 1, 0, 0), (103, .getfield 16, 3, 11, 2), (106, .iload 4, 2, 0, 0), (108, .invokevirtual 74, 3, 101, 0), (111, .astore 5, 2, 0, 0), (113, .aload 5, 2, 0, 0), (115, .ifnull 82, 3, 0, 0), (118, .aload_n 3, 1, 0, 0), (119, .aload 5, 2, 0, 0), (121, .getfield 129, 3, 0, 1), (124, .invokevirtual 133, 3, 10, 0), (127, .ifCond .eq 70, 3, 0, 0), (130, .aload_n 0, 1, 0, 0), (131, .getfield 50, 3, 11, 6), (134, .iload 4, 2, 0, 0), (136, .invokevirtual 139, 3, 83, 0), (139, .aload_n 0, 1, 0, 0), (140, .getfield 43, 3, 11, 5), (143, .aload 5, 2, 0, 0), (145, .getfield 78, 3, 0, 0), (148, .invokevirtual 142, 3, 23, 0), (151, .aload_n 0, 1, 0, 0), (152, .getfield 43, 3, 11, 5), (155, .getfield 146, 3, 2, 15), (158, .iconst (-1), 1, 0, 0), (159, .if_icmp .eq 38, 3, 0, 0), (162, .aload_n 0, 1, 0, 0), (163, .getfield 50, 3, 11, 6), (166, .iload 4, 2, 0, 0), (168, .aload_n 0, 1, 0, 0), (169, .getfield 43, 3, 11, 5), (172, .getfield 146, 3, 2, 15), (175, .aload_n 0, 1, 0, 0), (176, .getfield 43, 3, 11, 5), (179, .getfield 148, 3, 2, 16), (182, .aload 5, 2, 0, 0), (184, .aload_n 0, 1, 0, 0), (185, .getfield 43, 3, 11, 5), (188, .getfield 146, 3, 2, 15), (191, .invokevirtual 151, 3, 2, 0), (194, .invokevirtual 154, 3, 84, 0), (197, .iinc 4 1, 3, 0, 0), (200, .goto (-110), 3, 0, 0), (203, .aload_n 0, 1, 0, 0), (204, .getfield 50, 3, 11, 6), (207, .getfield 158, 3, 6, 2), (210, .ireturn, 1, 0, 0)]
def E_m153 : E_MI := (11, ⟨E_R11, "search", "(Z)I"⟩, prog_1_method_10_code, 6, (Option.some FieldType.int), false, 1, E_c153)
def E_c154 : List E_C := [(0, .iload_n 1, 1, 0, 0), (1, .ifCond .ne 11, 3, 0, 0), (4, .aload_n 0, 1, 0, 0), (5, .getfield 23, 3, 11, 3), (8, .getfield 94, 3, 3, 1), (11, .ireturn, 1, 0, 0), (12, .iload_n 1, 1, 0, 0), (13, .iconst 1, 1, 0, 0), (14, .if_icmp .ne 13, 3, 0, 0), (17, .aload_n 0, 1, 0, 0), (18, .getfield 23, 3, 11, 3), (21, .getfield 161, 3, 3, 2), (24, .goto 4, 3, 0, 0), (27, .iconst (-1), 1, 0, 0), (28, .ireturn, 1, 0, 0)]
def E_m154 : E_MI := (11, ⟨E_R11, "fault", "(I)I"⟩, prog_1_method_11_code, 2, (Option.some FieldType.int), false, 1, E_c154)
def E_c155 : List E_C := [(0, .aload_n 0, 1, 0, 0), (1, .getfield 50, 3, 11, 6), (4, .iload_n 1, 1, 0, 0), (5, .iload_n 2, 1, 0, 0), (6, .invokevirtual 164, 3, 86, 0), (9, .ireturn, 1, 0, 0)]
def E_m155 : E_MI := (11, ⟨E_R11, "hit", "(II)I"⟩, prog_1_method_12_code, 3, (Option.some FieldType.int), false, 2, E_c155)
def E_c156 : List E_C := [(0, .aload_n 0, 1, 0, 0), (1, .getfield 50, 3, 11, 6), (4, .iload_n 1, 1, 0, 0), (5, .invokevirtual 167, 3, 85, 0), (8, .ireturn, 1, 0, 0)]
def E_m156 : E_MI := (11, ⟨E_R11, "opened", "(I)I"⟩, prog_1_method_13_code, 2, (Option.some FieldType.int), false, 1, E_c156)
def E_c157 : List E_C := [(0, .aload_n 0, 1, 0, 0), (1, .getfield 50, 3, 11, 6), (4, .getfield 170, 3, 6, 3), (7, .ifCond .ne 5, 3, 0, 0), (10, .iconst (-1), 1, 0, 0), (11, .ireturn, 1, 0, 0), (12, .aload_n 0, 1, 0, 0), (13, .getfield 36, 3, 11, 4), (16, .invokevirtual 116, 3, 55, 0), (19, .getfield 120, 3, 4, 5), (22, .astore_n 2, 1, 0, 0), (23, .iload_n 1, 1, 0, 0), (24, .iconst (-1), 1, 0, 0), (25, .if_icmp .ne 8, 3, 0, 0), (28, .aload_n 2, 1, 0, 0), (29, .getfield 173, 3, 1, 2), (32, .ireturn, 1, 0, 0), (33, .iload_n 1, 1, 0, 0), (34, .ifCond .lt 11, 3, 0, 0), (37, .iload_n 1, 1, 0, 0), (38, .aload_n 2, 1, 0, 0), (39, .getfield 173, 3, 1, 2), (42, .if_icmp .lt 7, 3, 0, 0), (45, .iconst (-1), 1, 0, 0), (46, .goto 11, 3, 0, 0), (49, .aload_n 2, 1, 0, 0), (50, .iload_n 1, 1, 0, 0), (51, .invokevirtual 176, 3, 5, 0), (54, .getfield 180, 3, 7, 1), (57, .ireturn, 1, 0, 0)]
def E_m157 : E_MI := (11, ⟨E_R11, "choice", "(I)I"⟩, prog_1_method_14_code, 3, (Option.some FieldType.int), false, 1, E_c157)
def E_c158 : List E_C := [(0, .aload_n 0, 1, 0, 0), (1, .getfield 36, 3, 11, 4), (4, .invokevirtual 116, 3, 55, 0), (7, .getfield 120, 3, 4, 5), (10, .astore_n 3, 1, 0, 0), (11, .aload_n 0, 1, 0, 0), (12, .getfield 50, 3, 11, 6), (15, .getfield 170, 3, 6, 3), (18, .ifCond .eq 15, 3, 0, 0), (21, .iload_n 1, 1, 0, 0), (22, .ifCond .lt 11, 3, 0, 0), (25, .iload_n 1, 1, 0, 0), (26, .aload_n 3, 1, 0, 0), (27, .getfield 173, 3, 1, 2), (30, .if_icmp .lt 5, 3, 0, 0), (33, .iconst (-1), 1, 0, 0), (34, .ireturn, 1, 0, 0), (35, .aload_n 3, 1, 0, 0), (36, .iload_n 1, 1, 0, 0), (37, .invokevirtual 176, 3, 5, 0), (40, .iload_n 2, 1, 0, 0), (41, .invokevirtual 183, 3, 88, 0), (44, .ireturn, 1, 0, 0)]
def E_m158 : E_MI := (11, ⟨E_R11, "gram", "(II)I"⟩, prog_1_method_15_code, 4, (Option.some FieldType.int), false, 2, E_c158)
def E_c159 : List E_C := [(0, .aload_n 0, 1, 0, 0), (1, .getfield 50, 3, 11, 6), (4, .getfield 170, 3, 6, 3), (7, .ifCond .ne 5, 3, 0, 0), (10, .iconst (-1), 1, 0, 0), (11, .ireturn, 1, 0, 0), (12, .aload_n 0, 1, 0, 0), (13, .getfield 36, 3, 11, 4), (16, .invokevirtual 116, 3, 55, 0), (19, .astore_n 2, 1, 0, 0), (20, .iload_n 1, 1, 0, 0), (21, .tableswitch 62 0 2 #[27, 46, 54], 27, 0, 0), (48, .aload_n 2, 1, 0, 0), (49, .getfield 186, 3, 4, 0), (52, .ifCond .eq 13, 3, 0, 0), (55, .aload_n 2, 1, 0, 0), (56, .getfield 190, 3, 4, 2), (59, .getfield 194, 3, 9, 2), (62, .goto 4, 3, 0, 0), (65, .iconst 0, 1, 0, 0), (66, .ireturn, 1, 0, 0), (67, .aload_n 2, 1, 0, 0), (68, .getfield 197, 3, 4, 3), (71, .getfield 180, 3, 7, 1), (74, .ireturn, 1, 0, 0), (75, .aload_n 2, 1, 0, 0), (76, .getfield 200, 3, 4, 4), (79, .getfield 180, 3, 7, 1), (82, .ireturn, 1, 0, 0), (83, .iconst (-1), 1, 0, 0), (84, .ireturn, 1, 0, 0)]
def E_m159 : E_MI := (11, ⟨E_R11, "texts", "(I)I"⟩, prog_1_method_16_code, 3, (Option.some FieldType.int), false, 1, E_c159)
def E_c160 : List E_C := [(0, .iload_n 2, 1, 0, 0), (1, .ifCond .lt 12, 3, 0, 0), (4, .iload_n 2, 1, 0, 0), (5, .aload_n 0, 1, 0, 0), (6, .iload_n 1, 1, 0, 0), (7, .invokevirtual 203, 3, 159, 0), (10, .if_icmp .lt 5, 3, 0, 0), (13, .iconst (-1), 1, 0, 0), (14, .ireturn, 1, 0, 0), (15, .aload_n 0, 1, 0, 0), (16, .getfield 36, 3, 11, 4), (19, .invokevirtual 116, 3, 55, 0), (22, .astore 4, 2, 0, 0), (24, .iload_n 1, 1, 0, 0), (25, .ifCond .ne 14, 3, 0, 0), (28, .aload 4, 2, 0, 0), (30, .getfield 190, 3, 4, 2), (33, .iload_n 2, 1, 0, 0), (34, .iload_n 3, 1, 0, 0), (35, .invokevirtual 205, 3, 111, 0), (38, .ireturn, 1, 0, 0), (39, .iload_n 1, 1, 0, 0), (40, .iconst 1, 1, 0, 0), (41, .if_icmp .ne 15, 3, 0, 0), (44, .aload 4, 2, 0, 0), (46, .getfield 197, 3, 4, 3), (49, .iload_n 2, 1, 0, 0), (50, .invokevirtual 183, 3, 88, 0), (53, .goto 12, 3, 0, 0), (56, .aload 4, 2, 0, 0), (58, .getfield 200, 3, 4, 4), (61, .iload_n 2, 1, 0, 0), (62, .invokevirtual 183, 3, 88, 0), (65, .iload_n 3, 1, 0, 0), (66, .invokestatic 208, 3, 172, 0), (69, .ireturn, 1, 0, 0)]
def E_m160 : E_MI := (11, ⟨E_R11, "text", "(III)I"⟩, prog_1_method_17_code, 5, (Option.some FieldType.int), false, 3, E_c160)
def E_c161 : List E_C := [(0, .iload_n 1, 1, 0, 0), (1, .tableswitch 132 0 9 #[55, 63, 71, 79, 87, 95, 100, 108, 116, 124], 55, 0, 0), (56, .aload_n 0, 1, 0, 0), (57, .getfield 16, 3, 11, 2), (60, .getfield 211, 3, 8, 4), (63, .ireturn, 1, 0, 0), (64, .aload_n 0, 1, 0, 0), (65, .getfield 16, 3, 11, 2), (68, .getfield 214, 3, 8, 5), (71, .ireturn, 1, 0, 0), (72, .aload_n 0, 1, 0, 0), (73, .getfield 16, 3, 11, 2), (76, .getfield 126, 3, 8, 3), (79, .ireturn, 1, 0, 0), (80, .aload_n 0, 1, 0, 0), (81, .getfield 16, 3, 11, 2), (84, .invokevirtual 217, 3, 107, 0), (87, .ireturn, 1, 0, 0), (88, .aload_n 0, 1, 0, 0), (89, .getfield 16, 3, 11, 2), (92, .invokevirtual 220, 3, 106, 0), (95, .ireturn, 1, 0, 0), (96, .aload_n 0, 1, 0, 0), (97, .getfield 54, 3, 11, 1), (100, .ireturn, 1, 0, 0), (101, .aload_n 0, 1, 0, 0), (102, .getfield 50, 3, 11, 6), (105, .getfield 170, 3, 6, 3), (108, .ireturn, 1, 0, 0), (109, .aload_n 0, 1, 0, 0), (110, .getfield 50, 3, 11, 6), (113, .getfield 223, 3, 6, 4), (116, .ireturn, 1, 0, 0), (117, .aload_n 0, 1, 0, 0), (118, .getfield 50, 3, 11, 6), (121, .getfield 226, 3, 6, 5), (124, .ireturn, 1, 0, 0), (125, .aload_n 0, 1, 0, 0), (126, .getfield 50, 3, 11, 6), (129, .getfield 229, 3, 6, 6), (132, .ireturn, 1, 0, 0), (133, .iconst (-1), 1, 0, 0), (134, .ireturn, 1, 0, 0)]
def E_m161 : E_MI := (11, ⟨E_R11, "count", "(I)I"⟩, prog_1_method_18_code, 2, (Option.some FieldType.int), false, 1, E_c161)
def E_c162 : List E_C := [(0, .bipush 24, 2, 0, 0), (2, .istore_n 2, 1, 0, 0), (3, .iload_n 2, 1, 0, 0), (4, .ifCond .lt 51, 3, 0, 0), (7, .aload_n 0, 1, 0, 0), (8, .getfield 54, 3, 11, 1), (11, .ifCond .lt 38, 3, 0, 0), (14, .aload_n 0, 1, 0, 0), (15, .getfield 54, 3, 11, 1), (18, .aload_n 0, 1, 0, 0), (19, .getfield 9, 3, 11, 0), (22, .arraylength, 1, 0, 0), (23, .if_icmp .ge 26, 3, 0, 0), (26, .aload_n 0, 1, 0, 0), (27, .getfield 9, 3, 11, 0), (30, .aload_n 0, 1, 0, 0), (31, .getfield 54, 3, 11, 1), (34, .iload_n 1, 1, 0, 0), (35, .iload_n 2, 1, 0, 0), (36, .iushr, 1, 0, 0), (37, .i2b, 1, 0, 0), (38, .bastore, 1, 0, 0), (39, .aload_n 0, 1, 0, 0), (40, .dup, 1, 0, 0), (41, .getfield 54, 3, 11, 1), (44, .iconst 1, 1, 0, 0), (45, .iadd, 1, 0, 0), (46, .putfield 54, 3, 11, 1), (49, .iinc 2 (-8), 3, 0, 0), (52, .goto (-49), 3, 0, 0), (55, .return_, 1, 0, 0)]
def E_m162 : E_MI := (11, ⟨E_R11, "writeNumber", "(I)V"⟩, prog_1_method_19_code, 3, (Option.none : Option FieldType), false, 1, E_c162)
def E_c163 : List E_C := [(0, .iload_n 1, 1, 0, 0), (1, .ifCond .lt 19, 3, 0, 0), (4, .iload_n 1, 1, 0, 0), (5, .aload_n 0, 1, 0, 0), (6, .arraylength, 1, 0, 0), (7, .if_icmp .ge 13, 3, 0, 0), (10, .aload_n 0, 1, 0, 0), (11, .iload_n 1, 1, 0, 0), (12, .baload, 1, 0, 0), (13, .sipush 255, 3, 0, 0), (16, .iand, 1, 0, 0), (17, .goto 4, 3, 0, 0), (20, .iconst (-1), 1, 0, 0), (21, .ireturn, 1, 0, 0)]
def E_m163 : E_MI := (11, ⟨E_R11, "byteOf", "([BI)I"⟩, prog_1_method_20_code, 2, (Option.some FieldType.int), true, 2, E_c163)
def E_c164 : List E_C := [(0, .iload_n 1, 1, 0, 0), (1, .ifCond .lt 15, 3, 0, 0), (4, .iload_n 1, 1, 0, 0), (5, .aload_n 0, 1, 0, 0), (6, .arraylength, 1, 0, 0), (7, .if_icmp .ge 9, 3, 0, 0), (10, .aload_n 0, 1, 0, 0), (11, .iload_n 1, 1, 0, 0), (12, .iaload, 1, 0, 0), (13, .goto 4, 3, 0, 0), (16, .iconst (-1), 1, 0, 0), (17, .ireturn, 1, 0, 0)]
def E_m164 : E_MI := (11, ⟨E_R11, "pick", "([II)I"⟩, prog_1_method_21_code, 2, (Option.some FieldType.int), true, 2, E_c164)
def E_c165 : List E_C := [(0, .iload_n 1, 1, 0, 0), (1, .ifCond .lt 13, 3, 0, 0), (4, .iload_n 1, 1, 0, 0), (5, .aload_n 0, 1, 0, 0), (6, .arraylength, 1, 0, 0), (7, .if_icmp .ge 7, 3, 0, 0), (10, .aload_n 0, 1, 0, 0), (11, .iload_n 1, 1, 0, 0), (12, .iload_n 2, 1, 0, 0), (13, .iastore, 1, 0, 0), (14, .return_, 1, 0, 0)]
def E_m165 : E_MI := (11, ⟨E_R11, "store", "([III)V"⟩, prog_1_method_22_code, 3, (Option.none : Option FieldType), true, 3, E_c165)
def E_c166 : List E_C := [(0, .iload_n 0, 1, 0, 0), (1, .bipush 48, 2, 0, 0), (3, .if_icmp .lt 13, 3, 0, 0), (6, .iload_n 0, 1, 0, 0), (7, .bipush 57, 2, 0, 0), (9, .if_icmp .gt 7, 3, 0, 0), (12, .iconst 1, 1, 0, 0), (13, .goto 4, 3, 0, 0), (16, .iconst 0, 1, 0, 0), (17, .ireturn, 1, 0, 0)]
def E_m166 : E_MI := (11, ⟨E_R11, "isDigit", "(I)Z"⟩, prog_1_method_23_code, 1, (Option.some FieldType.boolean), true, 1, E_c166)
def E_c167 : List E_C := [(0, .iload_n 0, 1, 0, 0), (1, .bipush 97, 2, 0, 0), (3, .if_icmp .lt 9, 3, 0, 0), (6, .iload_n 0, 1, 0, 0), (7, .bipush 122, 2, 0, 0), (9, .if_icmp .le 15, 3, 0, 0), (12, .iload_n 0, 1, 0, 0), (13, .bipush 65, 2, 0, 0), (15, .if_icmp .lt 13, 3, 0, 0), (18, .iload_n 0, 1, 0, 0), (19, .bipush 90, 2, 0, 0), (21, .if_icmp .gt 7, 3, 0, 0), (24, .iconst 1, 1, 0, 0), (25, .goto 4, 3, 0, 0), (28, .iconst 0, 1, 0, 0), (29, .ireturn, 1, 0, 0)]
def E_m167 : E_MI := (11, ⟨E_R11, "isLetter", "(I)Z"⟩, prog_1_method_24_code, 1, (Option.some FieldType.boolean), true, 1, E_c167)
def E_c168 : List E_C := [(0, .iload_n 0, 1, 0, 0), (1, .bipush 97, 2, 0, 0), (3, .if_icmp .lt 9, 3, 0, 0), (6, .iload_n 0, 1, 0, 0), (7, .bipush 122, 2, 0, 0), (9, .if_icmp .le 33, 3, 0, 0), (12, .iload_n 0, 1, 0, 0), (13, .bipush 65, 2, 0, 0), (15, .if_icmp .lt 9, 3, 0, 0), (18, .iload_n 0, 1, 0, 0), (19, .bipush 90, 2, 0, 0), (21, .if_icmp .le 21, 3, 0, 0), (24, .iload_n 0, 1, 0, 0), (25, .bipush 48, 2, 0, 0), (27, .if_icmp .lt 9, 3, 0, 0), (30, .iload_n 0, 1, 0, 0), (31, .bipush 57, 2, 0, 0), (33, .if_icmp .le 9, 3, 0, 0), (36, .iload_n 0, 1, 0, 0), (37, .bipush 95, 2, 0, 0), (39, .if_icmp .ne 7, 3, 0, 0), (42, .iconst 1, 1, 0, 0), (43, .goto 4, 3, 0, 0), (46, .iconst 0, 1, 0, 0), (47, .ireturn, 1, 0, 0)]
def E_m168 : E_MI := (11, ⟨E_R11, "isWord", "(I)Z"⟩, prog_1_method_25_code, 1, (Option.some FieldType.boolean), true, 1, E_c168)
def E_c169 : List E_C := [(0, .iload_n 0, 1, 0, 0), (1, .bipush 9, 2, 0, 0), (3, .if_icmp .eq 15, 3, 0, 0), (6, .iload_n 0, 1, 0, 0), (7, .bipush 10, 2, 0, 0), (9, .if_icmp .eq 9, 3, 0, 0), (12, .iload_n 0, 1, 0, 0), (13, .bipush 32, 2, 0, 0), (15, .if_icmp .ne 7, 3, 0, 0), (18, .iconst 1, 1, 0, 0), (19, .goto 4, 3, 0, 0), (22, .iconst 0, 1, 0, 0), (23, .ireturn, 1, 0, 0)]
def E_m169 : E_MI := (11, ⟨E_R11, "isSpace", "(I)Z"⟩, prog_1_method_26_code, 1, (Option.some FieldType.boolean), true, 1, E_c169)
def E_c170 : List E_C := [(0, .iload_n 0, 1, 0, 0), (1, .bipush 16, 2, 0, 0), (3, .ishl, 1, 0, 0), (4, .iload_n 1, 1, 0, 0), (5, .bipush 8, 2, 0, 0), (7, .ishl, 1, 0, 0), (8, .ior, 1, 0, 0), (9, .iload_n 2, 1, 0, 0), (10, .ior, 1, 0, 0), (11, .ireturn, 1, 0, 0)]
def E_m170 : E_MI := (11, ⟨E_R11, "gramOf", "(III)I"⟩, prog_1_method_27_code, 3, (Option.some FieldType.int), true, 3, E_c170)
def E_c171 : List E_C := [(0, .iload_n 0, 1, 0, 0), (1, .iconst 1, 1, 0, 0), (2, .iadd, 1, 0, 0), (3, .sipush 257, 3, 0, 0), (6, .imul, 1, 0, 0), (7, .iload_n 1, 1, 0, 0), (8, .iadd, 1, 0, 0), (9, .iconst 1, 1, 0, 0), (10, .iadd, 1, 0, 0), (11, .ireturn, 1, 0, 0)]
def E_m171 : E_MI := (11, ⟨E_R11, "keyOf", "(II)I"⟩, prog_1_method_28_code, 2, (Option.some FieldType.int), true, 2, E_c171)
def E_c172 : List E_C := [(0, .iload_n 1, 1, 0, 0), (1, .ifCond .ne 11, 3, 0, 0), (4, .iload_n 0, 1, 0, 0), (5, .sipush 257, 3, 0, 0), (8, .idiv, 1, 0, 0), (9, .iconst 1, 1, 0, 0), (10, .isub, 1, 0, 0), (11, .ireturn, 1, 0, 0), (12, .iload_n 1, 1, 0, 0), (13, .iconst 1, 1, 0, 0), (14, .if_icmp .ne 13, 3, 0, 0), (17, .iload_n 0, 1, 0, 0), (18, .sipush 257, 3, 0, 0), (21, .irem, 1, 0, 0), (22, .iconst 1, 1, 0, 0), (23, .isub, 1, 0, 0), (24, .goto 4, 3, 0, 0), (27, .iconst (-1), 1, 0, 0), (28, .ireturn, 1, 0, 0)]
def E_m172 : E_MI := (11, ⟨E_R11, "keySign", "(II)I"⟩, prog_1_method_29_code, 2, (Option.some FieldType.int), true, 2, E_c172)
def E_c173 : List E_C := [(0, .iload_n 0, 1, 0, 0), (1, .sipush 257, 3, 0, 0), (4, .irem, 1, 0, 0), (5, .ifCond .ne 11, 3, 0, 0), (8, .iload_n 0, 1, 0, 0), (9, .iconst 0, 1, 0, 0), (10, .invokestatic 208, 3, 172, 0), (13, .goto 8, 3, 0, 0), (16, .iload_n 0, 1, 0, 0), (17, .iconst 1, 1, 0, 0), (18, .invokestatic 208, 3, 172, 0), (21, .ireturn, 1, 0, 0)]
def E_m173 : E_MI := (11, ⟨E_R11, "lastSign", "(I)I"⟩, prog_1_method_30_code, 1, (Option.some FieldType.int), true, 1, E_c173)
def E_c174 : List E_C := [(0, .aload_n 0, 1, 0, 0), (1, .invokespecial 1, 3, 999, 0), (4, .aload_n 0, 1, 0, 0), (5, .sipush 1000, 3, 0, 0), (8, .newarray .int, 2, 0, 0), (10, .putfield 7, 3, 12, 0), (13, .aload_n 0, 1, 0, 0), (14, .sipush 17000, 3, 0, 0), (17, .newarray .int, 2, 0, 0), (19, .putfield 13, 3, 12, 2), (22, .aload_n 0, 1, 0, 0), (23, .sipush 200, 3, 0, 0), (26, .newarray .int, 2, 0, 0), (28, .putfield 16, 3, 12, 4), (31, .aload_n 0, 1, 0, 0), (32, .sipush 200, 3, 0, 0), (35, .newarray .int, 2, 0, 0), (37, .putfield 19, 3, 12, 5), (40, .aload_n 0, 1, 0, 0), (41, .sipush 200, 3, 0, 0), (44, .newarray .boolean, 2, 2, 0), (46, .putfield 22, 3, 12, 6), (49, .aload_n 0, 1, 0, 0), (50, .sipush 16000, 3, 0, 0), (53, .newarray .int, 2, 0, 0), (55, .putfield 26, 3, 12, 9), (58, .aload_n 0, 1, 0, 0), (59, .sipush 400, 3, 0, 0), (62, .newarray .int, 2, 0, 0), (64, .putfield 29, 3, 12, 10), (67, .aload_n 0, 1, 0, 0), (68, .sipush 400, 3, 0, 0), (71, .newarray .int, 2, 0, 0), (73, .putfield 32, 3, 12, 11), (76, .aload_n 0, 1, 0, 0), (77, .sipush 400, 3, 0, 0), (80, .newarray .int, 2, 0, 0), (82, .putfield 35, 3, 12, 12), (85, .aload_n 0, 1, 0, 0), (86, .sipush 720, 3, 0, 0), (89, .newarray .int, 2, 0, 0), (91, .putfield 38, 3, 12, 14), (94, .aload_n 0, 1, 0, 0), (95, .iconst (-1), 1, 0, 0), (96, .putfield 41, 3, 12, 21), (99, .aload_n 0, 1, 0, 0), (100, .bipush 12, 2, 0, 0), (102, .newarray .boolean, 2, 2, 0), (104, .putfield 45, 3, 12, 23), (107, .aload_n 0, 1, 0, 0), (108, .bipush 60, 2, 0, 0), (110, .newarray .long, 2, 3, 0), (112, .putfield 48, 3, 12, 24), (115, .aload_n 0, 1, 0, 0), (116, .bipush 44, 2, 0, 0), (118, .newarray .boolean, 2, 2, 0), (120, .putfield 52, 3, 12, 26), (123, .aload_n 0, 1, 0, 0), (124, .bipush 44, 2, 0, 0), (126, .newarray .int, 2, 0, 0), (128, .putfield 55, 3, 12, 27), (131, .aload_n 0, 1, 0, 0), (132, .sipush 352, 3, 0, 0), (135, .newarray .int, 2, 0, 0), (137, .putfield 58, 3, 12, 28), (140, .aload_n 0, 1, 0, 0), (141, .sipush 21120, 3, 0, 0), (144, .newarray .int, 2, 0, 0), (146, .putfield 61, 3, 12, 29), (149, .aload_n 0, 1, 0, 0), (150, .bipush 44, 2, 0, 0), (152, .newarray .int, 2, 0, 0), (154, .putfield 64, 3, 12, 30), (157, .aload_n 0, 1, 0, 0), (158, .sipush 528, 3, 0, 0), (161, .newarray .int, 2, 0, 0), (163, .putfield 67, 3, 12, 31), (166, .aload_n 0, 1, 0, 0), (167, .bipush 44, 2, 0, 0), (169, .newarray .int, 2, 0, 0), (171, .putfield 70, 3, 12, 32), (174, .aload_n 0, 1, 0, 0), (175, .sipush 528, 3, 0, 0), (178, .newarray .int, 2, 0, 0), (180, .putfield 73, 3, 12, 33), (183, .aload_n 0, 1, 0, 0), (184, .bipush 44, 2, 0, 0), (186, .newarray .int, 2, 0, 0), (188, .putfield 76, 3, 12, 34), (191, .aload_n 0, 1, 0, 0), (192, .sipush 1056, 3, 0, 0), (195, .newarray .int, 2, 0, 0), (197, .putfield 79, 3, 12, 35), (200, .aload_n 0, 1, 0, 0), (201, .ldc 82, 2, 0, 0), (203, .newarray .int, 2, 0, 0), (205, .putfield 83, 3, 12, 36), (208, .aload_n 0, 1, 0, 0), (209, .sipush 580, 3, 0, 0), (212, .newarray .int, 2, 0, 0), (214, .putfield 86, 3, 12, 38), (217, .aload_n 0, 1, 0, 0), (218, .ldc 89, 2, 0, 0), (220, .newarray .int, 2, 0, 0), (222, .putfield 90, 3, 12, 39), (225, .aload_n 0, 1, 0, 0), (226, .sipush 580, 3, 0, 0), (229, .newarray .boolean, 2, 2, 0), (231, .putfield 93, 3, 12, 40), (234, .aload_n 0, 1, 0, 0), (235, .sipush 160, 3, 0, 0), (238, .newarray .int, 2, 0, 0), (240, .putfield 96, 3, 12, 42), (243, .aload_n 0, 1, 0, 0), (244, .sipush 160, 3, 0, 0), (247, .newarray .int, 2, 0, 0), (249, .putfield 99, 3, 12, 44), (252, .aload_n 0, 1, 0, 0), (253, .sipush 9600, 3, 0, 0), (256, .newarray .int, 2, 0, 0), (258, .putfield 102, 3, 12, 45), (261, .aload_n 0, 1, 0, 0), (262, .sipush 3000, 3, 0, 0), (265, .newarray .int, 2, 0, 0), (267, .putfield 105, 3, 12, 46), (270, .aload_n 0, 1, 0, 0), (271, .sipush 3000, 3, 0, 0), (274, .newarray .int, 2, 0, 0), (276, .putfield 108, 3, 12, 47), (279, .aload_n 0, 1, 0, 0), (280, .bipush 60, 2, 0, 0), (282, .newarray .int, 2, 0, 0), (284, .putfield 111, 3, 12, 49), (287, .aload_n 0, 1, 0, 0), (288, .sipush 6000, 3, 0, 0), (291, .newarray .int, 2, 0, 0), (293, .putfield 114, 3, 12, 50), (296, .aload_n 0, 1, 0, 0), (297, .sipush 400, 3, 0, 0), (300, .newarray .boolean, 2, 2, 0), (302, .putfield 117, 3, 12, 51), (305, .aload_n 0, 1, 0, 0), (306, .bipush 60, 2, 0, 0), (308, .newarray .int, 2, 0, 0), (310, .putfield 120, 3, 12, 52), (313, .aload_n 0, 1, 0, 0), (314, .sipush 4160, 3, 0, 0), (317, .newarray .long, 2, 3, 0), (319, .putfield 123, 3, 12, 53), (322, .aload_n 0, 1, 0, 0), (323, .sipush 1440, 3, 0, 0), (326, .newarray .long, 2, 3, 0), (328, .putfield 126, 3, 12, 54), (331, .aload_n 0, 1, 0, 0), (332, .bipush 80, 2, 0, 0), (334, .newarray .long, 2, 3, 0), (336, .putfield 129, 3, 12, 55), (339, .aload_n 0, 1, 0, 0), (340, .bipush 24, 2, 0, 0), (342, .newarray .int, 2, 0, 0), (344, .putfield 132, 3, 12, 57), (347, .aload_n 0, 1, 0, 0), (348, .sipush 15360, 3, 0, 0), (351, .newarray .int, 2, 0, 0), (353, .putfield 135, 3, 12, 58), (356, .aload_n 0, 1, 0, 0), (357, .iconst 3, 1, 0, 0), (358, .newarray .int, 2, 0, 0), (360, .putfield 138, 3, 12, 60), (363, .aload_n 0, 1, 0, 0), (364, .bipush 36, 2, 0, 0), (366, .newarray .int, 2, 0, 0), (368, .putfield 141, 3, 12, 61), (371, .aload_n 0, 1, 0, 0), (372, .sipush 2160, 3, 0, 0), (375, .newarray .int, 2, 0, 0), (377, .putfield 144, 3, 12, 62), (380, .aload_n 0, 1, 0, 0), (381, .bipush 40, 2, 0, 0), (383, .newarray .int, 2, 0, 0), (385, .putfield 147, 3, 12, 64), (388, .aload_n 0, 1, 0, 0), (389, .bipush 40, 2, 0, 0), (391, .newarray .int, 2, 0, 0), (393, .putfield 150, 3, 12, 65), (396, .aload_n 0, 1, 0, 0), (397, .bipush 40, 2, 0, 0), (399, .newarray .int, 2, 0, 0), (401, .putfield 153, 3, 12, 66), (404, .aload_n 0, 1, 0, 0), (405, .bipush 40, 2, 0, 0), (407, .newarray .int, 2, 0, 0), (409, .putfield 156, 3, 12, 67), (412, .aload_n 0, 1, 0, 0), (413, .bipush 40, 2, 0, 0), (415, .newarray .int, 2, 0, 0), (417, .putfield 159, 3, 12, 69), (420, .return_, 1, 0, 0)]
def E_m174 : E_MI := (12, ⟨E_R12, "<init>", "()V"⟩, prog_14_method_1_code, 1, (Option.none : Option FieldType), false, 0, E_c174)
def E_c175 : List E_C := [(0, .aload_n 0, 1, 0, 0), (1, .getfield 162, 3, 12, 1), (4, .bipush 20, 2, 0, 0), (6, .iadd, 1, 0, 0), (7, .sipush 1000, 3, 0, 0), (10, .if_icmp .le 5, 3, 0, 0), (13, .iconst (-1), 1, 0, 0), (14, .ireturn, 1, 0, 0), (15, .iconst 0, 1, 0, 0), (16, .istore 6, 2, 0, 0), (18, .iload 6, 2, 0, 0), (20, .bipush 20, 2, 0, 0), (22, .if_icmp .ge 93, 3, 0, 0), (25, .iload 6, 2, 0, 0), (27, .iconst 4, 1, 0, 0), (28, .if_icmp .ge 7, 3, 0, 0), (31, .iload_n 1, 1, 0, 0), (32, .goto 39, 3, 0, 0), (35, .iload 6, 2, 0, 0), (37, .bipush 8, 2, 0, 0), (39, .if_icmp .ge 7, 3, 0, 0), (42, .iload_n 2, 1, 0, 0), (43, .goto 28, 3, 0, 0), (46, .iload 6, 2, 0, 0), (48, .bipush 12, 2, 0, 0), (50, .if_icmp .ge 7, 3, 0, 0), (53, .iload_n 3, 1, 0, 0), (54, .goto 17, 3, 0, 0), (57, .iload 6, 2, 0, 0), (59, .bipush 16, 2, 0, 0), (61, .if_icmp .ge 8, 3, 0, 0), (64, .iload 4, 2, 0, 0), (66, .goto 5, 3, 0, 0), (69, .iload 5, 2, 0, 0), (71, .istore 7, 2, 0, 0), (73, .aload_n 0, 1, 0, 0), (74, .getfield 7, 3, 12, 0), (77, .aload_n 0, 1, 0, 0), (78, .getfield 162, 3, 12, 1), (81, .iload 7, 2, 0, 0), (83, .bipush 24, 2, 0, 0), (85, .bipush 8, 2, 0, 0), (87, .iload 6, 2, 0, 0), (89, .iconst 4, 1, 0, 0), (90, .irem, 1, 0, 0), (91, .imul, 1, 0, 0), (92, .isub, 1, 0, 0), (93, .ishr, 1, 0, 0), (94, .sipush 255, 3, 0, 0), (97, .iand, 1, 0, 0), (98, .iastore, 1, 0, 0), (99, .aload_n 0, 1, 0, 0), (100, .dup, 1, 0, 0), (101, .getfield 162, 3, 12, 1), (104, .iconst 1, 1, 0, 0), (105, .iadd, 1, 0, 0), (106, .putfield 162, 3, 12, 1), (109, .iinc 6 1, 3, 0, 0), (112, .goto (-94), 3, 0, 0), (115, .aload_n 0, 1, 0, 0), (116, .getfield 162, 3, 12, 1), (119, .ireturn, 1, 0, 0)]
def E_m175 : E_MI := (12, ⟨E_R12, "feed", "(IIIII)I"⟩, prog_14_method_3_code, 8, (Option.some FieldType.int), false, 5, E_c175)
def E_c176 : List E_C := [(0, .iload_n 1, 1, 0, 0), (1, .ifCond .lt 11, 3, 0, 0), (4, .iload_n 1, 1, 0, 0), (5, .aload_n 0, 1, 0, 0), (6, .getfield 162, 3, 12, 1), (9, .if_icmp .le 5, 3, 0, 0), (12, .iconst 0, 1, 0, 0), (13, .ireturn, 1, 0, 0), (14, .aload_n 0, 1, 0, 0), (15, .iload_n 1, 1, 0, 0), (16, .putfield 162, 3, 12, 1), (19, .iconst 1, 1, 0, 0), (20, .ireturn, 1, 0, 0)]
def E_m176 : E_MI := (12, ⟨E_R12, "end", "(I)Z"⟩, prog_14_method_4_code, 2, (Option.some FieldType.boolean), false, 1, E_c176)
def E_c177 : List E_C := [(0, .iload_n 1, 1, 0, 0), (1, .ifCond .lt 24, 3, 0, 0), (4, .iload_n 1, 1, 0, 0), (5, .aload_n 0, 1, 0, 0), (6, .getfield 165, 3, 12, 8), (9, .if_icmp .ge 16, 3, 0, 0), (12, .aload_n 0, 1, 0, 0), (13, .getfield 22, 3, 12, 6), (16, .iload_n 1, 1, 0, 0), (17, .baload, 1, 0, 0), (18, .ifCond .eq 7, 3, 0, 0), (21, .iconst 1, 1, 0, 0), (22, .goto 4, 3, 0, 0), (25, .iconst 0, 1, 0, 0), (26, .ireturn, 1, 0, 0)]
def E_m177 : E_MI := (12, ⟨E_R12, "isFile", "(I)Z"⟩, prog_14_method_5_code, 2, (Option.some FieldType.boolean), false, 1, E_c177)
def E_c178 : List E_C := [(0, .aload_n 0, 1, 0, 0), (1, .getfield 16, 3, 12, 4), (4, .iload_n 1, 1, 0, 0), (5, .aload_n 0, 1, 0, 0), (6, .getfield 168, 3, 12, 3), (9, .iastore, 1, 0, 0), (10, .aload_n 0, 1, 0, 0), (11, .getfield 19, 3, 12, 5), (14, .iload_n 1, 1, 0, 0), (15, .aload_n 0, 1, 0, 0), (16, .getfield 162, 3, 12, 1), (19, .iastore, 1, 0, 0), (20, .iconst 0, 1, 0, 0), (21, .istore_n 2, 1, 0, 0), (22, .iload_n 2, 1, 0, 0), (23, .aload_n 0, 1, 0, 0), (24, .getfield 162, 3, 12, 1), (27, .if_icmp .ge 26, 3, 0, 0), (30, .aload_n 0, 1, 0, 0), (31, .getfield 13, 3, 12, 2), (34, .aload_n 0, 1, 0, 0), (35, .getfield 168, 3, 12, 3), (38, .iload_n 2, 1, 0, 0), (39, .iadd, 1, 0, 0), (40, .aload_n 0, 1, 0, 0), (41, .getfield 7, 3, 12, 0), (44, .iload_n 2, 1, 0, 0), (45, .iaload, 1, 0, 0), (46, .iastore, 1, 0, 0), (47, .iinc 2 1, 3, 0, 0), (50, .goto (-28), 3, 0, 0), (53, .aload_n 0, 1, 0, 0), (54, .dup, 1, 0, 0), (55, .getfield 168, 3, 12, 3), (58, .aload_n 0, 1, 0, 0), (59, .getfield 162, 3, 12, 1), (62, .iadd, 1, 0, 0), (63, .putfield 168, 3, 12, 3), (66, .aload_n 0, 1, 0, 0), (67, .iconst 0, 1, 0, 0), (68, .putfield 162, 3, 12, 1), (71, .return_, 1, 0, 0)]
def E_m178 : E_MI := (12, ⟨E_R12, "takes", "(I)V"⟩, prog_14_method_6_code, 3, (Option.none : Option FieldType), false, 1, E_c178)
def E_c179 : List E_C := [(0, .aload_n 0, 1, 0, 0), (1, .getfield 19, 3, 12, 5), (4, .iload_n 1, 1, 0, 0), (5, .iaload, 1, 0, 0), (6, .istore_n 2, 1, 0, 0), (7, .aload_n 0, 1, 0, 0), (8, .getfield 16, 3, 12, 4), (11, .iload_n 1, 1, 0, 0), (12, .iaload, 1, 0, 0), (13, .istore_n 3, 1, 0, 0), (14, .iload_n 3, 1, 0, 0), (15, .iload_n 2, 1, 0, 0), (16, .iadd, 1, 0, 0), (17, .aload_n 0, 1, 0, 0), (18, .getfield 168, 3, 12, 3), (21, .if_icmp .ge 23, 3, 0, 0), (24, .aload_n 0, 1, 0, 0), (25, .getfield 13, 3, 12, 2), (28, .iload_n 3, 1, 0, 0), (29, .aload_n 0, 1, 0, 0), (30, .getfield 13, 3, 12, 2), (33, .iload_n 3, 1, 0, 0), (34, .iload_n 2, 1, 0, 0), (35, .iadd, 1, 0, 0), (36, .iaload, 1, 0, 0), (37, .iastore, 1, 0, 0), (38, .iinc 3 1, 3, 0, 0), (41, .goto (-27), 3, 0, 0), (44, .aload_n 0, 1, 0, 0), (45, .dup, 1, 0, 0), (46, .getfield 168, 3, 12, 3), (49, .iload_n 2, 1, 0, 0), (50, .isub, 1, 0, 0), (51, .putfield 168, 3, 12, 3), (54, .iconst 0, 1, 0, 0), (55, .istore_n 3, 1, 0, 0), (56, .iload_n 3, 1, 0, 0), (57, .aload_n 0, 1, 0, 0), (58, .getfield 165, 3, 12, 8), (61, .if_icmp .ge 43, 3, 0, 0), (64, .aload_n 0, 1, 0, 0), (65, .getfield 22, 3, 12, 6), (68, .iload_n 3, 1, 0, 0), (69, .baload, 1, 0, 0), (70, .ifCond .eq 28, 3, 0, 0), (73, .aload_n 0, 1, 0, 0), (74, .getfield 16, 3, 12, 4), (77, .iload_n 3, 1, 0, 0), (78, .iaload, 1, 0, 0), (79, .aload_n 0, 1, 0, 0), (80, .getfield 16, 3, 12, 4), (83, .iload_n 1, 1, 0, 0), (84, .iaload, 1, 0, 0), (85, .if_icmp .le 13, 3, 0, 0), (88, .aload_n 0, 1, 0, 0), (89, .getfield 16, 3, 12, 4), (92, .iload_n 3, 1, 0, 0), (93, .dup2, 1, 0, 0), (94, .iaload, 1, 0, 0), (95, .iload_n 2, 1, 0, 0), (96, .isub, 1, 0, 0), (97, .iastore, 1, 0, 0), (98, .iinc 3 1, 3, 0, 0), (101, .goto (-45), 3, 0, 0), (104, .return_, 1, 0, 0)]
def E_m179 : E_MI := (12, ⟨E_R12, "leaves", "(I)V"⟩, prog_14_method_7_code, 4, (Option.none : Option FieldType), false, 1, E_c179)
def E_c180 : List E_C := [(0, .aload_n 0, 1, 0, 0), (1, .getfield 171, 3, 12, 7), (4, .bipush 40, 2, 0, 0), (6, .if_icmp .eq 28, 3, 0, 0), (9, .aload_n 0, 1, 0, 0), (10, .getfield 165, 3, 12, 8), (13, .sipush 200, 3, 0, 0), (16, .if_icmp .eq 18, 3, 0, 0), (19, .aload_n 0, 1, 0, 0), (20, .getfield 168, 3, 12, 3), (23, .aload_n 0, 1, 0, 0), (24, .getfield 162, 3, 12, 1), (27, .iadd, 1, 0, 0), (28, .sipush 16000, 3, 0, 0), (31, .if_icmp .le 5, 3, 0, 0), (34, .iconst (-1), 1, 0, 0), (35, .ireturn, 1, 0, 0), (36, .aload_n 0, 1, 0, 0), (37, .aload_n 0, 1, 0, 0), (38, .getfield 165, 3, 12, 8), (41, .invokevirtual 174, 3, 178, 0), (44, .aload_n 0, 1, 0, 0), (45, .getfield 22, 3, 12, 6), (48, .aload_n 0, 1, 0, 0), (49, .getfield 165, 3, 12, 8), (52, .iconst 1, 1, 0, 0), (53, .bastore, 1, 0, 0), (54, .aload_n 0, 1, 0, 0), (55, .dup, 1, 0, 0), (56, .getfield 171, 3, 12, 7), (59, .iconst 1, 1, 0, 0), (60, .iadd, 1, 0, 0), (61, .putfield 171, 3, 12, 7), (64, .aload_n 0, 1, 0, 0), (65, .dup, 1, 0, 0), (66, .getfield 165, 3, 12, 8), (69, .iconst 1, 1, 0, 0), (70, .iadd, 1, 0, 0), (71, .putfield 165, 3, 12, 8), (74, .aload_n 0, 1, 0, 0), (75, .getfield 165, 3, 12, 8), (78, .iconst 1, 1, 0, 0), (79, .isub, 1, 0, 0), (80, .ireturn, 1, 0, 0)]
def E_m180 : E_MI := (12, ⟨E_R12, "add", "()I"⟩, prog_14_method_8_code, 1, (Option.some FieldType.int), false, 0, E_c180)
def E_c181 : List E_C := [(0, .aload_n 0, 1, 0, 0), (1, .iload_n 1, 1, 0, 0), (2, .invokevirtual 178, 3, 177, 0), (5, .ifCond .eq 25, 3, 0, 0), (8, .aload_n 0, 1, 0, 0), (9, .getfield 168, 3, 12, 3), (12, .aload_n 0, 1, 0, 0), (13, .getfield 19, 3, 12, 5), (16, .iload_n 1, 1, 0, 0), (17, .iaload, 1, 0, 0), (18, .isub, 1, 0, 0), (19, .aload_n 0, 1, 0, 0), (20, .getfield 162, 3, 12, 1), (23, .iadd, 1, 0, 0), (24, .sipush 16000, 3, 0, 0), (27, .if_icmp .le 5, 3, 0, 0), (30, .iconst (-1), 1, 0, 0), (31, .ireturn, 1, 0, 0), (32, .aload_n 0, 1, 0, 0), (33, .iload_n 1, 1, 0, 0), (34, .invokevirtual 182, 3, 179, 0), (37, .aload_n 0, 1, 0, 0), (38, .iload_n 1, 1, 0, 0), (39, .invokevirtual 174, 3, 178, 0), (42, .aload_n 0, 1, 0, 0), (43, .getfield 19, 3, 12, 5), (46, .iload_n 1, 1, 0, 0), (47, .iaload, 1, 0, 0), (48, .ireturn, 1, 0, 0)]
def E_m181 : E_MI := (12, ⟨E_R12, "change", "(I)I"⟩, prog_14_method_9_code, 2, (Option.some FieldType.int), false, 1, E_c181)
def E_c182 : List E_C := [(0, .aload_n 0, 1, 0, 0), (1, .iload_n 1, 1, 0, 0), (2, .invokevirtual 178, 3, 177, 0), (5, .ifCond .ne 5, 3, 0, 0), (8, .iconst 0, 1, 0, 0), (9, .ireturn, 1, 0, 0), (10, .aload_n 0, 1, 0, 0), (11, .iload_n 1, 1, 0, 0), (12, .invokevirtual 182, 3, 179, 0), (15, .aload_n 0, 1, 0, 0), (16, .getfield 22, 3, 12, 6), (19, .iload_n 1, 1, 0, 0), (20, .iconst 0, 1, 0, 0), (21, .bastore, 1, 0, 0), (22, .aload_n 0, 1, 0, 0), (23, .dup, 1, 0, 0), (24, .getfield 171, 3, 12, 7), (27, .iconst 1, 1, 0, 0), (28, .isub, 1, 0, 0), (29, .putfield 171, 3, 12, 7), (32, .iconst 1, 1, 0, 0), (33, .ireturn, 1, 0, 0)]
def E_m182 : E_MI := (12, ⟨E_R12, "remove", "(I)Z"⟩, prog_14_method_10_code, 2, (Option.some FieldType.boolean), false, 1, E_c182)
def E_c183 : List E_C := [(0, .aload_n 0, 1, 0, 0), (1, .iload_n 1, 1, 0, 0), (2, .invokevirtual 178, 3, 177, 0), (5, .ifCond .eq 12, 3, 0, 0), (8, .aload_n 0, 1, 0, 0), (9, .getfield 19, 3, 12, 5), (12, .iload_n 1, 1, 0, 0), (13, .iaload, 1, 0, 0), (14, .goto 4, 3, 0, 0), (17, .iconst (-1), 1, 0, 0), (18, .ireturn, 1, 0, 0)]
def E_m183 : E_MI := (12, ⟨E_R12, "size", "(I)I"⟩, prog_14_method_11_code, 2, (Option.some FieldType.int), false, 1, E_c183)
def E_c184 : List E_C := [(0, .aload_n 0, 1, 0, 0), (1, .iload_n 1, 1, 0, 0), (2, .invokevirtual 178, 3, 177, 0), (5, .ifCond .eq 33, 3, 0, 0), (8, .iload_n 2, 1, 0, 0), (9, .ifCond .lt 29, 3, 0, 0), (12, .iload_n 2, 1, 0, 0), (13, .aload_n 0, 1, 0, 0), (14, .getfield 19, 3, 12, 5), (17, .iload_n 1, 1, 0, 0), (18, .iaload, 1, 0, 0), (19, .if_icmp .ge 19, 3, 0, 0), (22, .aload_n 0, 1, 0, 0), (23, .getfield 13, 3, 12, 2), (26, .aload_n 0, 1, 0, 0), (27, .getfield 16, 3, 12, 4), (30, .iload_n 1, 1, 0, 0), (31, .iaload, 1, 0, 0), (32, .iload_n 2, 1, 0, 0), (33, .iadd, 1, 0, 0), (34, .iaload, 1, 0, 0), (35, .goto 4, 3, 0, 0), (38, .iconst (-1), 1, 0, 0), (39, .ireturn, 1, 0, 0)]
def E_m184 : E_MI := (12, ⟨E_R12, "byteAt", "(II)I"⟩, prog_14_method_12_code, 3, (Option.some FieldType.int), false, 2, E_c184)
def E_c185 : List E_C := [(0, .ldc 185, 2, 0, 0), (2, .aload_n 0, 1, 0, 0), (3, .getfield 13, 3, 12, 2), (6, .iload_n 1, 1, 0, 0), (7, .iaload, 1, 0, 0), (8, .imul, 1, 0, 0), (9, .sipush 256, 3, 0, 0), (12, .aload_n 0, 1, 0, 0), (13, .getfield 13, 3, 12, 2), (16, .iload_n 1, 1, 0, 0), (17, .iconst 1, 1, 0, 0), (18, .iadd, 1, 0, 0), (19, .iaload, 1, 0, 0), (20, .imul, 1, 0, 0), (21, .iadd, 1, 0, 0), (22, .aload_n 0, 1, 0, 0), (23, .getfield 13, 3, 12, 2), (26, .iload_n 1, 1, 0, 0), (27, .iconst 2, 1, 0, 0), (28, .iadd, 1, 0, 0), (29, .iaload, 1, 0, 0), (30, .iadd, 1, 0, 0), (31, .ireturn, 1, 0, 0)]
def E_m185 : E_MI := (12, ⟨E_R12, "gramAt", "(I)I"⟩, prog_14_method_13_code, 2, (Option.some FieldType.int), false, 1, E_c185)
def E_c186 : List E_C := [(0, .iload_n 2, 1, 0, 0), (1, .istore_n 3, 1, 0, 0), (2, .iconst 0, 1, 0, 0), (3, .istore 4, 2, 0, 0), (5, .iload 4, 2, 0, 0), (7, .aload_n 0, 1, 0, 0), (8, .getfield 165, 3, 12, 8), (11, .if_icmp .ge 107, 3, 0, 0), (14, .iload_n 2, 1, 0, 0), (15, .ifCond .lt 103, 3, 0, 0), (18, .aload_n 0, 1, 0, 0), (19, .getfield 22, 3, 12, 6), (22, .iload 4, 2, 0, 0), (24, .baload, 1, 0, 0), (25, .ifCond .ne 6, 3, 0, 0), (28, .goto 84, 3, 0, 0), (31, .iconst 0, 1, 0, 0), (32, .istore 5, 2, 0, 0), (34, .iconst 0, 1, 0, 0), (35, .istore 6, 2, 0, 0), (37, .iload 6, 2, 0, 0), (39, .iconst 2, 1, 0, 0), (40, .iadd, 1, 0, 0), (41, .aload_n 0, 1, 0, 0), (42, .getfield 19, 3, 12, 5), (45, .iload 4, 2, 0, 0), (47, .iaload, 1, 0, 0), (48, .if_icmp .ge 39, 3, 0, 0), (51, .iload 5, 2, 0, 0), (53, .ifCond .ne 34, 3, 0, 0), (56, .aload_n 0, 1, 0, 0), (57, .aload_n 0, 1, 0, 0), (58, .getfield 16, 3, 12, 4), (61, .iload 4, 2, 0, 0), (63, .iaload, 1, 0, 0), (64, .iload 6, 2, 0, 0), (66, .iadd, 1, 0, 0), (67, .invokevirtual 186, 3, 185, 0), (70, .iload_n 1, 1, 0, 0), (71, .if_icmp .ne 7, 3, 0, 0), (74, .iconst 1, 1, 0, 0), (75, .goto 4, 3, 0, 0), (78, .iconst 0, 1, 0, 0), (79, .istore 5, 2, 0, 0), (81, .iinc 6 1, 3, 0, 0), (84, .goto (-47), 3, 0, 0), (87, .iload 5, 2, 0, 0), (89, .ifCond .eq 10, 3, 0, 0), (92, .iload_n 3, 1, 0, 0), (93, .ifCond .ne 6, 3, 0, 0), (96, .iload 4, 2, 0, 0), (98, .ireturn, 1, 0, 0), (99, .iload_n 3, 1, 0, 0), (100, .iload 5, 2, 0, 0), (102, .ifCond .eq 7, 3, 0, 0), (105, .iconst 1, 1, 0, 0), (106, .goto 4, 3, 0, 0), (109, .iconst 0, 1, 0, 0), (110, .isub, 1, 0, 0), (111, .istore_n 3, 1, 0, 0), (112, .iinc 4 1, 3, 0, 0), (115, .goto (-110), 3, 0, 0), (118, .iconst (-1), 1, 0, 0), (119, .ireturn, 1, 0, 0)]
def E_m186 : E_MI := (12, ⟨E_R12, "posting", "(II)I"⟩, prog_14_method_14_code, 7, (Option.some FieldType.int), false, 2, E_c186)
def E_c187 : List E_C := [(0, .iconst 1, 1, 0, 0), (1, .istore_n 2, 1, 0, 0), (2, .iconst 3, 1, 0, 0), (3, .iload_n 2, 1, 0, 0), (4, .imul, 1, 0, 0), (5, .iconst 1, 1, 0, 0), (6, .iadd, 1, 0, 0), (7, .iload_n 1, 1, 0, 0), (8, .if_icmp .ge 12, 3, 0, 0), (11, .iconst 3, 1, 0, 0), (12, .iload_n 2, 1, 0, 0), (13, .imul, 1, 0, 0), (14, .iconst 1, 1, 0, 0), (15, .iadd, 1, 0, 0), (16, .istore_n 2, 1, 0, 0), (17, .goto (-15), 3, 0, 0), (20, .iload_n 2, 1, 0, 0), (21, .ifCond .le 88, 3, 0, 0), (24, .iload_n 2, 1, 0, 0), (25, .istore_n 3, 1, 0, 0), (26, .iload_n 3, 1, 0, 0), (27, .iload_n 1, 1, 0, 0), (28, .if_icmp .ge 74, 3, 0, 0), (31, .aload_n 0, 1, 0, 0), (32, .getfield 26, 3, 12, 9), (35, .iload_n 3, 1, 0, 0), (36, .iaload, 1, 0, 0), (37, .istore 4, 2, 0, 0), (39, .iload_n 3, 1, 0, 0), (40, .istore 5, 2, 0, 0), (42, .iload 5, 2, 0, 0), (44, .iload_n 2, 1, 0, 0), (45, .if_icmp .lt 42, 3, 0, 0), (48, .aload_n 0, 1, 0, 0), (49, .getfield 26, 3, 12, 9), (52, .iload 5, 2, 0, 0), (54, .iload_n 2, 1, 0, 0), (55, .isub, 1, 0, 0), (56, .iaload, 1, 0, 0), (57, .iload 4, 2, 0, 0), (59, .if_icmp .le 28, 3, 0, 0), (62, .aload_n 0, 1, 0, 0), (63, .getfield 26, 3, 12, 9), (66, .iload 5, 2, 0, 0), (68, .aload_n 0, 1, 0, 0), (69, .getfield 26, 3, 12, 9), (72, .iload 5, 2, 0, 0), (74, .iload_n 2, 1, 0, 0), (75, .isub, 1, 0, 0), (76, .iaload, 1, 0, 0), (77, .iastore, 1, 0, 0), (78, .iload 5, 2, 0, 0), (80, .iload_n 2, 1, 0, 0), (81, .isub, 1, 0, 0), (82, .istore 5, 2, 0, 0), (84, .goto (-42), 3, 0, 0), (87, .aload_n 0, 1, 0, 0), (88, .getfield 26, 3, 12, 9), (91, .iload 5, 2, 0, 0), (93, .iload 4, 2, 0, 0), (95, .iastore, 1, 0, 0), (96, .iinc 3 1, 3, 0, 0), (99, .goto (-73), 3, 0, 0), (102, .iload_n 2, 1, 0, 0), (103, .iconst 3, 1, 0, 0), (104, .idiv, 1, 0, 0), (105, .istore_n 2, 1, 0, 0), (106, .goto (-86), 3, 0, 0), (109, .iconst 0, 1, 0, 0), (110, .istore_n 3, 1, 0, 0), (111, .iconst 0, 1, 0, 0), (112, .istore 4, 2, 0, 0), (114, .iload 4, 2, 0, 0), (116, .iload_n 1, 1, 0, 0), (117, .if_icmp .ge 50, 3, 0, 0), (120, .iload_n 3, 1, 0, 0), (121, .ifCond .le 24, 3, 0, 0), (124, .aload_n 0, 1, 0, 0), (125, .getfield 26, 3, 12, 9), (128, .iload_n 3, 1, 0, 0), (129, .iconst 1, 1, 0, 0), (130, .isub, 1, 0, 0), (131, .iaload, 1, 0, 0), (132, .aload_n 0, 1, 0, 0), (133, .getfield 26, 3, 12, 9), (136, .iload 4, 2, 0, 0), (138, .iaload, 1, 0, 0), (139, .if_icmp .ne 6, 3, 0, 0), (142, .goto 19, 3, 0, 0), (145, .aload_n 0, 1, 0, 0), (146, .getfield 26, 3, 12, 9), (149, .iload_n 3, 1, 0, 0), (150, .aload_n 0, 1, 0, 0), (151, .getfield 26, 3, 12, 9), (154, .iload 4, 2, 0, 0), (156, .iaload, 1, 0, 0), (157, .iastore, 1, 0, 0), (158, .iinc 3 1, 3, 0, 0), (161, .iinc 4 1, 3, 0, 0), (164, .goto (-50), 3, 0, 0), (167, .iload_n 3, 1, 0, 0), (168, .ireturn, 1, 0, 0)]
def E_m187 : E_MI := (12, ⟨E_R12, "sorted", "(I)I"⟩, prog_14_method_15_code, 6, (Option.some FieldType.int), false, 1, E_c187)
def E_c188 : List E_C := [(0, .iload_n 2, 1, 0, 0), (1, .istore_n 3, 1, 0, 0), (2, .iconst 0, 1, 0, 0), (3, .istore 4, 2, 0, 0), (5, .iload 4, 2, 0, 0), (7, .iconst 2, 1, 0, 0), (8, .iadd, 1, 0, 0), (9, .aload_n 0, 1, 0, 0), (10, .getfield 19, 3, 12, 5), (13, .iload_n 1, 1, 0, 0), (14, .iaload, 1, 0, 0), (15, .if_icmp .ge 31, 3, 0, 0), (18, .aload_n 0, 1, 0, 0), (19, .getfield 26, 3, 12, 9), (22, .iload_n 3, 1, 0, 0), (23, .aload_n 0, 1, 0, 0), (24, .aload_n 0, 1, 0, 0), (25, .getfield 16, 3, 12, 4), (28, .iload_n 1, 1, 0, 0), (29, .iaload, 1, 0, 0), (30, .iload 4, 2, 0, 0), (32, .iadd, 1, 0, 0), (33, .invokevirtual 186, 3, 185, 0), (36, .iastore, 1, 0, 0), (37, .iinc 3 1, 3, 0, 0), (40, .iinc 4 1, 3, 0, 0), (43, .goto (-38), 3, 0, 0), (46, .iload_n 3, 1, 0, 0), (47, .ireturn, 1, 0, 0)]
def E_m188 : E_MI := (12, ⟨E_R12, "gathers", "(II)I"⟩, prog_14_method_16_code, 5, (Option.some FieldType.int), false, 2, E_c188)
def E_c189 : List E_C := [(0, .iconst 0, 1, 0, 0), (1, .istore_n 3, 1, 0, 0), (2, .iload_n 1, 1, 0, 0), (3, .istore 4, 2, 0, 0), (5, .iload_n 3, 1, 0, 0), (6, .iload 4, 2, 0, 0), (8, .if_icmp .ge 37, 3, 0, 0), (11, .iload_n 3, 1, 0, 0), (12, .iload 4, 2, 0, 0), (14, .iadd, 1, 0, 0), (15, .iconst 1, 1, 0, 0), (16, .ishr, 1, 0, 0), (17, .istore 5, 2, 0, 0), (19, .aload_n 0, 1, 0, 0), (20, .getfield 26, 3, 12, 9), (23, .iload 5, 2, 0, 0), (25, .iaload, 1, 0, 0), (26, .iload_n 2, 1, 0, 0), (27, .if_icmp .ge 11, 3, 0, 0), (30, .iload 5, 2, 0, 0), (32, .iconst 1, 1, 0, 0), (33, .iadd, 1, 0, 0), (34, .istore_n 3, 1, 0, 0), (35, .goto 7, 3, 0, 0), (38, .iload 5, 2, 0, 0), (40, .istore 4, 2, 0, 0), (42, .goto (-37), 3, 0, 0), (45, .iload_n 3, 1, 0, 0), (46, .iload_n 1, 1, 0, 0), (47, .if_icmp .ge 17, 3, 0, 0), (50, .aload_n 0, 1, 0, 0), (51, .getfield 26, 3, 12, 9), (54, .iload_n 3, 1, 0, 0), (55, .iaload, 1, 0, 0), (56, .iload_n 2, 1, 0, 0), (57, .if_icmp .ne 7, 3, 0, 0), (60, .iconst 1, 1, 0, 0), (61, .goto 4, 3, 0, 0), (64, .iconst 0, 1, 0, 0), (65, .ireturn, 1, 0, 0)]
def E_m189 : E_MI := (12, ⟨E_R12, "isInRow", "(II)Z"⟩, prog_14_method_17_code, 6, (Option.some FieldType.boolean), false, 2, E_c189)
def E_c190 : List E_C := [(0, .aload_n 0, 1, 0, 0), (1, .getfield 190, 3, 12, 18), (4, .ifCond .eq 28, 3, 0, 0), (7, .aload_n 0, 1, 0, 0), (8, .getfield 193, 3, 12, 19), (11, .iload_n 2, 1, 0, 0), (12, .if_icmp .lt 19, 3, 0, 0), (15, .aload_n 0, 1, 0, 0), (16, .getfield 193, 3, 12, 19), (19, .iload_n 2, 1, 0, 0), (20, .if_icmp .ne 12, 3, 0, 0), (23, .aload_n 0, 1, 0, 0), (24, .getfield 190, 3, 12, 18), (27, .iload_n 1, 1, 0, 0), (28, .if_icmp .gt 4, 3, 0, 0), (31, .return_, 1, 0, 0), (32, .aload_n 0, 1, 0, 0), (33, .iload_n 1, 1, 0, 0), (34, .putfield 190, 3, 12, 18), (37, .aload_n 0, 1, 0, 0), (38, .iload_n 2, 1, 0, 0), (39, .putfield 193, 3, 12, 19), (42, .return_, 1, 0, 0)]
def E_m190 : E_MI := (12, ⟨E_R12, "fail", "(II)V"⟩, prog_14_method_18_code, 3, (Option.none : Option FieldType), false, 2, E_c190)
def E_c191 : List E_C := [(0, .iload_n 1, 1, 0, 0), (1, .aload_n 0, 1, 0, 0), (2, .getfield 162, 3, 12, 1), (5, .if_icmp .ge 12, 3, 0, 0), (8, .aload_n 0, 1, 0, 0), (9, .getfield 7, 3, 12, 0), (12, .iload_n 1, 1, 0, 0), (13, .iaload, 1, 0, 0), (14, .goto 4, 3, 0, 0), (17, .iconst (-1), 1, 0, 0), (18, .ireturn, 1, 0, 0)]
def E_m191 : E_MI := (12, ⟨E_R12, "see", "(I)I"⟩, prog_14_method_19_code, 2, (Option.some FieldType.int), false, 1, E_c191)
def E_c192 : List E_C := [(0, .aload_n 0, 1, 0, 0), (1, .getfield 29, 3, 12, 10), (4, .aload_n 0, 1, 0, 0), (5, .getfield 196, 3, 12, 13), (8, .iload_n 1, 1, 0, 0), (9, .iastore, 1, 0, 0), (10, .aload_n 0, 1, 0, 0), (11, .getfield 32, 3, 12, 11), (14, .aload_n 0, 1, 0, 0), (15, .getfield 196, 3, 12, 13), (18, .iload_n 2, 1, 0, 0), (19, .iastore, 1, 0, 0), (20, .aload_n 0, 1, 0, 0), (21, .getfield 35, 3, 12, 12), (24, .aload_n 0, 1, 0, 0), (25, .getfield 196, 3, 12, 13), (28, .iload_n 3, 1, 0, 0), (29, .iastore, 1, 0, 0), (30, .aload_n 0, 1, 0, 0), (31, .dup, 1, 0, 0), (32, .getfield 196, 3, 12, 13), (35, .iconst 1, 1, 0, 0), (36, .iadd, 1, 0, 0), (37, .putfield 196, 3, 12, 13), (40, .return_, 1, 0, 0)]
def E_m192 : E_MI := (12, ⟨E_R12, "emit", "(III)V"⟩, prog_14_method_20_code, 4, (Option.none : Option FieldType), false, 3, E_c192)
def E_c193 : List E_C := [(0, .iload_n 0, 1, 0, 0), (1, .bipush 48, 2, 0, 0), (3, .if_icmp .lt 13, 3, 0, 0), (6, .iload_n 0, 1, 0, 0), (7, .bipush 57, 2, 0, 0), (9, .if_icmp .gt 7, 3, 0, 0), (12, .iconst 1, 1, 0, 0), (13, .goto 4, 3, 0, 0), (16, .iconst 0, 1, 0, 0), (17, .ireturn, 1, 0, 0)]
def E_m193 : E_MI := (12, ⟨E_R12, "isDigit", "(I)Z"⟩, prog_14_method_21_code, 1, (Option.some FieldType.boolean), true, 1, E_c193)
def E_c194 : List E_C := [(0, .iload_n 0, 1, 0, 0), (1, .bipush 97, 2, 0, 0), (3, .if_icmp .lt 9, 3, 0, 0), (6, .iload_n 0, 1, 0, 0), (7, .bipush 122, 2, 0, 0), (9, .if_icmp .le 15, 3, 0, 0), (12, .iload_n 0, 1, 0, 0), (13, .bipush 65, 2, 0, 0), (15, .if_icmp .lt 13, 3, 0, 0), (18, .iload_n 0, 1, 0, 0), (19, .bipush 90, 2, 0, 0), (21, .if_icmp .gt 7, 3, 0, 0), (24, .iconst 1, 1, 0, 0), (25, .goto 4, 3, 0, 0), (28, .iconst 0, 1, 0, 0), (29, .ireturn, 1, 0, 0)]
def E_m194 : E_MI := (12, ⟨E_R12, "isLetter", "(I)Z"⟩, prog_14_method_22_code, 1, (Option.some FieldType.boolean), true, 1, E_c194)
def E_c195 : List E_C := [(0, .iload_n 0, 1, 0, 0), (1, .invokestatic 199, 3, 194, 0), (4, .ifCond .ne 16, 3, 0, 0), (7, .iload_n 0, 1, 0, 0), (8, .invokestatic 202, 3, 193, 0), (11, .ifCond .ne 9, 3, 0, 0), (14, .iload_n 0, 1, 0, 0), (15, .bipush 95, 2, 0, 0), (17, .if_icmp .ne 7, 3, 0, 0), (20, .iconst 1, 1, 0, 0), (21, .goto 4, 3, 0, 0), (24, .iconst 0, 1, 0, 0), (25, .ireturn, 1, 0, 0)]
def E_m195 : E_MI := (12, ⟨E_R12, "isWordByte", "(I)Z"⟩, prog_14_method_23_code, 1, (Option.some FieldType.boolean), true, 1, E_c195)
def E_c196 : List E_C := [(0, .iload_n 0, 1, 0, 0), (1, .bipush 32, 2, 0, 0), (3, .if_icmp .lt 27, 3, 0, 0), (6, .iload_n 0, 1, 0, 0), (7, .bipush 126, 2, 0, 0), (9, .if_icmp .gt 21, 3, 0, 0), (12, .iload_n 0, 1, 0, 0), (13, .invokestatic 199, 3, 194, 0), (16, .ifCond .ne 14, 3, 0, 0), (19, .iload_n 0, 1, 0, 0), (20, .invokestatic 202, 3, 193, 0), (23, .ifCond .ne 7, 3, 0, 0), (26, .iconst 1, 1, 0, 0), (27, .goto 4, 3, 0, 0), (30, .iconst 0, 1, 0, 0), (31, .ireturn, 1, 0, 0)]
def E_m196 : E_MI := (12, ⟨E_R12, "isSign", "(I)Z"⟩, prog_14_method_24_code, 1, (Option.some FieldType.boolean), true, 1, E_c196)
def E_c197 : List E_C := [(0, .iload_n 0, 1, 0, 0), (1, .bipush 32, 2, 0, 0), (3, .if_icmp .lt 9, 3, 0, 0), (6, .iload_n 0, 1, 0, 0), (7, .bipush 126, 2, 0, 0), (9, .if_icmp .le 5, 3, 0, 0), (12, .iconst 0, 1, 0, 0), (13, .ireturn, 1, 0, 0), (14, .iload_n 0, 1, 0, 0), (15, .bipush 92, 2, 0, 0), (17, .if_icmp .eq 85, 3, 0, 0), (20, .iload_n 0, 1, 0, 0), (21, .bipush 124, 2, 0, 0), (23, .if_icmp .eq 79, 3, 0, 0), (26, .iload_n 0, 1, 0, 0), (27, .bipush 42, 2, 0, 0), (29, .if_icmp .eq 73, 3, 0, 0), (32, .iload_n 0, 1, 0, 0), (33, .bipush 43, 2, 0, 0), (35, .if_icmp .eq 67, 3, 0, 0), (38, .iload_n 0, 1, 0, 0), (39, .bipush 63, 2, 0, 0), (41, .if_icmp .eq 61, 3, 0, 0), (44, .iload_n 0, 1, 0, 0), (45, .bipush 123, 2, 0, 0), (47, .if_icmp .eq 55, 3, 0, 0), (50, .iload_n 0, 1, 0, 0), (51, .bipush 125, 2, 0, 0), (53, .if_icmp .eq 49, 3, 0, 0), (56, .iload_n 0, 1, 0, 0), (57, .bipush 40, 2, 0, 0), (59, .if_icmp .eq 43, 3, 0, 0), (62, .iload_n 0, 1, 0, 0), (63, .bipush 41, 2, 0, 0), (65, .if_icmp .eq 37, 3, 0, 0), (68, .iload_n 0, 1, 0, 0), (69, .bipush 91, 2, 0, 0), (71, .if_icmp .eq 31, 3, 0, 0), (74, .iload_n 0, 1, 0, 0), (75, .bipush 93, 2, 0, 0), (77, .if_icmp .eq 25, 3, 0, 0), (80, .iload_n 0, 1, 0, 0), (81, .bipush 46, 2, 0, 0), (83, .if_icmp .eq 19, 3, 0, 0), (86, .iload_n 0, 1, 0, 0), (87, .bipush 94, 2, 0, 0), (89, .if_icmp .eq 13, 3, 0, 0), (92, .iload_n 0, 1, 0, 0), (93, .bipush 36, 2, 0, 0), (95, .if_icmp .eq 7, 3, 0, 0), (98, .iconst 1, 1, 0, 0), (99, .goto 4, 3, 0, 0), (102, .iconst 0, 1, 0, 0), (103, .ireturn, 1, 0, 0)]
def E_m197 : E_MI := (12, ⟨E_R12, "isPlain", "(I)Z"⟩, prog_14_method_25_code, 1, (Option.some FieldType.boolean), true, 1, E_c197)
def E_c198 : List E_C := [(0, .iconst 0, 1, 0, 0), (1, .istore_n 1, 1, 0, 0), (2, .iload_n 1, 1, 0, 0), (3, .bipush 8, 2, 0, 0), (5, .if_icmp .ge 24, 3, 0, 0), (8, .aload_n 0, 1, 0, 0), (9, .getfield 38, 3, 12, 14), (12, .bipush 8, 2, 0, 0), (14, .aload_n 0, 1, 0, 0), (15, .getfield 205, 3, 12, 15), (18, .imul, 1, 0, 0), (19, .iload_n 1, 1, 0, 0), (20, .iadd, 1, 0, 0), (21, .iconst 0, 1, 0, 0), (22, .iastore, 1, 0, 0), (23, .iinc 1 1, 3, 0, 0), (26, .goto (-24), 3, 0, 0), (29, .aload_n 0, 1, 0, 0), (30, .dup, 1, 0, 0), (31, .getfield 205, 3, 12, 15), (34, .iconst 1, 1, 0, 0), (35, .iadd, 1, 0, 0), (36, .putfield 205, 3, 12, 15), (39, .return_, 1, 0, 0)]
def E_m198 : E_MI := (12, ⟨E_R12, "newSet", "()V"⟩, prog_14_method_26_code, 2, (Option.none : Option FieldType), false, 0, E_c198)
def E_c199 : List E_C := [(0, .aload_n 0, 1, 0, 0), (1, .getfield 38, 3, 12, 14), (4, .bipush 8, 2, 0, 0), (6, .aload_n 0, 1, 0, 0), (7, .getfield 205, 3, 12, 15), (10, .iconst 1, 1, 0, 0), (11, .isub, 1, 0, 0), (12, .imul, 1, 0, 0), (13, .iload_n 1, 1, 0, 0), (14, .bipush 32, 2, 0, 0), (16, .idiv, 1, 0, 0), (17, .iadd, 1, 0, 0), (18, .dup2, 1, 0, 0), (19, .iaload, 1, 0, 0), (20, .iconst 1, 1, 0, 0), (21, .iload_n 1, 1, 0, 0), (22, .bipush 32, 2, 0, 0), (24, .irem, 1, 0, 0), (25, .ishl, 1, 0, 0), (26, .ior, 1, 0, 0), (27, .iastore, 1, 0, 0), (28, .return_, 1, 0, 0)]
def E_m199 : E_MI := (12, ⟨E_R12, "put", "(I)V"⟩, prog_14_method_27_code, 2, (Option.none : Option FieldType), false, 1, E_c199)
def E_c200 : List E_C := [(0, .aload_n 0, 1, 0, 0), (1, .getfield 38, 3, 12, 14), (4, .bipush 8, 2, 0, 0), (6, .iload_n 1, 1, 0, 0), (7, .imul, 1, 0, 0), (8, .iload_n 2, 1, 0, 0), (9, .bipush 32, 2, 0, 0), (11, .idiv, 1, 0, 0), (12, .iadd, 1, 0, 0), (13, .iaload, 1, 0, 0), (14, .iload_n 2, 1, 0, 0), (15, .bipush 32, 2, 0, 0), (17, .irem, 1, 0, 0), (18, .iushr, 1, 0, 0), (19, .iconst 1, 1, 0, 0), (20, .iand, 1, 0, 0), (21, .iconst 1, 1, 0, 0), (22, .if_icmp .ne 7, 3, 0, 0), (25, .iconst 1, 1, 0, 0), (26, .goto 4, 3, 0, 0), (29, .iconst 0, 1, 0, 0), (30, .ireturn, 1, 0, 0)]
def E_m200 : E_MI := (12, ⟨E_R12, "has", "(II)Z"⟩, prog_14_method_28_code, 3, (Option.some FieldType.boolean), false, 2, E_c200)
def E_c201 : List E_C := [(0, .iconst 0, 1, 0, 0), (1, .istore_n 2, 1, 0, 0), (2, .iload_n 2, 1, 0, 0), (3, .sipush 256, 3, 0, 0), (6, .if_icmp .ge 68, 3, 0, 0), (9, .iload_n 1, 1, 0, 0), (10, .bipush 100, 2, 0, 0), (12, .if_icmp .ne 10, 3, 0, 0), (15, .iload_n 2, 1, 0, 0), (16, .invokestatic 202, 3, 193, 0), (19, .goto 39, 3, 0, 0), (22, .iload_n 1, 1, 0, 0), (23, .bipush 119, 2, 0, 0), (25, .if_icmp .ne 10, 3, 0, 0), (28, .iload_n 2, 1, 0, 0), (29, .invokestatic 208, 3, 195, 0), (32, .goto 26, 3, 0, 0), (35, .iload_n 2, 1, 0, 0), (36, .bipush 9, 2, 0, 0), (38, .if_icmp .eq 15, 3, 0, 0), (41, .iload_n 2, 1, 0, 0), (42, .bipush 10, 2, 0, 0), (44, .if_icmp .eq 9, 3, 0, 0), (47, .iload_n 2, 1, 0, 0), (48, .bipush 32, 2, 0, 0), (50, .if_icmp .ne 7, 3, 0, 0), (53, .iconst 1, 1, 0, 0), (54, .goto 4, 3, 0, 0), (57, .iconst 0, 1, 0, 0), (58, .istore_n 3, 1, 0, 0), (59, .iload_n 3, 1, 0, 0), (60, .ifCond .eq 8, 3, 0, 0), (63, .aload_n 0, 1, 0, 0), (64, .iload_n 2, 1, 0, 0), (65, .invokevirtual 211, 3, 199, 0), (68, .iinc 2 1, 3, 0, 0), (71, .goto (-69), 3, 0, 0), (74, .return_, 1, 0, 0)]
def E_m201 : E_MI := (12, ⟨E_R12, "putKind", "(I)V"⟩, prog_14_method_29_code, 4, (Option.none : Option FieldType), false, 1, E_c201)
def E_c202 : List E_C := [(0, .bipush 97, 2, 0, 0), (2, .istore_n 1, 1, 0, 0), (3, .iload_n 1, 1, 0, 0), (4, .bipush 122, 2, 0, 0), (6, .if_icmp .gt 60, 3, 0, 0), (9, .aload_n 0, 1, 0, 0), (10, .getfield 214, 3, 12, 17), (13, .ifCond .eq 53, 3, 0, 0), (16, .aload_n 0, 1, 0, 0), (17, .aload_n 0, 1, 0, 0), (18, .getfield 205, 3, 12, 15), (21, .iconst 1, 1, 0, 0), (22, .isub, 1, 0, 0), (23, .iload_n 1, 1, 0, 0), (24, .invokevirtual 218, 3, 200, 0), (27, .ifCond .ne 20, 3, 0, 0), (30, .aload_n 0, 1, 0, 0), (31, .aload_n 0, 1, 0, 0), (32, .getfield 205, 3, 12, 15), (35, .iconst 1, 1, 0, 0), (36, .isub, 1, 0, 0), (37, .iload_n 1, 1, 0, 0), (38, .bipush 32, 2, 0, 0), (40, .isub, 1, 0, 0), (41, .invokevirtual 218, 3, 200, 0), (44, .ifCond .eq 16, 3, 0, 0), (47, .aload_n 0, 1, 0, 0), (48, .iload_n 1, 1, 0, 0), (49, .invokevirtual 211, 3, 199, 0), (52, .aload_n 0, 1, 0, 0), (53, .iload_n 1, 1, 0, 0), (54, .bipush 32, 2, 0, 0), (56, .isub, 1, 0, 0), (57, .invokevirtual 211, 3, 199, 0), (60, .iinc 1 1, 3, 0, 0), (63, .goto (-60), 3, 0, 0), (66, .return_, 1, 0, 0)]
def E_m202 : E_MI := (12, ⟨E_R12, "folds", "()V"⟩, prog_14_method_30_code, 2, (Option.none : Option FieldType), false, 0, E_c202)
def E_c203 : List E_C := [(0, .aload_n 0, 1, 0, 0), (1, .iconst 0, 1, 0, 0), (2, .putfield 222, 3, 12, 16), (5, .aload_n 0, 1, 0, 0), (6, .iconst 0, 1, 0, 0), (7, .putfield 190, 3, 12, 18), (10, .aload_n 0, 1, 0, 0), (11, .iconst (-1), 1, 0, 0), (12, .putfield 193, 3, 12, 19), (15, .aload_n 0, 1, 0, 0), (16, .iconst 0, 1, 0, 0), (17, .putfield 196, 3, 12, 13), (20, .aload_n 0, 1, 0, 0), (21, .iconst 0, 1, 0, 0), (22, .putfield 205, 3, 12, 15), (25, .aload_n 0, 1, 0, 0), (26, .iconst 0, 1, 0, 0), (27, .putfield 225, 3, 12, 22), (30, .aload_n 0, 1, 0, 0), (31, .getfield 45, 3, 12, 23), (34, .iconst 0, 1, 0, 0), (35, .iconst 0, 1, 0, 0), (36, .bastore, 1, 0, 0), (37, .aload_n 0, 1, 0, 0), (38, .getfield 162, 3, 12, 1), (41, .bipush 80, 2, 0, 0), (43, .if_icmp .le 11, 3, 0, 0), (46, .aload_n 0, 1, 0, 0), (47, .iconst 3, 1, 0, 0), (48, .bipush 80, 2, 0, 0), (50, .invokevirtual 228, 3, 190, 0), (53, .return_, 1, 0, 0), (54, .aload_n 0, 1, 0, 0), (55, .iconst 5, 1, 0, 0), (56, .iconst 0, 1, 0, 0), (57, .iconst 0, 1, 0, 0), (58, .invokevirtual 232, 3, 192, 0), (61, .iconst 1, 1, 0, 0), (62, .istore_n 1, 1, 0, 0), (63, .iload_n 1, 1, 0, 0), (64, .ifCond .eq 11, 3, 0, 0), (67, .aload_n 0, 1, 0, 0), (68, .invokevirtual 236, 3, 204, 0), (71, .istore_n 1, 1, 0, 0), (72, .goto (-9), 3, 0, 0), (75, .aload_n 0, 1, 0, 0), (76, .getfield 190, 3, 12, 18), (79, .ifCond .eq 4, 3, 0, 0), (82, .return_, 1, 0, 0), (83, .aload_n 0, 1, 0, 0), (84, .getfield 45, 3, 12, 23), (87, .iconst 0, 1, 0, 0), (88, .baload, 1, 0, 0), (89, .ifCond .eq 11, 3, 0, 0), (92, .aload_n 0, 1, 0, 0), (93, .bipush 7, 2, 0, 0), (95, .iconst 0, 1, 0, 0), (96, .iconst 0, 1, 0, 0), (97, .invokevirtual 232, 3, 192, 0), (100, .return_, 1, 0, 0)]
def E_m203 : E_MI := (12, ⟨E_R12, "reads", "()V"⟩, prog_14_method_31_code, 2, (Option.none : Option FieldType), false, 0, E_c203)
def E_c204 : List E_C := [(0, .aload_n 0, 1, 0, 0), (1, .aload_n 0, 1, 0, 0), (2, .getfield 222, 3, 12, 16), (5, .invokevirtual 240, 3, 191, 0), (8, .istore_n 1, 1, 0, 0), (9, .iload_n 1, 1, 0, 0), (10, .iconst (-1), 1, 0, 0), (11, .if_icmp .ne 21, 3, 0, 0), (14, .aload_n 0, 1, 0, 0), (15, .getfield 225, 3, 12, 22), (18, .ifCond .le 12, 3, 0, 0), (21, .aload_n 0, 1, 0, 0), (22, .iconst 1, 1, 0, 0), (23, .aload_n 0, 1, 0, 0), (24, .getfield 222, 3, 12, 16), (27, .invokevirtual 228, 3, 190, 0), (30, .iconst 0, 1, 0, 0), (31, .ireturn, 1, 0, 0), (32, .iload_n 1, 1, 0, 0), (33, .bipush 124, 2, 0, 0), (35, .if_icmp .ne 52, 3, 0, 0), (38, .aload_n 0, 1, 0, 0), (39, .getfield 45, 3, 12, 23), (42, .aload_n 0, 1, 0, 0), (43, .getfield 225, 3, 12, 22), (46, .baload, 1, 0, 0), (47, .ifCond .eq 11, 3, 0, 0), (50, .aload_n 0, 1, 0, 0), (51, .bipush 7, 2, 0, 0), (53, .iconst 0, 1, 0, 0), (54, .iconst 0, 1, 0, 0), (55, .invokevirtual 232, 3, 192, 0), (58, .aload_n 0, 1, 0, 0), (59, .getfield 45, 3, 12, 23), (62, .aload_n 0, 1, 0, 0), (63, .getfield 225, 3, 12, 22), (66, .iconst 1, 1, 0, 0), (67, .bastore, 1, 0, 0), (68, .aload_n 0, 1, 0, 0), (69, .iconst 5, 1, 0, 0), (70, .iconst 0, 1, 0, 0), (71, .iconst 0, 1, 0, 0), (72, .invokevirtual 232, 3, 192, 0), (75, .aload_n 0, 1, 0, 0), (76, .dup, 1, 0, 0), (77, .getfield 222, 3, 12, 16), (80, .iconst 1, 1, 0, 0), (81, .iadd, 1, 0, 0), (82, .putfield 222, 3, 12, 16), (85, .iconst 1, 1, 0, 0), (86, .ireturn, 1, 0, 0), (87, .iload_n 1, 1, 0, 0), (88, .bipush 40, 2, 0, 0), (90, .if_icmp .ne 82, 3, 0, 0), (93, .aload_n 0, 1, 0, 0), (94, .getfield 225, 3, 12, 22), (97, .bipush 10, 2, 0, 0), (99, .if_icmp .ne 12, 3, 0, 0), (102, .aload_n 0, 1, 0, 0), (103, .iconst 3, 1, 0, 0), (104, .aload_n 0, 1, 0, 0), (105, .getfield 222, 3, 12, 16), (108, .invokevirtual 228, 3, 190, 0), (111, .aload_n 0, 1, 0, 0), (112, .getfield 225, 3, 12, 22), (115, .bipush 11, 2, 0, 0), (117, .if_icmp .ne 5, 3, 0, 0), (120, .iconst 0, 1, 0, 0), (121, .ireturn, 1, 0, 0), (122, .aload_n 0, 1, 0, 0), (123, .dup, 1, 0, 0), (124, .getfield 225, 3, 12, 22), (127, .iconst 1, 1, 0, 0), (128, .iadd, 1, 0, 0), (129, .putfield 225, 3, 12, 22), (132, .aload_n 0, 1, 0, 0), (133, .getfield 45, 3, 12, 23), (136, .aload_n 0, 1, 0, 0), (137, .getfield 225, 3, 12, 22), (140, .iconst 0, 1, 0, 0), (141, .bastore, 1, 0, 0), (142, .aload_n 0, 1, 0, 0), (143, .iconst 5, 1, 0, 0), (144, .iconst 0, 1, 0, 0), (145, .iconst 0, 1, 0, 0), (146, .invokevirtual 232, 3, 192, 0), (149, .aload_n 0, 1, 0, 0), (150, .dup, 1, 0, 0), (151, .getfield 222, 3, 12, 16), (154, .iconst 1, 1, 0, 0), (155, .iadd, 1, 0, 0), (156, .putfield 222, 3, 12, 16), (159, .aload_n 0, 1, 0, 0), (160, .getfield 190, 3, 12, 18), (163, .ifCond .ne 7, 3, 0, 0), (166, .iconst 1, 1, 0, 0), (167, .goto 4, 3, 0, 0), (170, .iconst 0, 1, 0, 0), (171, .ireturn, 1, 0, 0), (172, .iload_n 1, 1, 0, 0), (173, .bipush 41, 2, 0, 0), (175, .if_icmp .ne 64, 3, 0, 0), (178, .aload_n 0, 1, 0, 0), (179, .getfield 225, 3, 12, 22), (182, .ifCond .ne 14, 3, 0, 0), (185, .aload_n 0, 1, 0, 0), (186, .iconst 1, 1, 0, 0), (187, .aload_n 0, 1, 0, 0), (188, .getfield 222, 3, 12, 16), (191, .invokevirtual 228, 3, 190, 0), (194, .iconst 0, 1, 0, 0), (195, .ireturn, 1, 0, 0), (196, .aload_n 0, 1, 0, 0), (197, .getfield 45, 3, 12, 23), (200, .aload_n 0, 1, 0, 0), (201, .getfield 225, 3, 12, 22), (204, .baload, 1, 0, 0), (205, .ifCond .eq 11, 3, 0, 0), (208, .aload_n 0, 1, 0, 0), (209, .bipush 7, 2, 0, 0), (211, .iconst 0, 1, 0, 0), (212, .iconst 0, 1, 0, 0), (213, .invokevirtual 232, 3, 192, 0), (216, .aload_n 0, 1, 0, 0), (217, .dup, 1, 0, 0), (218, .getfield 225, 3, 12, 22), (221, .iconst 1, 1, 0, 0), (222, .isub, 1, 0, 0), (223, .putfield 225, 3, 12, 22), (226, .aload_n 0, 1, 0, 0), (227, .dup, 1, 0, 0), (228, .getfield 222, 3, 12, 16), (231, .iconst 1, 1, 0, 0), (232, .iadd, 1, 0, 0), (233, .putfield 222, 3, 12, 16), (236, .goto 13, 3, 0, 0), (239, .aload_n 0, 1, 0, 0), (240, .iload_n 1, 1, 0, 0), (241, .invokevirtual 243, 3, 205, 0), (244, .ifCond .ne 5, 3, 0, 0), (247, .iconst 0, 1, 0, 0), (248, .ireturn, 1, 0, 0), (249, .aload_n 0, 1, 0, 0), (250, .invokevirtual 246, 3, 210, 0), (253, .ifCond .ne 5, 3, 0, 0), (256, .iconst 0, 1, 0, 0), (257, .ireturn, 1, 0, 0), (258, .aload_n 0, 1, 0, 0), (259, .bipush 6, 2, 0, 0), (261, .iconst 0, 1, 0, 0), (262, .iconst 0, 1, 0, 0), (263, .invokevirtual 232, 3, 192, 0), (266, .iconst 1, 1, 0, 0), (267, .ireturn, 1, 0, 0)]
def E_m204 : E_MI := (12, ⟨E_R12, "readsOne", "()Z"⟩, prog_14_method_32_code, 2, (Option.some FieldType.boolean), false, 0, E_c204)
def E_c205 : List E_C := [(0, .aload_n 0, 1, 0, 0), (1, .dup, 1, 0, 0), (2, .getfield 222, 3, 12, 16), (5, .iconst 1, 1, 0, 0), (6, .iadd, 1, 0, 0), (7, .putfield 222, 3, 12, 16), (10, .iload_n 1, 1, 0, 0), (11, .bipush 94, 2, 0, 0), (13, .if_icmp .eq 9, 3, 0, 0), (16, .iload_n 1, 1, 0, 0), (17, .bipush 36, 2, 0, 0), (19, .if_icmp .ne 22, 3, 0, 0), (22, .aload_n 0, 1, 0, 0), (23, .iload_n 1, 1, 0, 0), (24, .bipush 94, 2, 0, 0), (26, .if_icmp .ne 7, 3, 0, 0), (29, .iconst 2, 1, 0, 0), (30, .goto 4, 3, 0, 0), (33, .iconst 3, 1, 0, 0), (34, .iconst 0, 1, 0, 0), (35, .iconst 0, 1, 0, 0), (36, .invokevirtual 232, 3, 192, 0), (39, .iconst 1, 1, 0, 0), (40, .ireturn, 1, 0, 0), (41, .iload_n 1, 1, 0, 0), (42, .bipush 91, 2, 0, 0), (44, .if_icmp .ne 8, 3, 0, 0), (47, .aload_n 0, 1, 0, 0), (48, .invokevirtual 249, 3, 207, 0), (51, .ireturn, 1, 0, 0), (52, .iload_n 1, 1, 0, 0), (53, .bipush 92, 2, 0, 0), (55, .if_icmp .ne 8, 3, 0, 0), (58, .aload_n 0, 1, 0, 0), (59, .invokevirtual 252, 3, 206, 0), (62, .ireturn, 1, 0, 0), (63, .iload_n 1, 1, 0, 0), (64, .bipush 46, 2, 0, 0), (66, .if_icmp .eq 23, 3, 0, 0), (69, .iload_n 1, 1, 0, 0), (70, .invokestatic 255, 3, 197, 0), (73, .ifCond .ne 16, 3, 0, 0), (76, .aload_n 0, 1, 0, 0), (77, .iconst 1, 1, 0, 0), (78, .aload_n 0, 1, 0, 0), (79, .getfield 222, 3, 12, 16), (82, .iconst 1, 1, 0, 0), (83, .isub, 1, 0, 0), (84, .invokevirtual 228, 3, 190, 0), (87, .iconst 0, 1, 0, 0), (88, .ireturn, 1, 0, 0), (89, .aload_n 0, 1, 0, 0), (90, .invokevirtual 258, 3, 198, 0), (93, .iload_n 1, 1, 0, 0), (94, .bipush 46, 2, 0, 0), (96, .if_icmp .ne 32, 3, 0, 0), (99, .iconst 0, 1, 0, 0), (100, .istore_n 2, 1, 0, 0), (101, .iload_n 2, 1, 0, 0), (102, .sipush 256, 3, 0, 0), (105, .if_icmp .ge 20, 3, 0, 0), (108, .iload_n 2, 1, 0, 0), (109, .bipush 10, 2, 0, 0), (111, .if_icmp .eq 8, 3, 0, 0), (114, .aload_n 0, 1, 0, 0), (115, .iload_n 2, 1, 0, 0), (116, .invokevirtual 211, 3, 199, 0), (119, .iinc 2 1, 3, 0, 0), (122, .goto (-21), 3, 0, 0), (125, .goto 12, 3, 0, 0), (128, .aload_n 0, 1, 0, 0), (129, .iload_n 1, 1, 0, 0), (130, .invokevirtual 211, 3, 199, 0), (133, .aload_n 0, 1, 0, 0), (134, .invokevirtual 261, 3, 202, 0), (137, .aload_n 0, 1, 0, 0), (138, .iconst 1, 1, 0, 0), (139, .aload_n 0, 1, 0, 0), (140, .getfield 205, 3, 12, 15), (143, .iconst 1, 1, 0, 0), (144, .isub, 1, 0, 0), (145, .iconst 0, 1, 0, 0), (146, .invokevirtual 232, 3, 192, 0), (149, .iconst 1, 1, 0, 0), (150, .ireturn, 1, 0, 0)]
def E_m205 : E_MI := (12, ⟨E_R12, "atom", "(I)Z"⟩, prog_14_method_33_code, 3, (Option.some FieldType.boolean), false, 1, E_c205)
def E_c206 : List E_C := [(0, .aload_n 0, 1, 0, 0), (1, .aload_n 0, 1, 0, 0), (2, .getfield 222, 3, 12, 16), (5, .invokevirtual 240, 3, 191, 0), (8, .istore_n 1, 1, 0, 0), (9, .iload_n 1, 1, 0, 0), (10, .bipush 98, 2, 0, 0), (12, .if_icmp .ne 22, 3, 0, 0), (15, .aload_n 0, 1, 0, 0), (16, .dup, 1, 0, 0), (17, .getfield 222, 3, 12, 16), (20, .iconst 1, 1, 0, 0), (21, .iadd, 1, 0, 0), (22, .putfield 222, 3, 12, 16), (25, .aload_n 0, 1, 0, 0), (26, .iconst 4, 1, 0, 0), (27, .iconst 0, 1, 0, 0), (28, .iconst 0, 1, 0, 0), (29, .invokevirtual 232, 3, 192, 0), (32, .iconst 1, 1, 0, 0), (33, .ireturn, 1, 0, 0), (34, .iload_n 1, 1, 0, 0), (35, .bipush 100, 2, 0, 0), (37, .if_icmp .eq 15, 3, 0, 0), (40, .iload_n 1, 1, 0, 0), (41, .bipush 119, 2, 0, 0), (43, .if_icmp .eq 9, 3, 0, 0), (46, .iload_n 1, 1, 0, 0), (47, .bipush 115, 2, 0, 0), (49, .if_icmp .ne 7, 3, 0, 0), (52, .iconst 1, 1, 0, 0), (53, .goto 4, 3, 0, 0), (56, .iconst 0, 1, 0, 0), (57, .istore_n 2, 1, 0, 0), (58, .iload_n 2, 1, 0, 0), (59, .ifCond .ne 33, 3, 0, 0), (62, .iload_n 1, 1, 0, 0), (63, .bipush 110, 2, 0, 0), (65, .if_icmp .eq 27, 3, 0, 0), (68, .iload_n 1, 1, 0, 0), (69, .bipush 116, 2, 0, 0), (71, .if_icmp .eq 21, 3, 0, 0), (74, .iload_n 1, 1, 0, 0), (75, .invokestatic 264, 3, 196, 0), (78, .ifCond .ne 14, 3, 0, 0), (81, .aload_n 0, 1, 0, 0), (82, .iconst 1, 1, 0, 0), (83, .aload_n 0, 1, 0, 0), (84, .getfield 222, 3, 12, 16), (87, .invokevirtual 228, 3, 190, 0), (90, .iconst 0, 1, 0, 0), (91, .ireturn, 1, 0, 0), (92, .aload_n 0, 1, 0, 0), (93, .dup, 1, 0, 0), (94, .getfield 222, 3, 12, 16), (97, .iconst 1, 1, 0, 0), (98, .iadd, 1, 0, 0), (99, .putfield 222, 3, 12, 16), (102, .aload_n 0, 1, 0, 0), (103, .invokevirtual 258, 3, 198, 0), (106, .iload_n 2, 1, 0, 0), (107, .ifCond .eq 11, 3, 0, 0), (110, .aload_n 0, 1, 0, 0), (111, .iload_n 1, 1, 0, 0), (112, .invokevirtual 267, 3, 201, 0), (115, .goto 30, 3, 0, 0), (118, .aload_n 0, 1, 0, 0), (119, .iload_n 1, 1, 0, 0), (120, .bipush 110, 2, 0, 0), (122, .if_icmp .ne 8, 3, 0, 0), (125, .bipush 10, 2, 0, 0), (127, .goto 15, 3, 0, 0), (130, .iload_n 1, 1, 0, 0), (131, .bipush 116, 2, 0, 0), (133, .if_icmp .ne 8, 3, 0, 0), (136, .bipush 9, 2, 0, 0), (138, .goto 4, 3, 0, 0), (141, .iload_n 1, 1, 0, 0), (142, .invokevirtual 211, 3, 199, 0), (145, .aload_n 0, 1, 0, 0), (146, .iconst 1, 1, 0, 0), (147, .aload_n 0, 1, 0, 0), (148, .getfield 205, 3, 12, 15), (151, .iconst 1, 1, 0, 0), (152, .isub, 1, 0, 0), (153, .iconst 0, 1, 0, 0), (154, .invokevirtual 232, 3, 192, 0), (157, .iconst 1, 1, 0, 0), (158, .ireturn, 1, 0, 0)]
def E_m206 : E_MI := (12, ⟨E_R12, "escaped", "()Z"⟩, prog_14_method_34_code, 3, (Option.some FieldType.boolean), false, 0, E_c206)
def E_c207 : List E_C := [(0, .aload_n 0, 1, 0, 0), (1, .aload_n 0, 1, 0, 0), (2, .getfield 222, 3, 12, 16), (5, .invokevirtual 240, 3, 191, 0), (8, .bipush 94, 2, 0, 0), (10, .if_icmp .ne 7, 3, 0, 0), (13, .iconst 1, 1, 0, 0), (14, .goto 4, 3, 0, 0), (17, .iconst 0, 1, 0, 0), (18, .istore_n 1, 1, 0, 0), (19, .iload_n 1, 1, 0, 0), (20, .ifCond .eq 13, 3, 0, 0), (23, .aload_n 0, 1, 0, 0), (24, .dup, 1, 0, 0), (25, .getfield 222, 3, 12, 16), (28, .iconst 1, 1, 0, 0), (29, .iadd, 1, 0, 0), (30, .putfield 222, 3, 12, 16), (33, .aload_n 0, 1, 0, 0), (34, .invokevirtual 258, 3, 198, 0), (37, .iconst 0, 1, 0, 0), (38, .istore_n 2, 1, 0, 0), (39, .aload_n 0, 1, 0, 0), (40, .aload_n 0, 1, 0, 0), (41, .getfield 222, 3, 12, 16), (44, .invokevirtual 240, 3, 191, 0), (47, .bipush 93, 2, 0, 0), (49, .if_icmp .ne 7, 3, 0, 0), (52, .iload_n 2, 1, 0, 0), (53, .ifCond .ne 103, 3, 0, 0), (56, .aload_n 0, 1, 0, 0), (57, .aload_n 0, 1, 0, 0), (58, .getfield 222, 3, 12, 16), (61, .invokevirtual 240, 3, 191, 0), (64, .bipush 92, 2, 0, 0), (66, .if_icmp .ne 75, 3, 0, 0), (69, .aload_n 0, 1, 0, 0), (70, .aload_n 0, 1, 0, 0), (71, .getfield 222, 3, 12, 16), (74, .iconst 1, 1, 0, 0), (75, .iadd, 1, 0, 0), (76, .invokevirtual 240, 3, 191, 0), (79, .bipush 100, 2, 0, 0), (81, .if_icmp .eq 33, 3, 0, 0), (84, .aload_n 0, 1, 0, 0), (85, .aload_n 0, 1, 0, 0), (86, .getfield 222, 3, 12, 16), (89, .iconst 1, 1, 0, 0), (90, .iadd, 1, 0, 0), (91, .invokevirtual 240, 3, 191, 0), (94, .bipush 119, 2, 0, 0), (96, .if_icmp .eq 18, 3, 0, 0), (99, .aload_n 0, 1, 0, 0), (100, .aload_n 0, 1, 0, 0), (101, .getfield 222, 3, 12, 16), (104, .iconst 1, 1, 0, 0), (105, .iadd, 1, 0, 0), (106, .invokevirtual 240, 3, 191, 0), (109, .bipush 115, 2, 0, 0), (111, .if_icmp .ne 30, 3, 0, 0), (114, .aload_n 0, 1, 0, 0), (115, .aload_n 0, 1, 0, 0), (116, .aload_n 0, 1, 0, 0), (117, .getfield 222, 3, 12, 16), (120, .iconst 1, 1, 0, 0), (121, .iadd, 1, 0, 0), (122, .invokevirtual 240, 3, 191, 0), (125, .invokevirtual 267, 3, 201, 0), (128, .aload_n 0, 1, 0, 0), (129, .dup, 1, 0, 0), (130, .getfield 222, 3, 12, 16), (133, .iconst 2, 1, 0, 0), (134, .iadd, 1, 0, 0), (135, .putfield 222, 3, 12, 16), (138, .goto 12, 3, 0, 0), (141, .aload_n 0, 1, 0, 0), (142, .invokevirtual 270, 3, 208, 0), (145, .ifCond .ne 5, 3, 0, 0), (148, .iconst 0, 1, 0, 0), (149, .ireturn, 1, 0, 0), (150, .iinc 2 1, 3, 0, 0), (153, .goto (-114), 3, 0, 0), (156, .aload_n 0, 1, 0, 0), (157, .dup, 1, 0, 0), (158, .getfield 222, 3, 12, 16), (161, .iconst 1, 1, 0, 0), (162, .iadd, 1, 0, 0), (163, .putfield 222, 3, 12, 16), (166, .aload_n 0, 1, 0, 0), (167, .invokevirtual 261, 3, 202, 0), (170, .bipush 8, 2, 0, 0), (172, .aload_n 0, 1, 0, 0), (173, .getfield 205, 3, 12, 15), (176, .imul, 1, 0, 0), (177, .bipush 8, 2, 0, 0), (179, .isub, 1, 0, 0), (180, .istore_n 3, 1, 0, 0), (181, .iload_n 3, 1, 0, 0), (182, .bipush 8, 2, 0, 0), (184, .aload_n 0, 1, 0, 0), (185, .getfield 205, 3, 12, 15), (188, .imul, 1, 0, 0), (189, .if_icmp .ge 27, 3, 0, 0), (192, .iload_n 1, 1, 0, 0), (193, .ifCond .eq 23, 3, 0, 0), (196, .aload_n 0, 1, 0, 0), (197, .getfield 38, 3, 12, 14), (200, .iload_n 3, 1, 0, 0), (201, .aload_n 0, 1, 0, 0), (202, .getfield 38, 3, 12, 14), (205, .iload_n 3, 1, 0, 0), (206, .iaload, 1, 0, 0), (207, .iconst (-1), 1, 0, 0), (208, .ixor, 1, 0, 0), (209, .iastore, 1, 0, 0), (210, .iinc 3 1, 3, 0, 0), (213, .goto (-32), 3, 0, 0), (216, .aload_n 0, 1, 0, 0), (217, .iconst 1, 1, 0, 0), (218, .aload_n 0, 1, 0, 0), (219, .getfield 205, 3, 12, 15), (222, .iconst 1, 1, 0, 0), (223, .isub, 1, 0, 0), (224, .iconst 0, 1, 0, 0), (225, .invokevirtual 232, 3, 192, 0), (228, .iconst 1, 1, 0, 0), (229, .ireturn, 1, 0, 0)]
def E_m207 : E_MI := (12, ⟨E_R12, "listed", "()Z"⟩, prog_14_method_35_code, 4, (Option.some FieldType.boolean), false, 0, E_c207)
def E_c208 : List E_C := [(0, .aload_n 0, 1, 0, 0), (1, .invokevirtual 273, 3, 209, 0), (4, .istore_n 1, 1, 0, 0), (5, .iload_n 1, 1, 0, 0), (6, .iconst (-1), 1, 0, 0), (7, .if_icmp .ne 5, 3, 0, 0), (10, .iconst 0, 1, 0, 0), (11, .ireturn, 1, 0, 0), (12, .aload_n 0, 1, 0, 0), (13, .aload_n 0, 1, 0, 0), (14, .getfield 222, 3, 12, 16), (17, .invokevirtual 240, 3, 191, 0), (20, .bipush 45, 2, 0, 0), (22, .if_icmp .eq 10, 3, 0, 0), (25, .aload_n 0, 1, 0, 0), (26, .iload_n 1, 1, 0, 0), (27, .invokevirtual 211, 3, 199, 0), (30, .iconst 1, 1, 0, 0), (31, .ireturn, 1, 0, 0), (32, .aload_n 0, 1, 0, 0), (33, .dup, 1, 0, 0), (34, .getfield 222, 3, 12, 16), (37, .iconst 1, 1, 0, 0), (38, .iadd, 1, 0, 0), (39, .putfield 222, 3, 12, 16), (42, .aload_n 0, 1, 0, 0), (43, .getfield 222, 3, 12, 16), (46, .istore_n 2, 1, 0, 0), (47, .aload_n 0, 1, 0, 0), (48, .invokevirtual 273, 3, 209, 0), (51, .istore_n 3, 1, 0, 0), (52, .iload_n 3, 1, 0, 0), (53, .iconst (-1), 1, 0, 0), (54, .if_icmp .ne 5, 3, 0, 0), (57, .iconst 0, 1, 0, 0), (58, .ireturn, 1, 0, 0), (59, .iload_n 3, 1, 0, 0), (60, .iload_n 1, 1, 0, 0), (61, .if_icmp .ge 9, 3, 0, 0), (64, .aload_n 0, 1, 0, 0), (65, .iconst 2, 1, 0, 0), (66, .iload_n 2, 1, 0, 0), (67, .invokevirtual 228, 3, 190, 0), (70, .iload_n 1, 1, 0, 0), (71, .istore 4, 2, 0, 0), (73, .iload 4, 2, 0, 0), (75, .iload_n 3, 1, 0, 0), (76, .if_icmp .gt 15, 3, 0, 0), (79, .aload_n 0, 1, 0, 0), (80, .iload 4, 2, 0, 0), (82, .invokevirtual 211, 3, 199, 0), (85, .iinc 4 1, 3, 0, 0), (88, .goto (-15), 3, 0, 0), (91, .iconst 1, 1, 0, 0), (92, .ireturn, 1, 0, 0)]
def E_m208 : E_MI := (12, ⟨E_R12, "piece", "()Z"⟩, prog_14_method_36_code, 5, (Option.some FieldType.boolean), false, 0, E_c208)
def E_c209 : List E_C := [(0, .aload_n 0, 1, 0, 0), (1, .aload_n 0, 1, 0, 0), (2, .getfield 222, 3, 12, 16), (5, .invokevirtual 240, 3, 191, 0), (8, .istore_n 1, 1, 0, 0), (9, .iload_n 1, 1, 0, 0), (10, .bipush 92, 2, 0, 0), (12, .if_icmp .ne 86, 3, 0, 0), (15, .aload_n 0, 1, 0, 0), (16, .dup, 1, 0, 0), (17, .getfield 222, 3, 12, 16), (20, .iconst 1, 1, 0, 0), (21, .iadd, 1, 0, 0), (22, .putfield 222, 3, 12, 16), (25, .aload_n 0, 1, 0, 0), (26, .aload_n 0, 1, 0, 0), (27, .getfield 222, 3, 12, 16), (30, .invokevirtual 240, 3, 191, 0), (33, .istore_n 2, 1, 0, 0), (34, .iload_n 2, 1, 0, 0), (35, .bipush 110, 2, 0, 0), (37, .if_icmp .eq 27, 3, 0, 0), (40, .iload_n 2, 1, 0, 0), (41, .bipush 116, 2, 0, 0), (43, .if_icmp .eq 21, 3, 0, 0), (46, .iload_n 2, 1, 0, 0), (47, .invokestatic 264, 3, 196, 0), (50, .ifCond .ne 14, 3, 0, 0), (53, .aload_n 0, 1, 0, 0), (54, .iconst 1, 1, 0, 0), (55, .aload_n 0, 1, 0, 0), (56, .getfield 222, 3, 12, 16), (59, .invokevirtual 228, 3, 190, 0), (62, .iconst (-1), 1, 0, 0), (63, .ireturn, 1, 0, 0), (64, .aload_n 0, 1, 0, 0), (65, .dup, 1, 0, 0), (66, .getfield 222, 3, 12, 16), (69, .iconst 1, 1, 0, 0), (70, .iadd, 1, 0, 0), (71, .putfield 222, 3, 12, 16), (74, .iload_n 2, 1, 0, 0), (75, .bipush 110, 2, 0, 0), (77, .if_icmp .ne 8, 3, 0, 0), (80, .bipush 10, 2, 0, 0), (82, .goto 15, 3, 0, 0), (85, .iload_n 2, 1, 0, 0), (86, .bipush 116, 2, 0, 0), (88, .if_icmp .ne 8, 3, 0, 0), (91, .bipush 9, 2, 0, 0), (93, .goto 4, 3, 0, 0), (96, .iload_n 2, 1, 0, 0), (97, .ireturn, 1, 0, 0), (98, .iload_n 1, 1, 0, 0), (99, .bipush 32, 2, 0, 0), (101, .if_icmp .lt 21, 3, 0, 0), (104, .iload_n 1, 1, 0, 0), (105, .bipush 126, 2, 0, 0), (107, .if_icmp .gt 15, 3, 0, 0), (110, .iload_n 1, 1, 0, 0), (111, .bipush 93, 2, 0, 0), (113, .if_icmp .eq 9, 3, 0, 0), (116, .iload_n 1, 1, 0, 0), (117, .bipush 45, 2, 0, 0), (119, .if_icmp .ne 14, 3, 0, 0), (122, .aload_n 0, 1, 0, 0), (123, .iconst 1, 1, 0, 0), (124, .aload_n 0, 1, 0, 0), (125, .getfield 222, 3, 12, 16), (128, .invokevirtual 228, 3, 190, 0), (131, .iconst (-1), 1, 0, 0), (132, .ireturn, 1, 0, 0), (133, .aload_n 0, 1, 0, 0), (134, .dup, 1, 0, 0), (135, .getfield 222, 3, 12, 16), (138, .iconst 1, 1, 0, 0), (139, .iadd, 1, 0, 0), (140, .putfield 222, 3, 12, 16), (143, .iload_n 1, 1, 0, 0), (144, .ireturn, 1, 0, 0)]
def E_m209 : E_MI := (12, ⟨E_R12, "one", "()I"⟩, prog_14_method_37_code, 3, (Option.some FieldType.int), false, 0, E_c209)
def E_c210 : List E_C := [(0, .aload_n 0, 1, 0, 0), (1, .aload_n 0, 1, 0, 0), (2, .getfield 222, 3, 12, 16), (5, .invokevirtual 240, 3, 191, 0), (8, .istore_n 1, 1, 0, 0), (9, .iload_n 1, 1, 0, 0), (10, .bipush 42, 2, 0, 0), (12, .if_icmp .eq 15, 3, 0, 0), (15, .iload_n 1, 1, 0, 0), (16, .bipush 43, 2, 0, 0), (18, .if_icmp .eq 9, 3, 0, 0), (21, .iload_n 1, 1, 0, 0), (22, .bipush 63, 2, 0, 0), (24, .if_icmp .ne 45, 3, 0, 0), (27, .aload_n 0, 1, 0, 0), (28, .iload_n 1, 1, 0, 0), (29, .bipush 42, 2, 0, 0), (31, .if_icmp .ne 8, 3, 0, 0), (34, .bipush 8, 2, 0, 0), (36, .goto 16, 3, 0, 0), (39, .iload_n 1, 1, 0, 0), (40, .bipush 43, 2, 0, 0), (42, .if_icmp .ne 8, 3, 0, 0), (45, .bipush 9, 2, 0, 0), (47, .goto 5, 3, 0, 0), (50, .bipush 10, 2, 0, 0), (52, .iconst 0, 1, 0, 0), (53, .iconst 0, 1, 0, 0), (54, .invokevirtual 232, 3, 192, 0), (57, .aload_n 0, 1, 0, 0), (58, .dup, 1, 0, 0), (59, .getfield 222, 3, 12, 16), (62, .iconst 1, 1, 0, 0), (63, .iadd, 1, 0, 0), (64, .putfield 222, 3, 12, 16), (67, .iconst 1, 1, 0, 0), (68, .ireturn, 1, 0, 0), (69, .iload_n 1, 1, 0, 0), (70, .bipush 123, 2, 0, 0), (72, .if_icmp .eq 5, 3, 0, 0), (75, .iconst 1, 1, 0, 0), (76, .ireturn, 1, 0, 0), (77, .aload_n 0, 1, 0, 0), (78, .dup, 1, 0, 0), (79, .getfield 222, 3, 12, 16), (82, .iconst 1, 1, 0, 0), (83, .iadd, 1, 0, 0), (84, .putfield 222, 3, 12, 16), (87, .aload_n 0, 1, 0, 0), (88, .invokevirtual 277, 3, 211, 0), (91, .istore_n 2, 1, 0, 0), (92, .iload_n 2, 1, 0, 0), (93, .iconst (-1), 1, 0, 0), (94, .if_icmp .ne 5, 3, 0, 0), (97, .iconst 0, 1, 0, 0), (98, .ireturn, 1, 0, 0), (99, .iload_n 2, 1, 0, 0), (100, .istore_n 3, 1, 0, 0), (101, .aload_n 0, 1, 0, 0), (102, .aload_n 0, 1, 0, 0), (103, .getfield 222, 3, 12, 16), (106, .invokevirtual 240, 3, 191, 0), (109, .bipush 44, 2, 0, 0), (111, .if_icmp .ne 58, 3, 0, 0), (114, .aload_n 0, 1, 0, 0), (115, .dup, 1, 0, 0), (116, .getfield 222, 3, 12, 16), (119, .iconst 1, 1, 0, 0), (120, .iadd, 1, 0, 0), (121, .putfield 222, 3, 12, 16), (124, .iconst (-1), 1, 0, 0), (125, .istore_n 3, 1, 0, 0), (126, .aload_n 0, 1, 0, 0), (127, .aload_n 0, 1, 0, 0), (128, .getfield 222, 3, 12, 16), (131, .invokevirtual 240, 3, 191, 0), (134, .bipush 125, 2, 0, 0), (136, .if_icmp .eq 33, 3, 0, 0), (139, .aload_n 0, 1, 0, 0), (140, .getfield 222, 3, 12, 16), (143, .istore 4, 2, 0, 0), (145, .aload_n 0, 1, 0, 0), (146, .invokevirtual 277, 3, 211, 0), (149, .istore_n 3, 1, 0, 0), (150, .iload_n 3, 1, 0, 0), (151, .iconst (-1), 1, 0, 0), (152, .if_icmp .ne 5, 3, 0, 0), (155, .iconst 0, 1, 0, 0), (156, .ireturn, 1, 0, 0), (157, .iload_n 3, 1, 0, 0), (158, .iload_n 2, 1, 0, 0), (159, .if_icmp .ge 10, 3, 0, 0), (162, .aload_n 0, 1, 0, 0), (163, .iconst 2, 1, 0, 0), (164, .iload 4, 2, 0, 0), (166, .invokevirtual 228, 3, 190, 0), (169, .aload_n 0, 1, 0, 0), (170, .aload_n 0, 1, 0, 0), (171, .getfield 222, 3, 12, 16), (174, .invokevirtual 240, 3, 191, 0), (177, .bipush 125, 2, 0, 0), (179, .if_icmp .eq 14, 3, 0, 0), (182, .aload_n 0, 1, 0, 0), (183, .iconst 1, 1, 0, 0), (184, .aload_n 0, 1, 0, 0), (185, .getfield 222, 3, 12, 16), (188, .invokevirtual 228, 3, 190, 0), (191, .iconst 0, 1, 0, 0), (192, .ireturn, 1, 0, 0), (193, .aload_n 0, 1, 0, 0), (194, .dup, 1, 0, 0), (195, .getfield 222, 3, 12, 16), (198, .iconst 1, 1, 0, 0), (199, .iadd, 1, 0, 0), (200, .putfield 222, 3, 12, 16), (203, .aload_n 0, 1, 0, 0), (204, .bipush 11, 2, 0, 0), (206, .iload_n 2, 1, 0, 0), (207, .iload_n 3, 1, 0, 0), (208, .invokevirtual 232, 3, 192, 0), (211, .iconst 1, 1, 0, 0), (212, .ireturn, 1, 0, 0)]
def E_m210 : E_MI := (12, ⟨E_R12, "counted", "()Z"⟩, prog_14_method_38_code, 5, (Option.some FieldType.boolean), false, 0, E_c210)
def E_c211 : List E_C := [(0, .aload_n 0, 1, 0, 0), (1, .aload_n 0, 1, 0, 0), (2, .getfield 222, 3, 12, 16), (5, .invokevirtual 240, 3, 191, 0), (8, .invokestatic 202, 3, 193, 0), (11, .ifCond .ne 14, 3, 0, 0), (14, .aload_n 0, 1, 0, 0), (15, .iconst 1, 1, 0, 0), (16, .aload_n 0, 1, 0, 0), (17, .getfield 222, 3, 12, 16), (20, .invokevirtual 228, 3, 190, 0), (23, .iconst (-1), 1, 0, 0), (24, .ireturn, 1, 0, 0), (25, .aload_n 0, 1, 0, 0), (26, .getfield 222, 3, 12, 16), (29, .istore_n 1, 1, 0, 0), (30, .aload_n 0, 1, 0, 0), (31, .aload_n 0, 1, 0, 0), (32, .getfield 222, 3, 12, 16), (35, .invokevirtual 240, 3, 191, 0), (38, .bipush 48, 2, 0, 0), (40, .isub, 1, 0, 0), (41, .istore_n 2, 1, 0, 0), (42, .aload_n 0, 1, 0, 0), (43, .dup, 1, 0, 0), (44, .getfield 222, 3, 12, 16), (47, .iconst 1, 1, 0, 0), (48, .iadd, 1, 0, 0), (49, .putfield 222, 3, 12, 16), (52, .aload_n 0, 1, 0, 0), (53, .aload_n 0, 1, 0, 0), (54, .getfield 222, 3, 12, 16), (57, .invokevirtual 240, 3, 191, 0), (60, .invokestatic 202, 3, 193, 0), (63, .ifCond .eq 30, 3, 0, 0), (66, .bipush 10, 2, 0, 0), (68, .iload_n 2, 1, 0, 0), (69, .imul, 1, 0, 0), (70, .aload_n 0, 1, 0, 0), (71, .aload_n 0, 1, 0, 0), (72, .getfield 222, 3, 12, 16), (75, .invokevirtual 240, 3, 191, 0), (78, .iadd, 1, 0, 0), (79, .bipush 48, 2, 0, 0), (81, .isub, 1, 0, 0), (82, .istore_n 2, 1, 0, 0), (83, .aload_n 0, 1, 0, 0), (84, .dup, 1, 0, 0), (85, .getfield 222, 3, 12, 16), (88, .iconst 1, 1, 0, 0), (89, .iadd, 1, 0, 0), (90, .putfield 222, 3, 12, 16), (93, .iload_n 2, 1, 0, 0), (94, .bipush 20, 2, 0, 0), (96, .if_icmp .le 9, 3, 0, 0), (99, .aload_n 0, 1, 0, 0), (100, .iconst 3, 1, 0, 0), (101, .iload_n 1, 1, 0, 0), (102, .invokevirtual 228, 3, 190, 0), (105, .iload_n 2, 1, 0, 0), (106, .ireturn, 1, 0, 0)]
def E_m211 : E_MI := (12, ⟨E_R12, "number", "()I"⟩, prog_14_method_39_code, 3, (Option.some FieldType.int), false, 0, E_c211)
def E_c212 : List E_C := [(0, .iconst 0, 1, 0, 0), (1, .istore_n 1, 1, 0, 0), (2, .iconst 0, 1, 0, 0), (3, .istore_n 2, 1, 0, 0), (4, .iload_n 2, 1, 0, 0), (5, .aload_n 0, 1, 0, 0), (6, .getfield 196, 3, 12, 13), (9, .if_icmp .ge 176, 3, 0, 0), (12, .aload_n 0, 1, 0, 0), (13, .getfield 29, 3, 12, 10), (16, .iload_n 2, 1, 0, 0), (17, .iaload, 1, 0, 0), (18, .istore_n 3, 1, 0, 0), (19, .iload_n 3, 1, 0, 0), (20, .iconst 5, 1, 0, 0), (21, .if_icmp .gt 25, 3, 0, 0), (24, .aload_n 0, 1, 0, 0), (25, .getfield 48, 3, 12, 24), (28, .iload_n 1, 1, 0, 0), (29, .iload_n 3, 1, 0, 0), (30, .iconst 5, 1, 0, 0), (31, .if_icmp .ne 7, 3, 0, 0), (34, .lconst 0, 1, 0, 0), (35, .goto 4, 3, 0, 0), (38, .lconst 1, 1, 0, 0), (39, .lastore, 1, 0, 0), (40, .iinc 1 1, 3, 0, 0), (43, .goto 136, 3, 0, 0), (46, .iload_n 3, 1, 0, 0), (47, .bipush 7, 2, 0, 0), (49, .if_icmp .gt 38, 3, 0, 0), (52, .iinc 1 (-1), 3, 0, 0), (55, .aload_n 0, 1, 0, 0), (56, .getfield 48, 3, 12, 24), (59, .iload_n 1, 1, 0, 0), (60, .iconst 1, 1, 0, 0), (61, .isub, 1, 0, 0), (62, .dup2, 1, 0, 0), (63, .laload, 1, 0, 0), (64, .aload_n 0, 1, 0, 0), (65, .getfield 48, 3, 12, 24), (68, .iload_n 1, 1, 0, 0), (69, .laload, 1, 0, 0), (70, .iload_n 3, 1, 0, 0), (71, .bipush 7, 2, 0, 0), (73, .if_icmp .ne 7, 3, 0, 0), (76, .lconst 1, 1, 0, 0), (77, .goto 4, 3, 0, 0), (80, .lconst 0, 1, 0, 0), (81, .ladd, 1, 0, 0), (82, .ladd, 1, 0, 0), (83, .lastore, 1, 0, 0), (84, .goto 95, 3, 0, 0), (87, .iload_n 3, 1, 0, 0), (88, .bipush 11, 2, 0, 0), (90, .if_icmp .ge 18, 3, 0, 0), (93, .aload_n 0, 1, 0, 0), (94, .getfield 48, 3, 12, 24), (97, .iload_n 1, 1, 0, 0), (98, .iconst 1, 1, 0, 0), (99, .isub, 1, 0, 0), (100, .dup2, 1, 0, 0), (101, .laload, 1, 0, 0), (102, .lconst 1, 1, 0, 0), (103, .ladd, 1, 0, 0), (104, .lastore, 1, 0, 0), (105, .goto 74, 3, 0, 0), (108, .aload_n 0, 1, 0, 0), (109, .getfield 48, 3, 12, 24), (112, .iload_n 1, 1, 0, 0), (113, .iconst 1, 1, 0, 0), (114, .isub, 1, 0, 0), (115, .laload, 1, 0, 0), (116, .lstore 4, 2, 0, 0), (118, .aload_n 0, 1, 0, 0), (119, .getfield 48, 3, 12, 24), (122, .iload_n 1, 1, 0, 0), (123, .iconst 1, 1, 0, 0), (124, .isub, 1, 0, 0), (125, .aload_n 0, 1, 0, 0), (126, .getfield 35, 3, 12, 12), (129, .iload_n 2, 1, 0, 0), (130, .iaload, 1, 0, 0), (131, .iconst (-1), 1, 0, 0), (132, .if_icmp .ne 20, 3, 0, 0), (135, .aload_n 0, 1, 0, 0), (136, .getfield 32, 3, 12, 11), (139, .iload_n 2, 1, 0, 0), (140, .iaload, 1, 0, 0), (141, .iconst 1, 1, 0, 0), (142, .iadd, 1, 0, 0), (143, .i2l, 1, 0, 0), (144, .lload 4, 2, 0, 0), (146, .lmul, 1, 0, 0), (147, .lconst 1, 1, 0, 0), (148, .ladd, 1, 0, 0), (149, .goto 29, 3, 0, 0), (152, .aload_n 0, 1, 0, 0), (153, .getfield 35, 3, 12, 12), (156, .iload_n 2, 1, 0, 0), (157, .iaload, 1, 0, 0), (158, .i2l, 1, 0, 0), (159, .lload 4, 2, 0, 0), (161, .lmul, 1, 0, 0), (162, .aload_n 0, 1, 0, 0), (163, .getfield 35, 3, 12, 12), (166, .iload_n 2, 1, 0, 0), (167, .iaload, 1, 0, 0), (168, .i2l, 1, 0, 0), (169, .ladd, 1, 0, 0), (170, .aload_n 0, 1, 0, 0), (171, .getfield 32, 3, 12, 11), (174, .iload_n 2, 1, 0, 0), (175, .iaload, 1, 0, 0), (176, .i2l, 1, 0, 0), (177, .lsub, 1, 0, 0), (178, .lastore, 1, 0, 0), (179, .iinc 2 1, 3, 0, 0), (182, .goto (-178), 3, 0, 0), (185, .aload_n 0, 1, 0, 0), (186, .getfield 48, 3, 12, 24), (189, .iconst 0, 1, 0, 0), (190, .laload, 1, 0, 0), (191, .lreturn, 1, 0, 0)]
def E_m212 : E_MI := (12, ⟨E_R12, "sized", "()J"⟩, prog_14_method_40_code, 6, (Option.some FieldType.long), false, 0, E_c212)
def E_c213 : List E_C := [(0, .iload_n 0, 1, 0, 0), (1, .bipush 16, 2, 0, 0), (3, .ishr, 1, 0, 0), (4, .ireturn, 1, 0, 0)]
def E_m213 : E_MI := (12, ⟨E_R12, "sizeOf", "(I)I"⟩, prog_14_method_41_code, 1, (Option.some FieldType.int), true, 1, E_c213)
def E_c214 : List E_C := [(0, .iload_n 0, 1, 0, 0), (1, .bipush 8, 2, 0, 0), (3, .ishr, 1, 0, 0), (4, .sipush 255, 3, 0, 0), (7, .iand, 1, 0, 0), (8, .ireturn, 1, 0, 0)]
def E_m214 : E_MI := (12, ⟨E_R12, "firstOf", "(I)I"⟩, prog_14_method_42_code, 1, (Option.some FieldType.int), true, 1, E_c214)
def E_c215 : List E_C := [(0, .iload_n 0, 1, 0, 0), (1, .sipush 255, 3, 0, 0), (4, .iand, 1, 0, 0), (5, .ireturn, 1, 0, 0)]
def E_m215 : E_MI := (12, ⟨E_R12, "secondOf", "(I)I"⟩, prog_14_method_43_code, 1, (Option.some FieldType.int), true, 1, E_c215)
def E_c216 : List E_C := [(0, .iload_n 0, 1, 0, 0), (1, .ifCond .ne 7, 3, 0, 0), (4, .iconst 0, 1, 0, 0), (5, .goto 30, 3, 0, 0), (8, .iload_n 0, 1, 0, 0), (9, .iconst 1, 1, 0, 0), (10, .if_icmp .ne 14, 3, 0, 0), (13, .ldc 185, 2, 0, 0), (15, .sipush 256, 3, 0, 0), (18, .iload_n 1, 1, 0, 0), (19, .imul, 1, 0, 0), (20, .iadd, 1, 0, 0), (21, .goto 14, 3, 0, 0), (24, .ldc_w 280, 3, 0, 0), (27, .sipush 256, 3, 0, 0), (30, .iload_n 1, 1, 0, 0), (31, .imul, 1, 0, 0), (32, .iadd, 1, 0, 0), (33, .iload_n 2, 1, 0, 0), (34, .iadd, 1, 0, 0), (35, .ireturn, 1, 0, 0)]
def E_m216 : E_MI := (12, ⟨E_R12, "endOf", "(III)I"⟩, prog_14_method_44_code, 3, (Option.some FieldType.int), true, 3, E_c216)
def E_c217 : List E_C := [(0, .iload_n 0, 1, 0, 0), (1, .invokestatic 281, 3, 213, 0), (4, .istore_n 3, 1, 0, 0), (5, .iload_n 3, 1, 0, 0), (6, .ifCond .eq 8, 3, 0, 0), (9, .iload_n 0, 1, 0, 0), (10, .iload_n 1, 1, 0, 0), (11, .if_icmp .ne 5, 3, 0, 0), (14, .iconst 1, 1, 0, 0), (15, .ireturn, 1, 0, 0), (16, .iload_n 3, 1, 0, 0), (17, .iload_n 1, 1, 0, 0), (18, .invokestatic 281, 3, 213, 0), (21, .if_icmp .gt 8, 3, 0, 0), (24, .iload_n 3, 1, 0, 0), (25, .iconst 2, 1, 0, 0), (26, .if_icmp .ne 5, 3, 0, 0), (29, .iconst 0, 1, 0, 0), (30, .ireturn, 1, 0, 0), (31, .iload_n 0, 1, 0, 0), (32, .invokestatic 284, 3, 214, 0), (35, .iload_n 2, 1, 0, 0), (36, .ifCond .ne 11, 3, 0, 0), (39, .iload_n 1, 1, 0, 0), (40, .invokestatic 281, 3, 213, 0), (43, .iconst 1, 1, 0, 0), (44, .if_icmp .ne 10, 3, 0, 0), (47, .iload_n 1, 1, 0, 0), (48, .invokestatic 284, 3, 214, 0), (51, .goto 7, 3, 0, 0), (54, .iload_n 1, 1, 0, 0), (55, .invokestatic 287, 3, 215, 0), (58, .if_icmp .ne 7, 3, 0, 0), (61, .iconst 1, 1, 0, 0), (62, .goto 4, 3, 0, 0), (65, .iconst 0, 1, 0, 0), (66, .ireturn, 1, 0, 0)]
def E_m217 : E_MI := (12, ⟨E_R12, "isPart", "(IIZ)Z"⟩, prog_14_method_45_code, 4, (Option.some FieldType.boolean), true, 3, E_c217)
def E_c218 : List E_C := [(0, .iconst 0, 1, 0, 0), (1, .istore_n 2, 1, 0, 0), (2, .iconst 0, 1, 0, 0), (3, .istore_n 3, 1, 0, 0), (4, .iload_n 3, 1, 0, 0), (5, .aload_n 0, 1, 0, 0), (6, .getfield 290, 3, 12, 41), (9, .if_icmp .ge 106, 3, 0, 0), (12, .iconst 0, 1, 0, 0), (13, .istore 4, 2, 0, 0), (15, .iconst 0, 1, 0, 0), (16, .istore 5, 2, 0, 0), (18, .iload 5, 2, 0, 0), (20, .aload_n 0, 1, 0, 0), (21, .getfield 290, 3, 12, 41), (24, .if_icmp .ge 69, 3, 0, 0), (27, .iload 4, 2, 0, 0), (29, .ifCond .ne 64, 3, 0, 0), (32, .iload 5, 2, 0, 0), (34, .iload_n 3, 1, 0, 0), (35, .if_icmp .eq 49, 3, 0, 0), (38, .aload_n 0, 1, 0, 0), (39, .getfield 96, 3, 12, 42), (42, .iload 5, 2, 0, 0), (44, .iaload, 1, 0, 0), (45, .aload_n 0, 1, 0, 0), (46, .getfield 96, 3, 12, 42), (49, .iload_n 3, 1, 0, 0), (50, .iaload, 1, 0, 0), (51, .iload_n 1, 1, 0, 0), (52, .invokestatic 293, 3, 217, 0), (55, .ifCond .eq 29, 3, 0, 0), (58, .aload_n 0, 1, 0, 0), (59, .getfield 96, 3, 12, 42), (62, .iload 5, 2, 0, 0), (64, .iaload, 1, 0, 0), (65, .aload_n 0, 1, 0, 0), (66, .getfield 96, 3, 12, 42), (69, .iload_n 3, 1, 0, 0), (70, .iaload, 1, 0, 0), (71, .if_icmp .ne 9, 3, 0, 0), (74, .iload 5, 2, 0, 0), (76, .iload_n 3, 1, 0, 0), (77, .if_icmp .ge 7, 3, 0, 0), (80, .iconst 1, 1, 0, 0), (81, .goto 4, 3, 0, 0), (84, .iconst 0, 1, 0, 0), (85, .istore 4, 2, 0, 0), (87, .iinc 5 1, 3, 0, 0), (90, .goto (-72), 3, 0, 0), (93, .aload_n 0, 1, 0, 0), (94, .getfield 93, 3, 12, 40), (97, .iload_n 3, 1, 0, 0), (98, .iload 4, 2, 0, 0), (100, .ifCond .ne 7, 3, 0, 0), (103, .iconst 1, 1, 0, 0), (104, .goto 4, 3, 0, 0), (107, .iconst 0, 1, 0, 0), (108, .bastore, 1, 0, 0), (109, .iinc 3 1, 3, 0, 0), (112, .goto (-108), 3, 0, 0), (115, .iconst 0, 1, 0, 0), (116, .istore_n 3, 1, 0, 0), (117, .iload_n 3, 1, 0, 0), (118, .aload_n 0, 1, 0, 0), (119, .getfield 290, 3, 12, 41), (122, .if_icmp .ge 36, 3, 0, 0), (125, .aload_n 0, 1, 0, 0), (126, .getfield 93, 3, 12, 40), (129, .iload_n 3, 1, 0, 0), (130, .baload, 1, 0, 0), (131, .ifCond .ne 6, 3, 0, 0), (134, .goto 18, 3, 0, 0), (137, .aload_n 0, 1, 0, 0), (138, .getfield 96, 3, 12, 42), (141, .iload_n 2, 1, 0, 0), (142, .aload_n 0, 1, 0, 0), (143, .getfield 96, 3, 12, 42), (146, .iload_n 3, 1, 0, 0), (147, .iaload, 1, 0, 0), (148, .iastore, 1, 0, 0), (149, .iinc 2 1, 3, 0, 0), (152, .iinc 3 1, 3, 0, 0), (155, .goto (-38), 3, 0, 0), (158, .aload_n 0, 1, 0, 0), (159, .iload_n 2, 1, 0, 0), (160, .putfield 290, 3, 12, 41), (163, .return_, 1, 0, 0)]
def E_m218 : E_MI := (12, ⟨E_R12, "leastShorts", "(Z)V"⟩, prog_14_method_46_code, 6, (Option.none : Option FieldType), false, 1, E_c218)
def E_c219 : List E_C := [(0, .aload_n 0, 1, 0, 0), (1, .iload_n 1, 1, 0, 0), (2, .invokevirtual 297, 3, 218, 0), (5, .aload_n 0, 1, 0, 0), (6, .getfield 290, 3, 12, 41), (9, .bipush 12, 2, 0, 0), (11, .if_icmp .le 65, 3, 0, 0), (14, .iconst 0, 1, 0, 0), (15, .istore_n 2, 1, 0, 0), (16, .iload_n 2, 1, 0, 0), (17, .aload_n 0, 1, 0, 0), (18, .getfield 290, 3, 12, 41), (21, .if_icmp .ge 50, 3, 0, 0), (24, .aload_n 0, 1, 0, 0), (25, .getfield 96, 3, 12, 42), (28, .iload_n 2, 1, 0, 0), (29, .iaload, 1, 0, 0), (30, .istore_n 3, 1, 0, 0), (31, .aload_n 0, 1, 0, 0), (32, .getfield 96, 3, 12, 42), (35, .iload_n 2, 1, 0, 0), (36, .iconst 1, 1, 0, 0), (37, .iload_n 1, 1, 0, 0), (38, .ifCond .ne 11, 3, 0, 0), (41, .iload_n 3, 1, 0, 0), (42, .invokestatic 281, 3, 213, 0), (45, .iconst 1, 1, 0, 0), (46, .if_icmp .ne 10, 3, 0, 0), (49, .iload_n 3, 1, 0, 0), (50, .invokestatic 284, 3, 214, 0), (53, .goto 7, 3, 0, 0), (56, .iload_n 3, 1, 0, 0), (57, .invokestatic 287, 3, 215, 0), (60, .iconst 0, 1, 0, 0), (61, .invokestatic 301, 3, 216, 0), (64, .iastore, 1, 0, 0), (65, .iinc 2 1, 3, 0, 0), (68, .goto (-52), 3, 0, 0), (71, .aload_n 0, 1, 0, 0), (72, .iload_n 1, 1, 0, 0), (73, .invokevirtual 297, 3, 218, 0), (76, .aload_n 0, 1, 0, 0), (77, .getfield 290, 3, 12, 41), (80, .bipush 12, 2, 0, 0), (82, .if_icmp .le 15, 3, 0, 0), (85, .aload_n 0, 1, 0, 0), (86, .iconst 1, 1, 0, 0), (87, .putfield 290, 3, 12, 41), (90, .aload_n 0, 1, 0, 0), (91, .getfield 96, 3, 12, 42), (94, .iconst 0, 1, 0, 0), (95, .iconst 0, 1, 0, 0), (96, .iastore, 1, 0, 0), (97, .return_, 1, 0, 0)]
def E_m219 : E_MI := (12, ⟨E_R12, "bounds", "(Z)V"⟩, prog_14_method_47_code, 4, (Option.none : Option FieldType), false, 1, E_c219)
def E_c220 : List E_C := [(0, .aload_n 0, 1, 0, 0), (1, .iload_n 2, 1, 0, 0), (2, .invokevirtual 305, 3, 219, 0), (5, .iload_n 2, 1, 0, 0), (6, .ifCond .eq 16, 3, 0, 0), (9, .aload_n 0, 1, 0, 0), (10, .getfield 64, 3, 12, 30), (13, .iload_n 1, 1, 0, 0), (14, .aload_n 0, 1, 0, 0), (15, .getfield 290, 3, 12, 41), (18, .iastore, 1, 0, 0), (19, .goto 13, 3, 0, 0), (22, .aload_n 0, 1, 0, 0), (23, .getfield 70, 3, 12, 32), (26, .iload_n 1, 1, 0, 0), (27, .aload_n 0, 1, 0, 0), (28, .getfield 290, 3, 12, 41), (31, .iastore, 1, 0, 0), (32, .iconst 0, 1, 0, 0), (33, .istore_n 3, 1, 0, 0), (34, .iload_n 3, 1, 0, 0), (35, .aload_n 0, 1, 0, 0), (36, .getfield 290, 3, 12, 41), (39, .if_icmp .ge 50, 3, 0, 0), (42, .iload_n 2, 1, 0, 0), (43, .ifCond .eq 23, 3, 0, 0), (46, .aload_n 0, 1, 0, 0), (47, .getfield 67, 3, 12, 31), (50, .bipush 12, 2, 0, 0), (52, .iload_n 1, 1, 0, 0), (53, .imul, 1, 0, 0), (54, .iload_n 3, 1, 0, 0), (55, .iadd, 1, 0, 0), (56, .aload_n 0, 1, 0, 0), (57, .getfield 96, 3, 12, 42), (60, .iload_n 3, 1, 0, 0), (61, .iaload, 1, 0, 0), (62, .iastore, 1, 0, 0), (63, .goto 20, 3, 0, 0), (66, .aload_n 0, 1, 0, 0), (67, .getfield 73, 3, 12, 33), (70, .bipush 12, 2, 0, 0), (72, .iload_n 1, 1, 0, 0), (73, .imul, 1, 0, 0), (74, .iload_n 3, 1, 0, 0), (75, .iadd, 1, 0, 0), (76, .aload_n 0, 1, 0, 0), (77, .getfield 96, 3, 12, 42), (80, .iload_n 3, 1, 0, 0), (81, .iaload, 1, 0, 0), (82, .iastore, 1, 0, 0), (83, .iinc 3 1, 3, 0, 0), (86, .goto (-52), 3, 0, 0), (89, .return_, 1, 0, 0)]
def E_m220 : E_MI := (12, ⟨E_R12, "shortsAre", "(IZ)V"⟩, prog_14_method_48_code, 4, (Option.none : Option FieldType), false, 2, E_c220)
def E_c221 : List E_C := [(0, .aload_n 0, 1, 0, 0), (1, .getfield 96, 3, 12, 42), (4, .aload_n 0, 1, 0, 0), (5, .getfield 290, 3, 12, 41), (8, .iload_n 1, 1, 0, 0), (9, .iastore, 1, 0, 0), (10, .aload_n 0, 1, 0, 0), (11, .dup, 1, 0, 0), (12, .getfield 290, 3, 12, 41), (15, .iconst 1, 1, 0, 0), (16, .iadd, 1, 0, 0), (17, .putfield 290, 3, 12, 41), (20, .return_, 1, 0, 0)]
def E_m221 : E_MI := (12, ⟨E_R12, "addShort", "(I)V"⟩, prog_14_method_49_code, 2, (Option.none : Option FieldType), false, 1, E_c221)
def E_c222 : List E_C := [(0, .aload_n 0, 1, 0, 0), (1, .getfield 61, 3, 12, 29), (4, .bipush 60, 2, 0, 0), (6, .bipush 8, 2, 0, 0), (8, .iload_n 1, 1, 0, 0), (9, .imul, 1, 0, 0), (10, .iload_n 2, 1, 0, 0), (11, .iadd, 1, 0, 0), (12, .imul, 1, 0, 0), (13, .iload_n 3, 1, 0, 0), (14, .iadd, 1, 0, 0), (15, .iaload, 1, 0, 0), (16, .ireturn, 1, 0, 0)]
def E_m222 : E_MI := (12, ⟨E_R12, "textByte", "(III)I"⟩, prog_14_method_50_code, 4, (Option.some FieldType.int), false, 3, E_c222)
def E_c223 : List E_C := [(0, .aload_n 0, 1, 0, 0), (1, .getfield 58, 3, 12, 28), (4, .bipush 8, 2, 0, 0), (6, .iload_n 1, 1, 0, 0), (7, .imul, 1, 0, 0), (8, .iload_n 2, 1, 0, 0), (9, .iadd, 1, 0, 0), (10, .iaload, 1, 0, 0), (11, .istore 4, 2, 0, 0), (13, .iload 4, 2, 0, 0), (15, .iload_n 3, 1, 0, 0), (16, .invokestatic 281, 3, 213, 0), (19, .iadd, 1, 0, 0), (20, .istore 5, 2, 0, 0), (22, .iload 4, 2, 0, 0), (24, .ifCond .le 13, 3, 0, 0), (27, .aload_n 0, 1, 0, 0), (28, .iload_n 1, 1, 0, 0), (29, .iload_n 2, 1, 0, 0), (30, .iconst 0, 1, 0, 0), (31, .invokevirtual 308, 3, 222, 0), (34, .goto 7, 3, 0, 0), (37, .iload_n 3, 1, 0, 0), (38, .invokestatic 284, 3, 214, 0), (41, .istore 6, 2, 0, 0), (43, .iload 4, 2, 0, 0), (45, .iconst 1, 1, 0, 0), (46, .if_icmp .le 13, 3, 0, 0), (49, .aload_n 0, 1, 0, 0), (50, .iload_n 1, 1, 0, 0), (51, .iload_n 2, 1, 0, 0), (52, .iconst 1, 1, 0, 0), (53, .invokevirtual 308, 3, 222, 0), (56, .goto 20, 3, 0, 0), (59, .iload 4, 2, 0, 0), (61, .iconst 1, 1, 0, 0), (62, .if_icmp .ne 10, 3, 0, 0), (65, .iload_n 3, 1, 0, 0), (66, .invokestatic 284, 3, 214, 0), (69, .goto 7, 3, 0, 0), (72, .iload_n 3, 1, 0, 0), (73, .invokestatic 287, 3, 215, 0), (76, .istore 7, 2, 0, 0), (78, .iload 5, 2, 0, 0), (80, .iconst 2, 1, 0, 0), (81, .if_icmp .ge 8, 3, 0, 0), (84, .iload 5, 2, 0, 0), (86, .goto 4, 3, 0, 0), (89, .iconst 2, 1, 0, 0), (90, .iload 6, 2, 0, 0), (92, .iload 7, 2, 0, 0), (94, .invokestatic 301, 3, 216, 0), (97, .ireturn, 1, 0, 0)]
def E_m223 : E_MI := (12, ⟨E_R12, "headOf", "(III)I"⟩, prog_14_method_51_code, 8, (Option.some FieldType.int), false, 3, E_c223)
def E_c224 : List E_C := [(0, .aload_n 0, 1, 0, 0), (1, .getfield 58, 3, 12, 28), (4, .bipush 8, 2, 0, 0), (6, .iload_n 1, 1, 0, 0), (7, .imul, 1, 0, 0), (8, .iload_n 2, 1, 0, 0), (9, .iadd, 1, 0, 0), (10, .iaload, 1, 0, 0), (11, .istore 4, 2, 0, 0), (13, .iload_n 3, 1, 0, 0), (14, .invokestatic 281, 3, 213, 0), (17, .istore 5, 2, 0, 0), (19, .iload 4, 2, 0, 0), (21, .iload 5, 2, 0, 0), (23, .iadd, 1, 0, 0), (24, .istore 6, 2, 0, 0), (26, .iload 4, 2, 0, 0), (28, .ifCond .le 16, 3, 0, 0), (31, .aload_n 0, 1, 0, 0), (32, .iload_n 1, 1, 0, 0), (33, .iload_n 2, 1, 0, 0), (34, .iload 4, 2, 0, 0), (36, .iconst 1, 1, 0, 0), (37, .isub, 1, 0, 0), (38, .invokevirtual 308, 3, 222, 0), (41, .goto 20, 3, 0, 0), (44, .iload 5, 2, 0, 0), (46, .iconst 2, 1, 0, 0), (47, .if_icmp .ne 10, 3, 0, 0), (50, .iload_n 3, 1, 0, 0), (51, .invokestatic 287, 3, 215, 0), (54, .goto 7, 3, 0, 0), (57, .iload_n 3, 1, 0, 0), (58, .invokestatic 284, 3, 214, 0), (61, .istore 7, 2, 0, 0), (63, .iload 4, 2, 0, 0), (65, .iconst 1, 1, 0, 0), (66, .if_icmp .le 16, 3, 0, 0), (69, .aload_n 0, 1, 0, 0), (70, .iload_n 1, 1, 0, 0), (71, .iload_n 2, 1, 0, 0), (72, .iload 4, 2, 0, 0), (74, .iconst 2, 1, 0, 0), (75, .isub, 1, 0, 0), (76, .invokevirtual 308, 3, 222, 0), (79, .goto 33, 3, 0, 0), (82, .iload 4, 2, 0, 0), (84, .iconst 1, 1, 0, 0), (85, .if_icmp .ne 23, 3, 0, 0), (88, .iload 5, 2, 0, 0), (90, .iconst 2, 1, 0, 0), (91, .if_icmp .ne 10, 3, 0, 0), (94, .iload_n 3, 1, 0, 0), (95, .invokestatic 287, 3, 215, 0), (98, .goto 14, 3, 0, 0), (101, .iload_n 3, 1, 0, 0), (102, .invokestatic 284, 3, 214, 0), (105, .goto 7, 3, 0, 0), (108, .iload_n 3, 1, 0, 0), (109, .invokestatic 284, 3, 214, 0), (112, .istore 8, 2, 0, 0), (114, .iload 6, 2, 0, 0), (116, .iconst 2, 1, 0, 0), (117, .if_icmp .ge 14, 3, 0, 0), (120, .iload 6, 2, 0, 0), (122, .iload 7, 2, 0, 0), (124, .iconst 0, 1, 0, 0), (125, .invokestatic 301, 3, 216, 0), (128, .goto 11, 3, 0, 0), (131, .iconst 2, 1, 0, 0), (132, .iload 8, 2, 0, 0), (134, .iload 7, 2, 0, 0), (136, .invokestatic 301, 3, 216, 0), (139, .ireturn, 1, 0, 0)]
def E_m224 : E_MI := (12, ⟨E_R12, "tailOf", "(III)I"⟩, prog_14_method_52_code, 9, (Option.some FieldType.int), false, 3, E_c224)
def E_c225 : List E_C := [(0, .aload_n 0, 1, 0, 0), (1, .getfield 86, 3, 12, 38), (4, .iload_n 1, 1, 0, 0), (5, .iaload, 1, 0, 0), (6, .aload_n 0, 1, 0, 0), (7, .getfield 86, 3, 12, 38), (10, .iload_n 2, 1, 0, 0), (11, .iaload, 1, 0, 0), (12, .if_icmp .le 5, 3, 0, 0), (15, .iconst 0, 1, 0, 0), (16, .ireturn, 1, 0, 0), (17, .iconst 0, 1, 0, 0), (18, .istore_n 3, 1, 0, 0), (19, .iconst 0, 1, 0, 0), (20, .istore 4, 2, 0, 0), (22, .iload 4, 2, 0, 0), (24, .aload_n 0, 1, 0, 0), (25, .getfield 86, 3, 12, 38), (28, .iload_n 1, 1, 0, 0), (29, .iaload, 1, 0, 0), (30, .if_icmp .ge 86, 3, 0, 0), (33, .aload_n 0, 1, 0, 0), (34, .getfield 90, 3, 12, 39), (37, .sipush 640, 3, 0, 0), (40, .iload_n 1, 1, 0, 0), (41, .imul, 1, 0, 0), (42, .iload 4, 2, 0, 0), (44, .iadd, 1, 0, 0), (45, .iaload, 1, 0, 0), (46, .istore 5, 2, 0, 0), (48, .iload_n 3, 1, 0, 0), (49, .aload_n 0, 1, 0, 0), (50, .getfield 86, 3, 12, 38), (53, .iload_n 2, 1, 0, 0), (54, .iaload, 1, 0, 0), (55, .if_icmp .ge 26, 3, 0, 0), (58, .aload_n 0, 1, 0, 0), (59, .getfield 90, 3, 12, 39), (62, .sipush 640, 3, 0, 0), (65, .iload_n 2, 1, 0, 0), (66, .imul, 1, 0, 0), (67, .iload_n 3, 1, 0, 0), (68, .iadd, 1, 0, 0), (69, .iaload, 1, 0, 0), (70, .iload 5, 2, 0, 0), (72, .if_icmp .ge 9, 3, 0, 0), (75, .iinc 3 1, 3, 0, 0), (78, .goto (-30), 3, 0, 0), (81, .iload_n 3, 1, 0, 0), (82, .aload_n 0, 1, 0, 0), (83, .getfield 86, 3, 12, 38), (86, .iload_n 2, 1, 0, 0), (87, .iaload, 1, 0, 0), (88, .if_icmp .eq 20, 3, 0, 0), (91, .aload_n 0, 1, 0, 0), (92, .getfield 90, 3, 12, 39), (95, .sipush 640, 3, 0, 0), (98, .iload_n 2, 1, 0, 0), (99, .imul, 1, 0, 0), (100, .iload_n 3, 1, 0, 0), (101, .iadd, 1, 0, 0), (102, .iaload, 1, 0, 0), (103, .iload 5, 2, 0, 0), (105, .if_icmp .eq 5, 3, 0, 0), (108, .iconst 0, 1, 0, 0), (109, .ireturn, 1, 0, 0), (110, .iinc 4 1, 3, 0, 0), (113, .goto (-91), 3, 0, 0), (116, .iconst 1, 1, 0, 0), (117, .ireturn, 1, 0, 0)]
def E_m225 : E_MI := (12, ⟨E_R12, "isWithin", "(II)Z"⟩, prog_14_method_53_code, 6, (Option.some FieldType.boolean), false, 2, E_c225)
def E_c226 : List E_C := [(0, .iconst 0, 1, 0, 0), (1, .istore_n 1, 1, 0, 0), (2, .iconst 0, 1, 0, 0), (3, .istore_n 2, 1, 0, 0), (4, .iload_n 2, 1, 0, 0), (5, .aload_n 0, 1, 0, 0), (6, .getfield 311, 3, 12, 37), (9, .if_icmp .ge 98, 3, 0, 0), (12, .iconst 0, 1, 0, 0), (13, .istore_n 3, 1, 0, 0), (14, .iconst 0, 1, 0, 0), (15, .istore 4, 2, 0, 0), (17, .iload 4, 2, 0, 0), (19, .aload_n 0, 1, 0, 0), (20, .getfield 311, 3, 12, 37), (23, .if_icmp .ge 51, 3, 0, 0), (26, .iload_n 3, 1, 0, 0), (27, .ifCond .ne 47, 3, 0, 0), (30, .iload 4, 2, 0, 0), (32, .iload_n 2, 1, 0, 0), (33, .if_icmp .eq 33, 3, 0, 0), (36, .aload_n 0, 1, 0, 0), (37, .iload 4, 2, 0, 0), (39, .iload_n 2, 1, 0, 0), (40, .invokevirtual 314, 3, 225, 0), (43, .ifCond .eq 23, 3, 0, 0), (46, .iload 4, 2, 0, 0), (48, .iload_n 2, 1, 0, 0), (49, .if_icmp .lt 13, 3, 0, 0), (52, .aload_n 0, 1, 0, 0), (53, .iload_n 2, 1, 0, 0), (54, .iload 4, 2, 0, 0), (56, .invokevirtual 314, 3, 225, 0), (59, .ifCond .ne 7, 3, 0, 0), (62, .iconst 1, 1, 0, 0), (63, .goto 4, 3, 0, 0), (66, .iconst 0, 1, 0, 0), (67, .istore_n 3, 1, 0, 0), (68, .iinc 4 1, 3, 0, 0), (71, .goto (-54), 3, 0, 0), (74, .aload_n 0, 1, 0, 0), (75, .getfield 93, 3, 12, 40), (78, .iload_n 2, 1, 0, 0), (79, .iload_n 3, 1, 0, 0), (80, .ifCond .ne 7, 3, 0, 0), (83, .iconst 1, 1, 0, 0), (84, .goto 4, 3, 0, 0), (87, .iconst 0, 1, 0, 0), (88, .bastore, 1, 0, 0), (89, .iload_n 1, 1, 0, 0), (90, .iload_n 3, 1, 0, 0), (91, .ifCond .eq 7, 3, 0, 0), (94, .iconst 0, 1, 0, 0), (95, .goto 4, 3, 0, 0), (98, .iconst 1, 1, 0, 0), (99, .iadd, 1, 0, 0), (100, .istore_n 1, 1, 0, 0), (101, .iinc 2 1, 3, 0, 0), (104, .goto (-100), 3, 0, 0), (107, .iload_n 1, 1, 0, 0), (108, .ireturn, 1, 0, 0)]
def E_m226 : E_MI := (12, ⟨E_R12, "leastPairs", "()I"⟩, prog_14_method_54_code, 5, (Option.some FieldType.int), false, 0, E_c226)
def E_c227 : List E_C := [(0, .aload_n 0, 1, 0, 0), (1, .invokevirtual 317, 3, 226, 0), (4, .istore_n 2, 1, 0, 0), (5, .iload_n 2, 1, 0, 0), (6, .bipush 24, 2, 0, 0), (8, .if_icmp .le 9, 3, 0, 0), (11, .aload_n 0, 1, 0, 0), (12, .iload_n 1, 1, 0, 0), (13, .invokevirtual 320, 3, 228, 0), (16, .return_, 1, 0, 0), (17, .iconst 0, 1, 0, 0), (18, .istore_n 3, 1, 0, 0), (19, .iconst 0, 1, 0, 0), (20, .istore 4, 2, 0, 0), (22, .iload 4, 2, 0, 0), (24, .aload_n 0, 1, 0, 0), (25, .getfield 311, 3, 12, 37), (28, .if_icmp .ge 96, 3, 0, 0), (31, .aload_n 0, 1, 0, 0), (32, .getfield 93, 3, 12, 40), (35, .iload 4, 2, 0, 0), (37, .baload, 1, 0, 0), (38, .ifCond .ne 6, 3, 0, 0), (41, .goto 77, 3, 0, 0), (44, .aload_n 0, 1, 0, 0), (45, .getfield 79, 3, 12, 35), (48, .bipush 24, 2, 0, 0), (50, .iload_n 1, 1, 0, 0), (51, .imul, 1, 0, 0), (52, .iload_n 3, 1, 0, 0), (53, .iadd, 1, 0, 0), (54, .aload_n 0, 1, 0, 0), (55, .getfield 86, 3, 12, 38), (58, .iload 4, 2, 0, 0), (60, .iaload, 1, 0, 0), (61, .iastore, 1, 0, 0), (62, .iconst 0, 1, 0, 0), (63, .istore 5, 2, 0, 0), (65, .iload 5, 2, 0, 0), (67, .aload_n 0, 1, 0, 0), (68, .getfield 86, 3, 12, 38), (71, .iload 4, 2, 0, 0), (73, .iaload, 1, 0, 0), (74, .if_icmp .ge 41, 3, 0, 0), (77, .aload_n 0, 1, 0, 0), (78, .getfield 83, 3, 12, 36), (81, .sipush 640, 3, 0, 0), (84, .bipush 24, 2, 0, 0), (86, .iload_n 1, 1, 0, 0), (87, .imul, 1, 0, 0), (88, .iload_n 3, 1, 0, 0), (89, .iadd, 1, 0, 0), (90, .imul, 1, 0, 0), (91, .iload 5, 2, 0, 0), (93, .iadd, 1, 0, 0), (94, .aload_n 0, 1, 0, 0), (95, .getfield 90, 3, 12, 39), (98, .sipush 640, 3, 0, 0), (101, .iload 4, 2, 0, 0), (103, .imul, 1, 0, 0), (104, .iload 5, 2, 0, 0), (106, .iadd, 1, 0, 0), (107, .iaload, 1, 0, 0), (108, .iastore, 1, 0, 0), (109, .iinc 5 1, 3, 0, 0), (112, .goto (-47), 3, 0, 0), (115, .iinc 3 1, 3, 0, 0), (118, .iinc 4 1, 3, 0, 0), (121, .goto (-99), 3, 0, 0), (124, .aload_n 0, 1, 0, 0), (125, .getfield 76, 3, 12, 34), (128, .iload_n 1, 1, 0, 0), (129, .iload_n 3, 1, 0, 0), (130, .iastore, 1, 0, 0), (131, .return_, 1, 0, 0)]
def E_m227 : E_MI := (12, ⟨E_R12, "least", "(I)V"⟩, prog_14_method_55_code, 6, (Option.none : Option FieldType), false, 1, E_c227)
def E_c228 : List E_C := [(0, .iconst 0, 1, 0, 0), (1, .istore_n 2, 1, 0, 0), (2, .iconst 0, 1, 0, 0), (3, .istore_n 3, 1, 0, 0), (4, .iload_n 3, 1, 0, 0), (5, .aload_n 0, 1, 0, 0), (6, .getfield 86, 3, 12, 38), (9, .iconst 0, 1, 0, 0), (10, .iaload, 1, 0, 0), (11, .if_icmp .ge 146, 3, 0, 0), (14, .aload_n 0, 1, 0, 0), (15, .getfield 90, 3, 12, 39), (18, .iload_n 3, 1, 0, 0), (19, .iaload, 1, 0, 0), (20, .istore 4, 2, 0, 0), (22, .iconst 1, 1, 0, 0), (23, .istore 5, 2, 0, 0), (25, .iconst 1, 1, 0, 0), (26, .istore 6, 2, 0, 0), (28, .iload 6, 2, 0, 0), (30, .aload_n 0, 1, 0, 0), (31, .getfield 311, 3, 12, 37), (34, .if_icmp .ge 92, 3, 0, 0), (37, .iload 5, 2, 0, 0), (39, .ifCond .eq 87, 3, 0, 0), (42, .iconst 0, 1, 0, 0), (43, .istore 7, 2, 0, 0), (45, .iload 7, 2, 0, 0), (47, .aload_n 0, 1, 0, 0), (48, .getfield 86, 3, 12, 38), (51, .iload 6, 2, 0, 0), (53, .iaload, 1, 0, 0), (54, .if_icmp .ge 28, 3, 0, 0), (57, .aload_n 0, 1, 0, 0), (58, .getfield 90, 3, 12, 39), (61, .sipush 640, 3, 0, 0), (64, .iload 6, 2, 0, 0), (66, .imul, 1, 0, 0), (67, .iload 7, 2, 0, 0), (69, .iadd, 1, 0, 0), (70, .iaload, 1, 0, 0), (71, .iload 4, 2, 0, 0), (73, .if_icmp .ge 9, 3, 0, 0), (76, .iinc 7 1, 3, 0, 0), (79, .goto (-34), 3, 0, 0), (82, .iload 7, 2, 0, 0), (84, .aload_n 0, 1, 0, 0), (85, .getfield 86, 3, 12, 38), (88, .iload 6, 2, 0, 0), (90, .iaload, 1, 0, 0), (91, .if_icmp .ge 26, 3, 0, 0), (94, .aload_n 0, 1, 0, 0), (95, .getfield 90, 3, 12, 39), (98, .sipush 640, 3, 0, 0), (101, .iload 6, 2, 0, 0), (103, .imul, 1, 0, 0), (104, .iload 7, 2, 0, 0), (106, .iadd, 1, 0, 0), (107, .iaload, 1, 0, 0), (108, .iload 4, 2, 0, 0), (110, .if_icmp .ne 7, 3, 0, 0), (113, .iconst 1, 1, 0, 0), (114, .goto 4, 3, 0, 0), (117, .iconst 0, 1, 0, 0), (118, .istore 5, 2, 0, 0), (120, .iinc 6 1, 3, 0, 0), (123, .goto (-95), 3, 0, 0), (126, .iload 5, 2, 0, 0), (128, .ifCond .ne 6, 3, 0, 0), (131, .goto 20, 3, 0, 0), (134, .aload_n 0, 1, 0, 0), (135, .getfield 83, 3, 12, 36), (138, .sipush 15360, 3, 0, 0), (141, .iload_n 1, 1, 0, 0), (142, .imul, 1, 0, 0), (143, .iload_n 2, 1, 0, 0), (144, .iadd, 1, 0, 0), (145, .iload 4, 2, 0, 0), (147, .iastore, 1, 0, 0), (148, .iinc 2 1, 3, 0, 0), (151, .iinc 3 1, 3, 0, 0), (154, .goto (-150), 3, 0, 0), (157, .aload_n 0, 1, 0, 0), (158, .getfield 79, 3, 12, 35), (161, .bipush 24, 2, 0, 0), (163, .iload_n 1, 1, 0, 0), (164, .imul, 1, 0, 0), (165, .iload_n 2, 1, 0, 0), (166, .iastore, 1, 0, 0), (167, .aload_n 0, 1, 0, 0), (168, .getfield 76, 3, 12, 34), (171, .iload_n 1, 1, 0, 0), (172, .iconst 1, 1, 0, 0), (173, .iastore, 1, 0, 0), (174, .return_, 1, 0, 0)]
def E_m228 : E_MI := (12, ⟨E_R12, "cores", "(I)V"⟩, prog_14_method_56_code, 8, (Option.none : Option FieldType), false, 1, E_c228)
def E_c229 : List E_C := [(0, .aload_n 0, 1, 0, 0), (1, .getfield 79, 3, 12, 35), (4, .bipush 24, 2, 0, 0), (6, .iload_n 1, 1, 0, 0), (7, .imul, 1, 0, 0), (8, .iload_n 2, 1, 0, 0), (9, .iadd, 1, 0, 0), (10, .iaload, 1, 0, 0), (11, .istore_n 3, 1, 0, 0), (12, .iconst 0, 1, 0, 0), (13, .istore 4, 2, 0, 0), (15, .iload 4, 2, 0, 0), (17, .iload_n 3, 1, 0, 0), (18, .if_icmp .ge 43, 3, 0, 0), (21, .aload_n 0, 1, 0, 0), (22, .getfield 90, 3, 12, 39), (25, .sipush 640, 3, 0, 0), (28, .aload_n 0, 1, 0, 0), (29, .getfield 311, 3, 12, 37), (32, .imul, 1, 0, 0), (33, .iload 4, 2, 0, 0), (35, .iadd, 1, 0, 0), (36, .aload_n 0, 1, 0, 0), (37, .getfield 83, 3, 12, 36), (40, .sipush 640, 3, 0, 0), (43, .bipush 24, 2, 0, 0), (45, .iload_n 1, 1, 0, 0), (46, .imul, 1, 0, 0), (47, .iload_n 2, 1, 0, 0), (48, .iadd, 1, 0, 0), (49, .imul, 1, 0, 0), (50, .iload 4, 2, 0, 0), (52, .iadd, 1, 0, 0), (53, .iaload, 1, 0, 0), (54, .iastore, 1, 0, 0), (55, .iinc 4 1, 3, 0, 0), (58, .goto (-43), 3, 0, 0), (61, .aload_n 0, 1, 0, 0), (62, .getfield 86, 3, 12, 38), (65, .aload_n 0, 1, 0, 0), (66, .getfield 311, 3, 12, 37), (69, .iload_n 3, 1, 0, 0), (70, .iastore, 1, 0, 0), (71, .aload_n 0, 1, 0, 0), (72, .dup, 1, 0, 0), (73, .getfield 311, 3, 12, 37), (76, .iconst 1, 1, 0, 0), (77, .iadd, 1, 0, 0), (78, .putfield 311, 3, 12, 37), (81, .return_, 1, 0, 0)]
def E_m229 : E_MI := (12, ⟨E_R12, "addChoice", "(II)V"⟩, prog_14_method_57_code, 5, (Option.none : Option FieldType), false, 2, E_c229)
def E_c230 : List E_C := [(0, .sipush 640, 3, 0, 0), (3, .bipush 24, 2, 0, 0), (5, .iload_n 1, 1, 0, 0), (6, .imul, 1, 0, 0), (7, .iload_n 2, 1, 0, 0), (8, .iadd, 1, 0, 0), (9, .imul, 1, 0, 0), (10, .istore 5, 2, 0, 0), (12, .sipush 640, 3, 0, 0), (15, .bipush 24, 2, 0, 0), (17, .iload_n 3, 1, 0, 0), (18, .imul, 1, 0, 0), (19, .iload 4, 2, 0, 0), (21, .iadd, 1, 0, 0), (22, .imul, 1, 0, 0), (23, .istore 6, 2, 0, 0), (25, .aload_n 0, 1, 0, 0), (26, .getfield 79, 3, 12, 35), (29, .bipush 24, 2, 0, 0), (31, .iload_n 1, 1, 0, 0), (32, .imul, 1, 0, 0), (33, .iload_n 2, 1, 0, 0), (34, .iadd, 1, 0, 0), (35, .iaload, 1, 0, 0), (36, .istore 7, 2, 0, 0), (38, .aload_n 0, 1, 0, 0), (39, .getfield 79, 3, 12, 35), (42, .bipush 24, 2, 0, 0), (44, .iload_n 3, 1, 0, 0), (45, .imul, 1, 0, 0), (46, .iload 4, 2, 0, 0), (48, .iadd, 1, 0, 0), (49, .iaload, 1, 0, 0), (50, .istore 8, 2, 0, 0), (52, .iconst 0, 1, 0, 0), (53, .istore 9, 2, 0, 0), (55, .iconst 0, 1, 0, 0), (56, .istore 10, 2, 0, 0), (58, .iconst 0, 1, 0, 0), (59, .istore 11, 2, 0, 0), (61, .iload 9, 2, 0, 0), (63, .iload 7, 2, 0, 0), (65, .if_icmp .lt 10, 3, 0, 0), (68, .iload 10, 2, 0, 0), (70, .iload 8, 2, 0, 0), (72, .if_icmp .ge 162, 3, 0, 0), (75, .iload 10, 2, 0, 0), (77, .iload 8, 2, 0, 0), (79, .if_icmp .eq 33, 3, 0, 0), (82, .iload 9, 2, 0, 0), (84, .iload 7, 2, 0, 0), (86, .if_icmp .ge 30, 3, 0, 0), (89, .aload_n 0, 1, 0, 0), (90, .getfield 83, 3, 12, 36), (93, .iload 5, 2, 0, 0), (95, .iload 9, 2, 0, 0), (97, .iadd, 1, 0, 0), (98, .iaload, 1, 0, 0), (99, .aload_n 0, 1, 0, 0), (100, .getfield 83, 3, 12, 36), (103, .iload 6, 2, 0, 0), (105, .iload 10, 2, 0, 0), (107, .iadd, 1, 0, 0), (108, .iaload, 1, 0, 0), (109, .if_icmp .gt 7, 3, 0, 0), (112, .iconst 1, 1, 0, 0), (113, .goto 4, 3, 0, 0), (116, .iconst 0, 1, 0, 0), (117, .istore 12, 2, 0, 0), (119, .iload 9, 2, 0, 0), (121, .iload 7, 2, 0, 0), (123, .if_icmp .ge 37, 3, 0, 0), (126, .iload 10, 2, 0, 0), (128, .iload 8, 2, 0, 0), (130, .if_icmp .ge 30, 3, 0, 0), (133, .aload_n 0, 1, 0, 0), (134, .getfield 83, 3, 12, 36), (137, .iload 5, 2, 0, 0), (139, .iload 9, 2, 0, 0), (141, .iadd, 1, 0, 0), (142, .iaload, 1, 0, 0), (143, .aload_n 0, 1, 0, 0), (144, .getfield 83, 3, 12, 36), (147, .iload 6, 2, 0, 0), (149, .iload 10, 2, 0, 0), (151, .iadd, 1, 0, 0), (152, .iaload, 1, 0, 0), (153, .if_icmp .ne 7, 3, 0, 0), (156, .iconst 1, 1, 0, 0), (157, .goto 4, 3, 0, 0), (160, .iconst 0, 1, 0, 0), (161, .istore 13, 2, 0, 0), (163, .aload_n 0, 1, 0, 0), (164, .getfield 90, 3, 12, 39), (167, .sipush 640, 3, 0, 0), (170, .aload_n 0, 1, 0, 0), (171, .getfield 311, 3, 12, 37), (174, .imul, 1, 0, 0), (175, .iload 11, 2, 0, 0), (177, .iadd, 1, 0, 0), (178, .iload 12, 2, 0, 0), (180, .ifCond .eq 16, 3, 0, 0), (183, .aload_n 0, 1, 0, 0), (184, .getfield 83, 3, 12, 36), (187, .iload 5, 2, 0, 0), (189, .iload 9, 2, 0, 0), (191, .iadd, 1, 0, 0), (192, .iaload, 1, 0, 0), (193, .goto 13, 3, 0, 0), (196, .aload_n 0, 1, 0, 0), (197, .getfield 83, 3, 12, 36), (200, .iload 6, 2, 0, 0), (202, .iload 10, 2, 0, 0), (204, .iadd, 1, 0, 0), (205, .iaload, 1, 0, 0), (206, .iastore, 1, 0, 0), (207, .iinc 11 1, 3, 0, 0), (210, .iload 12, 2, 0, 0), (212, .ifCond .eq 6, 3, 0, 0), (215, .iinc 9 1, 3, 0, 0), (218, .iload 12, 2, 0, 0), (220, .ifCond .eq 8, 3, 0, 0), (223, .iload 13, 2, 0, 0), (225, .ifCond .eq 6, 3, 0, 0), (228, .iinc 10 1, 3, 0, 0), (231, .goto (-170), 3, 0, 0), (234, .aload_n 0, 1, 0, 0), (235, .getfield 86, 3, 12, 38), (238, .aload_n 0, 1, 0, 0), (239, .getfield 311, 3, 12, 37), (242, .iload 11, 2, 0, 0), (244, .iastore, 1, 0, 0), (245, .aload_n 0, 1, 0, 0), (246, .dup, 1, 0, 0), (247, .getfield 311, 3, 12, 37), (250, .iconst 1, 1, 0, 0), (251, .iadd, 1, 0, 0), (252, .putfield 311, 3, 12, 37), (255, .return_, 1, 0, 0)]
def E_m230 : E_MI := (12, ⟨E_R12, "addBoth", "(IIII)V"⟩, prog_14_method_58_code, 14, (Option.none : Option FieldType), false, 4, E_c230)
def E_c231 : List E_C := [(0, .aload_n 0, 1, 0, 0), (1, .iconst 0, 1, 0, 0), (2, .putfield 311, 3, 12, 37), (5, .iconst 0, 1, 0, 0), (6, .istore_n 2, 1, 0, 0), (7, .iload_n 2, 1, 0, 0), (8, .aload_n 0, 1, 0, 0), (9, .getfield 76, 3, 12, 34), (12, .iload_n 1, 1, 0, 0), (13, .iaload, 1, 0, 0), (14, .if_icmp .ge 15, 3, 0, 0), (17, .aload_n 0, 1, 0, 0), (18, .iload_n 1, 1, 0, 0), (19, .iload_n 2, 1, 0, 0), (20, .invokevirtual 323, 3, 229, 0), (23, .iinc 2 1, 3, 0, 0), (26, .goto (-19), 3, 0, 0), (29, .aload_n 0, 1, 0, 0), (30, .bipush 42, 2, 0, 0), (32, .invokevirtual 320, 3, 228, 0), (35, .return_, 1, 0, 0)]
def E_m231 : E_MI := (12, ⟨E_R12, "coreOf", "(I)V"⟩, prog_14_method_59_code, 3, (Option.none : Option FieldType), false, 1, E_c231)
def E_c232 : List E_C := [(0, .aload_n 0, 1, 0, 0), (1, .iconst 0, 1, 0, 0), (2, .putfield 311, 3, 12, 37), (5, .iconst 0, 1, 0, 0), (6, .istore 4, 2, 0, 0), (8, .iload 4, 2, 0, 0), (10, .aload_n 0, 1, 0, 0), (11, .getfield 76, 3, 12, 34), (14, .iload_n 1, 1, 0, 0), (15, .iaload, 1, 0, 0), (16, .if_icmp .ge 39, 3, 0, 0), (19, .iconst 0, 1, 0, 0), (20, .istore 5, 2, 0, 0), (22, .iload 5, 2, 0, 0), (24, .aload_n 0, 1, 0, 0), (25, .getfield 76, 3, 12, 34), (28, .iload_n 2, 1, 0, 0), (29, .iaload, 1, 0, 0), (30, .if_icmp .ge 19, 3, 0, 0), (33, .aload_n 0, 1, 0, 0), (34, .iload_n 1, 1, 0, 0), (35, .iload 4, 2, 0, 0), (37, .iload_n 2, 1, 0, 0), (38, .iload 5, 2, 0, 0), (40, .invokevirtual 326, 3, 230, 0), (43, .iinc 5 1, 3, 0, 0), (46, .goto (-24), 3, 0, 0), (49, .iinc 4 1, 3, 0, 0), (52, .goto (-44), 3, 0, 0), (55, .aload_n 0, 1, 0, 0), (56, .invokevirtual 317, 3, 226, 0), (59, .bipush 24, 2, 0, 0), (61, .if_icmp .le 88, 3, 0, 0), (64, .aload_n 0, 1, 0, 0), (65, .getfield 76, 3, 12, 34), (68, .iload_n 1, 1, 0, 0), (69, .iaload, 1, 0, 0), (70, .aload_n 0, 1, 0, 0), (71, .getfield 76, 3, 12, 34), (74, .iload_n 2, 1, 0, 0), (75, .iaload, 1, 0, 0), (76, .if_icmp .gt 7, 3, 0, 0), (79, .iconst 1, 1, 0, 0), (80, .goto 4, 3, 0, 0), (83, .iconst 0, 1, 0, 0), (84, .istore 4, 2, 0, 0), (86, .iload 4, 2, 0, 0), (88, .ifCond .eq 7, 3, 0, 0), (91, .iload_n 1, 1, 0, 0), (92, .goto 4, 3, 0, 0), (95, .iload_n 2, 1, 0, 0), (96, .istore 5, 2, 0, 0), (98, .aload_n 0, 1, 0, 0), (99, .iload 4, 2, 0, 0), (101, .ifCond .eq 7, 3, 0, 0), (104, .iload_n 2, 1, 0, 0), (105, .goto 4, 3, 0, 0), (108, .iload_n 1, 1, 0, 0), (109, .invokevirtual 330, 3, 231, 0), (112, .aload_n 0, 1, 0, 0), (113, .iconst 0, 1, 0, 0), (114, .putfield 311, 3, 12, 37), (117, .iconst 0, 1, 0, 0), (118, .istore 6, 2, 0, 0), (120, .iload 6, 2, 0, 0), (122, .aload_n 0, 1, 0, 0), (123, .getfield 76, 3, 12, 34), (126, .iload 5, 2, 0, 0), (128, .iaload, 1, 0, 0), (129, .if_icmp .ge 20, 3, 0, 0), (132, .aload_n 0, 1, 0, 0), (133, .iload 5, 2, 0, 0), (135, .iload 6, 2, 0, 0), (137, .bipush 42, 2, 0, 0), (139, .iconst 0, 1, 0, 0), (140, .invokevirtual 326, 3, 230, 0), (143, .iinc 6 1, 3, 0, 0), (146, .goto (-26), 3, 0, 0), (149, .aload_n 0, 1, 0, 0), (150, .iload_n 3, 1, 0, 0), (151, .invokevirtual 333, 3, 227, 0), (154, .return_, 1, 0, 0)]
def E_m232 : E_MI := (12, ⟨E_R12, "both", "(III)V"⟩, prog_14_method_60_code, 7, (Option.none : Option FieldType), false, 3, E_c232)
def E_c233 : List E_C := [(0, .aload_n 0, 1, 0, 0), (1, .iconst 0, 1, 0, 0), (2, .putfield 311, 3, 12, 37), (5, .iconst 0, 1, 0, 0), (6, .istore 4, 2, 0, 0), (8, .iload 4, 2, 0, 0), (10, .aload_n 0, 1, 0, 0), (11, .getfield 76, 3, 12, 34), (14, .iload_n 1, 1, 0, 0), (15, .iaload, 1, 0, 0), (16, .if_icmp .ge 16, 3, 0, 0), (19, .aload_n 0, 1, 0, 0), (20, .iload_n 1, 1, 0, 0), (21, .iload 4, 2, 0, 0), (23, .invokevirtual 323, 3, 229, 0), (26, .iinc 4 1, 3, 0, 0), (29, .goto (-21), 3, 0, 0), (32, .iconst 0, 1, 0, 0), (33, .istore 4, 2, 0, 0), (35, .iload 4, 2, 0, 0), (37, .aload_n 0, 1, 0, 0), (38, .getfield 76, 3, 12, 34), (41, .iload_n 2, 1, 0, 0), (42, .iaload, 1, 0, 0), (43, .if_icmp .ge 16, 3, 0, 0), (46, .aload_n 0, 1, 0, 0), (47, .iload_n 2, 1, 0, 0), (48, .iload 4, 2, 0, 0), (50, .invokevirtual 323, 3, 229, 0), (53, .iinc 4 1, 3, 0, 0), (56, .goto (-21), 3, 0, 0), (59, .aload_n 0, 1, 0, 0), (60, .iload_n 3, 1, 0, 0), (61, .invokevirtual 333, 3, 227, 0), (64, .return_, 1, 0, 0)]
def E_m233 : E_MI := (12, ⟨E_R12, "either", "(III)V"⟩, prog_14_method_61_code, 5, (Option.none : Option FieldType), false, 3, E_c233)
def E_c234 : List E_C := [(0, .aload_n 0, 1, 0, 0), (1, .iconst 0, 1, 0, 0), (2, .putfield 311, 3, 12, 37), (5, .iconst 0, 1, 0, 0), (6, .istore_n 2, 1, 0, 0), (7, .iload_n 2, 1, 0, 0), (8, .aload_n 0, 1, 0, 0), (9, .getfield 336, 3, 12, 43), (12, .if_icmp .ge 149, 3, 0, 0), (15, .iconst 0, 1, 0, 0), (16, .istore_n 3, 1, 0, 0), (17, .iconst 0, 1, 0, 0), (18, .istore 4, 2, 0, 0), (20, .iload 4, 2, 0, 0), (22, .iconst 2, 1, 0, 0), (23, .iadd, 1, 0, 0), (24, .aload_n 0, 1, 0, 0), (25, .getfield 99, 3, 12, 44), (28, .iload_n 2, 1, 0, 0), (29, .iaload, 1, 0, 0), (30, .if_icmp .ge 61, 3, 0, 0), (33, .bipush 60, 2, 0, 0), (35, .iload_n 2, 1, 0, 0), (36, .imul, 1, 0, 0), (37, .iload 4, 2, 0, 0), (39, .iadd, 1, 0, 0), (40, .istore 5, 2, 0, 0), (42, .aload_n 0, 1, 0, 0), (43, .getfield 26, 3, 12, 9), (46, .iload_n 3, 1, 0, 0), (47, .ldc 185, 2, 0, 0), (49, .aload_n 0, 1, 0, 0), (50, .getfield 102, 3, 12, 45), (53, .iload 5, 2, 0, 0), (55, .iaload, 1, 0, 0), (56, .imul, 1, 0, 0), (57, .sipush 256, 3, 0, 0), (60, .aload_n 0, 1, 0, 0), (61, .getfield 102, 3, 12, 45), (64, .iload 5, 2, 0, 0), (66, .iconst 1, 1, 0, 0), (67, .iadd, 1, 0, 0), (68, .iaload, 1, 0, 0), (69, .imul, 1, 0, 0), (70, .iadd, 1, 0, 0), (71, .aload_n 0, 1, 0, 0), (72, .getfield 102, 3, 12, 45), (75, .iload 5, 2, 0, 0), (77, .iconst 2, 1, 0, 0), (78, .iadd, 1, 0, 0), (79, .iaload, 1, 0, 0), (80, .iadd, 1, 0, 0), (81, .iastore, 1, 0, 0), (82, .iinc 3 1, 3, 0, 0), (85, .iinc 4 1, 3, 0, 0), (88, .goto (-68), 3, 0, 0), (91, .aload_n 0, 1, 0, 0), (92, .iload_n 3, 1, 0, 0), (93, .invokevirtual 339, 3, 187, 0), (96, .istore_n 3, 1, 0, 0), (97, .iconst 0, 1, 0, 0), (98, .istore 4, 2, 0, 0), (100, .iload 4, 2, 0, 0), (102, .iload_n 3, 1, 0, 0), (103, .if_icmp .ge 32, 3, 0, 0), (106, .aload_n 0, 1, 0, 0), (107, .getfield 90, 3, 12, 39), (110, .sipush 640, 3, 0, 0), (113, .aload_n 0, 1, 0, 0), (114, .getfield 311, 3, 12, 37), (117, .imul, 1, 0, 0), (118, .iload 4, 2, 0, 0), (120, .iadd, 1, 0, 0), (121, .aload_n 0, 1, 0, 0), (122, .getfield 26, 3, 12, 9), (125, .iload 4, 2, 0, 0), (127, .iaload, 1, 0, 0), (128, .iastore, 1, 0, 0), (129, .iinc 4 1, 3, 0, 0), (132, .goto (-32), 3, 0, 0), (135, .aload_n 0, 1, 0, 0), (136, .getfield 86, 3, 12, 38), (139, .aload_n 0, 1, 0, 0), (140, .getfield 311, 3, 12, 37), (143, .iload_n 3, 1, 0, 0), (144, .iastore, 1, 0, 0), (145, .aload_n 0, 1, 0, 0), (146, .dup, 1, 0, 0), (147, .getfield 311, 3, 12, 37), (150, .iconst 1, 1, 0, 0), (151, .iadd, 1, 0, 0), (152, .putfield 311, 3, 12, 37), (155, .iinc 2 1, 3, 0, 0), (158, .goto (-151), 3, 0, 0), (161, .aload_n 0, 1, 0, 0), (162, .iload_n 1, 1, 0, 0), (163, .invokevirtual 333, 3, 227, 0), (166, .return_, 1, 0, 0)]
def E_m234 : E_MI := (12, ⟨E_R12, "ofLongs", "(I)V"⟩, prog_14_method_62_code, 6, (Option.none : Option FieldType), false, 1, E_c234)
def E_c235 : List E_C := [(0, .aload_n 0, 1, 0, 0), (1, .getfield 52, 3, 12, 26), (4, .iload_n 1, 1, 0, 0), (5, .baload, 1, 0, 0), (6, .ifCond .ne 4, 3, 0, 0), (9, .return_, 1, 0, 0), (10, .aload_n 0, 1, 0, 0), (11, .iconst 0, 1, 0, 0), (12, .putfield 290, 3, 12, 41), (15, .iconst 0, 1, 0, 0), (16, .istore_n 2, 1, 0, 0), (17, .iload_n 2, 1, 0, 0), (18, .aload_n 0, 1, 0, 0), (19, .getfield 55, 3, 12, 27), (22, .iload_n 1, 1, 0, 0), (23, .iaload, 1, 0, 0), (24, .if_icmp .ge 20, 3, 0, 0), (27, .aload_n 0, 1, 0, 0), (28, .aload_n 0, 1, 0, 0), (29, .iload_n 1, 1, 0, 0), (30, .iload_n 2, 1, 0, 0), (31, .iconst 0, 1, 0, 0), (32, .invokevirtual 342, 3, 223, 0), (35, .invokevirtual 345, 3, 221, 0), (38, .iinc 2 1, 3, 0, 0), (41, .goto (-24), 3, 0, 0), (44, .aload_n 0, 1, 0, 0), (45, .iload_n 1, 1, 0, 0), (46, .iconst 1, 1, 0, 0), (47, .invokevirtual 348, 3, 220, 0), (50, .aload_n 0, 1, 0, 0), (51, .iconst 0, 1, 0, 0), (52, .putfield 290, 3, 12, 41), (55, .iconst 0, 1, 0, 0), (56, .istore_n 2, 1, 0, 0), (57, .iload_n 2, 1, 0, 0), (58, .aload_n 0, 1, 0, 0), (59, .getfield 55, 3, 12, 27), (62, .iload_n 1, 1, 0, 0), (63, .iaload, 1, 0, 0), (64, .if_icmp .ge 20, 3, 0, 0), (67, .aload_n 0, 1, 0, 0), (68, .aload_n 0, 1, 0, 0), (69, .iload_n 1, 1, 0, 0), (70, .iload_n 2, 1, 0, 0), (71, .iconst 0, 1, 0, 0), (72, .invokevirtual 352, 3, 224, 0), (75, .invokevirtual 345, 3, 221, 0), (78, .iinc 2 1, 3, 0, 0), (81, .goto (-24), 3, 0, 0), (84, .aload_n 0, 1, 0, 0), (85, .iload_n 1, 1, 0, 0), (86, .iconst 0, 1, 0, 0), (87, .invokevirtual 348, 3, 220, 0), (90, .aload_n 0, 1, 0, 0), (91, .iconst 0, 1, 0, 0), (92, .putfield 336, 3, 12, 43), (95, .iconst 0, 1, 0, 0), (96, .istore_n 2, 1, 0, 0), (97, .iload_n 2, 1, 0, 0), (98, .aload_n 0, 1, 0, 0), (99, .getfield 55, 3, 12, 27), (102, .iload_n 1, 1, 0, 0), (103, .iaload, 1, 0, 0), (104, .if_icmp .ge 81, 3, 0, 0), (107, .aload_n 0, 1, 0, 0), (108, .getfield 99, 3, 12, 44), (111, .aload_n 0, 1, 0, 0), (112, .getfield 336, 3, 12, 43), (115, .aload_n 0, 1, 0, 0), (116, .getfield 58, 3, 12, 28), (119, .bipush 8, 2, 0, 0), (121, .iload_n 1, 1, 0, 0), (122, .imul, 1, 0, 0), (123, .iload_n 2, 1, 0, 0), (124, .iadd, 1, 0, 0), (125, .iaload, 1, 0, 0), (126, .iastore, 1, 0, 0), (127, .iconst 0, 1, 0, 0), (128, .istore_n 3, 1, 0, 0), (129, .iload_n 3, 1, 0, 0), (130, .aload_n 0, 1, 0, 0), (131, .getfield 99, 3, 12, 44), (134, .aload_n 0, 1, 0, 0), (135, .getfield 336, 3, 12, 43), (138, .iaload, 1, 0, 0), (139, .if_icmp .ge 30, 3, 0, 0), (142, .aload_n 0, 1, 0, 0), (143, .getfield 102, 3, 12, 45), (146, .bipush 60, 2, 0, 0), (148, .aload_n 0, 1, 0, 0), (149, .getfield 336, 3, 12, 43), (152, .imul, 1, 0, 0), (153, .iload_n 3, 1, 0, 0), (154, .iadd, 1, 0, 0), (155, .aload_n 0, 1, 0, 0), (156, .iload_n 1, 1, 0, 0), (157, .iload_n 2, 1, 0, 0), (158, .iload_n 3, 1, 0, 0), (159, .invokevirtual 308, 3, 222, 0), (162, .iastore, 1, 0, 0), (163, .iinc 3 1, 3, 0, 0), (166, .goto (-37), 3, 0, 0), (169, .aload_n 0, 1, 0, 0), (170, .dup, 1, 0, 0), (171, .getfield 336, 3, 12, 43), (174, .iconst 1, 1, 0, 0), (175, .iadd, 1, 0, 0), (176, .putfield 336, 3, 12, 43), (179, .iinc 2 1, 3, 0, 0), (182, .goto (-85), 3, 0, 0), (185, .aload_n 0, 1, 0, 0), (186, .iload_n 1, 1, 0, 0), (187, .invokevirtual 355, 3, 234, 0), (190, .return_, 1, 0, 0)]
def E_m235 : E_MI := (12, ⟨E_R12, "opens", "(I)V"⟩, prog_14_method_63_code, 4, (Option.none : Option FieldType), false, 1, E_c235)
def E_c236 : List E_C := [(0, .aload_n 0, 1, 0, 0), (1, .getfield 52, 3, 12, 26), (4, .iload_n 1, 1, 0, 0), (5, .iconst 1, 1, 0, 0), (6, .bastore, 1, 0, 0), (7, .aload_n 0, 1, 0, 0), (8, .getfield 55, 3, 12, 27), (11, .iload_n 1, 1, 0, 0), (12, .iconst 1, 1, 0, 0), (13, .iastore, 1, 0, 0), (14, .aload_n 0, 1, 0, 0), (15, .getfield 58, 3, 12, 28), (18, .bipush 8, 2, 0, 0), (20, .iload_n 1, 1, 0, 0), (21, .imul, 1, 0, 0), (22, .iconst 0, 1, 0, 0), (23, .iastore, 1, 0, 0), (24, .return_, 1, 0, 0)]
def E_m236 : E_MI := (12, ⟨E_R12, "empties", "(I)V"⟩, prog_14_method_64_code, 2, (Option.none : Option FieldType), false, 1, E_c236)
def E_c237 : List E_C := [(0, .aload_n 0, 1, 0, 0), (1, .getfield 52, 3, 12, 26), (4, .iload_n 1, 1, 0, 0), (5, .iconst 0, 1, 0, 0), (6, .bastore, 1, 0, 0), (7, .aload_n 0, 1, 0, 0), (8, .getfield 64, 3, 12, 30), (11, .iload_n 1, 1, 0, 0), (12, .iconst 1, 1, 0, 0), (13, .iastore, 1, 0, 0), (14, .aload_n 0, 1, 0, 0), (15, .getfield 67, 3, 12, 31), (18, .bipush 12, 2, 0, 0), (20, .iload_n 1, 1, 0, 0), (21, .imul, 1, 0, 0), (22, .iconst 0, 1, 0, 0), (23, .iastore, 1, 0, 0), (24, .aload_n 0, 1, 0, 0), (25, .getfield 70, 3, 12, 32), (28, .iload_n 1, 1, 0, 0), (29, .iconst 1, 1, 0, 0), (30, .iastore, 1, 0, 0), (31, .aload_n 0, 1, 0, 0), (32, .getfield 73, 3, 12, 33), (35, .bipush 12, 2, 0, 0), (37, .iload_n 1, 1, 0, 0), (38, .imul, 1, 0, 0), (39, .iconst 0, 1, 0, 0), (40, .iastore, 1, 0, 0), (41, .aload_n 0, 1, 0, 0), (42, .getfield 76, 3, 12, 34), (45, .iload_n 1, 1, 0, 0), (46, .iconst 1, 1, 0, 0), (47, .iastore, 1, 0, 0), (48, .aload_n 0, 1, 0, 0), (49, .getfield 79, 3, 12, 35), (52, .bipush 24, 2, 0, 0), (54, .iload_n 1, 1, 0, 0), (55, .imul, 1, 0, 0), (56, .iconst 0, 1, 0, 0), (57, .iastore, 1, 0, 0), (58, .return_, 1, 0, 0)]
def E_m237 : E_MI := (12, ⟨E_R12, "shuts", "(I)V"⟩, prog_14_method_65_code, 2, (Option.none : Option FieldType), false, 1, E_c237)
def E_c238 : List E_C := [(0, .iconst 0, 1, 0, 0), (1, .istore_n 3, 1, 0, 0), (2, .iconst 0, 1, 0, 0), (3, .istore 4, 2, 0, 0), (5, .iload 4, 2, 0, 0), (7, .sipush 256, 3, 0, 0), (10, .if_icmp .ge 27, 3, 0, 0), (13, .iload_n 3, 1, 0, 0), (14, .aload_n 0, 1, 0, 0), (15, .iload_n 2, 1, 0, 0), (16, .iload 4, 2, 0, 0), (18, .invokevirtual 218, 3, 200, 0), (21, .ifCond .eq 7, 3, 0, 0), (24, .iconst 1, 1, 0, 0), (25, .goto 4, 3, 0, 0), (28, .iconst 0, 1, 0, 0), (29, .iadd, 1, 0, 0), (30, .istore_n 3, 1, 0, 0), (31, .iinc 4 1, 3, 0, 0), (34, .goto (-29), 3, 0, 0), (37, .iload_n 3, 1, 0, 0), (38, .bipush 8, 2, 0, 0), (40, .if_icmp .le 9, 3, 0, 0), (43, .aload_n 0, 1, 0, 0), (44, .iload_n 1, 1, 0, 0), (45, .invokevirtual 358, 3, 237, 0), (48, .return_, 1, 0, 0), (49, .aload_n 0, 1, 0, 0), (50, .getfield 52, 3, 12, 26), (53, .iload_n 1, 1, 0, 0), (54, .iconst 1, 1, 0, 0), (55, .bastore, 1, 0, 0), (56, .aload_n 0, 1, 0, 0), (57, .getfield 55, 3, 12, 27), (60, .iload_n 1, 1, 0, 0), (61, .iconst 0, 1, 0, 0), (62, .iastore, 1, 0, 0), (63, .iconst 0, 1, 0, 0), (64, .istore 4, 2, 0, 0), (66, .iload 4, 2, 0, 0), (68, .sipush 256, 3, 0, 0), (71, .if_icmp .ge 70, 3, 0, 0), (74, .aload_n 0, 1, 0, 0), (75, .iload_n 2, 1, 0, 0), (76, .iload 4, 2, 0, 0), (78, .invokevirtual 218, 3, 200, 0), (81, .ifCond .ne 6, 3, 0, 0), (84, .goto 51, 3, 0, 0), (87, .aload_n 0, 1, 0, 0), (88, .getfield 58, 3, 12, 28), (91, .bipush 8, 2, 0, 0), (93, .iload_n 1, 1, 0, 0), (94, .imul, 1, 0, 0), (95, .aload_n 0, 1, 0, 0), (96, .getfield 55, 3, 12, 27), (99, .iload_n 1, 1, 0, 0), (100, .iaload, 1, 0, 0), (101, .iadd, 1, 0, 0), (102, .iconst 1, 1, 0, 0), (103, .iastore, 1, 0, 0), (104, .aload_n 0, 1, 0, 0), (105, .getfield 61, 3, 12, 29), (108, .bipush 60, 2, 0, 0), (110, .bipush 8, 2, 0, 0), (112, .iload_n 1, 1, 0, 0), (113, .imul, 1, 0, 0), (114, .aload_n 0, 1, 0, 0), (115, .getfield 55, 3, 12, 27), (118, .iload_n 1, 1, 0, 0), (119, .iaload, 1, 0, 0), (120, .iadd, 1, 0, 0), (121, .imul, 1, 0, 0), (122, .iload 4, 2, 0, 0), (124, .iastore, 1, 0, 0), (125, .aload_n 0, 1, 0, 0), (126, .getfield 55, 3, 12, 27), (129, .iload_n 1, 1, 0, 0), (130, .dup2, 1, 0, 0), (131, .iaload, 1, 0, 0), (132, .iconst 1, 1, 0, 0), (133, .iadd, 1, 0, 0), (134, .iastore, 1, 0, 0), (135, .iinc 4 1, 3, 0, 0), (138, .goto (-72), 3, 0, 0), (141, .return_, 1, 0, 0)]
def E_m238 : E_MI := (12, ⟨E_R12, "ofSet", "(II)V"⟩, prog_14_method_66_code, 5, (Option.none : Option FieldType), false, 2, E_c238)
def E_c239 : List E_C := [(0, .aload_n 0, 1, 0, 0), (1, .getfield 52, 3, 12, 26), (4, .iload_n 2, 1, 0, 0), (5, .aload_n 0, 1, 0, 0), (6, .getfield 52, 3, 12, 26), (9, .iload_n 1, 1, 0, 0), (10, .baload, 1, 0, 0), (11, .bastore, 1, 0, 0), (12, .aload_n 0, 1, 0, 0), (13, .getfield 55, 3, 12, 27), (16, .iload_n 2, 1, 0, 0), (17, .aload_n 0, 1, 0, 0), (18, .getfield 55, 3, 12, 27), (21, .iload_n 1, 1, 0, 0), (22, .iaload, 1, 0, 0), (23, .iastore, 1, 0, 0), (24, .iconst 0, 1, 0, 0), (25, .istore_n 3, 1, 0, 0), (26, .iload_n 3, 1, 0, 0), (27, .aload_n 0, 1, 0, 0), (28, .getfield 55, 3, 12, 27), (31, .iload_n 1, 1, 0, 0), (32, .iaload, 1, 0, 0), (33, .if_icmp .ge 90, 3, 0, 0), (36, .aload_n 0, 1, 0, 0), (37, .getfield 52, 3, 12, 26), (40, .iload_n 1, 1, 0, 0), (41, .baload, 1, 0, 0), (42, .ifCond .eq 81, 3, 0, 0), (45, .aload_n 0, 1, 0, 0), (46, .getfield 58, 3, 12, 28), (49, .bipush 8, 2, 0, 0), (51, .iload_n 2, 1, 0, 0), (52, .imul, 1, 0, 0), (53, .iload_n 3, 1, 0, 0), (54, .iadd, 1, 0, 0), (55, .aload_n 0, 1, 0, 0), (56, .getfield 58, 3, 12, 28), (59, .bipush 8, 2, 0, 0), (61, .iload_n 1, 1, 0, 0), (62, .imul, 1, 0, 0), (63, .iload_n 3, 1, 0, 0), (64, .iadd, 1, 0, 0), (65, .iaload, 1, 0, 0), (66, .iastore, 1, 0, 0), (67, .iconst 0, 1, 0, 0), (68, .istore 4, 2, 0, 0), (70, .iload 4, 2, 0, 0), (72, .aload_n 0, 1, 0, 0), (73, .getfield 58, 3, 12, 28), (76, .bipush 8, 2, 0, 0), (78, .iload_n 1, 1, 0, 0), (79, .imul, 1, 0, 0), (80, .iload_n 3, 1, 0, 0), (81, .iadd, 1, 0, 0), (82, .iaload, 1, 0, 0), (83, .if_icmp .ge 34, 3, 0, 0), (86, .aload_n 0, 1, 0, 0), (87, .getfield 61, 3, 12, 29), (90, .bipush 60, 2, 0, 0), (92, .bipush 8, 2, 0, 0), (94, .iload_n 2, 1, 0, 0), (95, .imul, 1, 0, 0), (96, .iload_n 3, 1, 0, 0), (97, .iadd, 1, 0, 0), (98, .imul, 1, 0, 0), (99, .iload 4, 2, 0, 0), (101, .iadd, 1, 0, 0), (102, .aload_n 0, 1, 0, 0), (103, .iload_n 1, 1, 0, 0), (104, .iload_n 3, 1, 0, 0), (105, .iload 4, 2, 0, 0), (107, .invokevirtual 308, 3, 222, 0), (110, .iastore, 1, 0, 0), (111, .iinc 4 1, 3, 0, 0), (114, .goto (-44), 3, 0, 0), (117, .iinc 3 1, 3, 0, 0), (120, .goto (-94), 3, 0, 0), (123, .aload_n 0, 1, 0, 0), (124, .getfield 52, 3, 12, 26), (127, .iload_n 1, 1, 0, 0), (128, .baload, 1, 0, 0), (129, .ifCond .eq 4, 3, 0, 0), (132, .return_, 1, 0, 0), (133, .aload_n 0, 1, 0, 0), (134, .getfield 64, 3, 12, 30), (137, .iload_n 2, 1, 0, 0), (138, .aload_n 0, 1, 0, 0), (139, .getfield 64, 3, 12, 30), (142, .iload_n 1, 1, 0, 0), (143, .iaload, 1, 0, 0), (144, .iastore, 1, 0, 0), (145, .aload_n 0, 1, 0, 0), (146, .getfield 70, 3, 12, 32), (149, .iload_n 2, 1, 0, 0), (150, .aload_n 0, 1, 0, 0), (151, .getfield 70, 3, 12, 32), (154, .iload_n 1, 1, 0, 0), (155, .iaload, 1, 0, 0), (156, .iastore, 1, 0, 0), (157, .iconst 0, 1, 0, 0), (158, .istore_n 3, 1, 0, 0), (159, .iload_n 3, 1, 0, 0), (160, .bipush 12, 2, 0, 0), (162, .if_icmp .ge 53, 3, 0, 0), (165, .aload_n 0, 1, 0, 0), (166, .getfield 67, 3, 12, 31), (169, .bipush 12, 2, 0, 0), (171, .iload_n 2, 1, 0, 0), (172, .imul, 1, 0, 0), (173, .iload_n 3, 1, 0, 0), (174, .iadd, 1, 0, 0), (175, .aload_n 0, 1, 0, 0), (176, .getfield 67, 3, 12, 31), (179, .bipush 12, 2, 0, 0), (181, .iload_n 1, 1, 0, 0), (182, .imul, 1, 0, 0), (183, .iload_n 3, 1, 0, 0), (184, .iadd, 1, 0, 0), (185, .iaload, 1, 0, 0), (186, .iastore, 1, 0, 0), (187, .aload_n 0, 1, 0, 0), (188, .getfield 73, 3, 12, 33), (191, .bipush 12, 2, 0, 0), (193, .iload_n 2, 1, 0, 0), (194, .imul, 1, 0, 0), (195, .iload_n 3, 1, 0, 0), (196, .iadd, 1, 0, 0), (197, .aload_n 0, 1, 0, 0), (198, .getfield 73, 3, 12, 33), (201, .bipush 12, 2, 0, 0), (203, .iload_n 1, 1, 0, 0), (204, .imul, 1, 0, 0), (205, .iload_n 3, 1, 0, 0), (206, .iadd, 1, 0, 0), (207, .iaload, 1, 0, 0), (208, .iastore, 1, 0, 0), (209, .iinc 3 1, 3, 0, 0), (212, .goto (-53), 3, 0, 0), (215, .aload_n 0, 1, 0, 0), (216, .getfield 76, 3, 12, 34), (219, .iload_n 2, 1, 0, 0), (220, .aload_n 0, 1, 0, 0), (221, .getfield 76, 3, 12, 34), (224, .iload_n 1, 1, 0, 0), (225, .iaload, 1, 0, 0), (226, .iastore, 1, 0, 0), (227, .iconst 0, 1, 0, 0), (228, .istore_n 3, 1, 0, 0), (229, .iload_n 3, 1, 0, 0), (230, .aload_n 0, 1, 0, 0), (231, .getfield 76, 3, 12, 34), (234, .iload_n 1, 1, 0, 0), (235, .iaload, 1, 0, 0), (236, .if_icmp .ge 92, 3, 0, 0), (239, .aload_n 0, 1, 0, 0), (240, .getfield 79, 3, 12, 35), (243, .bipush 24, 2, 0, 0), (245, .iload_n 2, 1, 0, 0), (246, .imul, 1, 0, 0), (247, .iload_n 3, 1, 0, 0), (248, .iadd, 1, 0, 0), (249, .aload_n 0, 1, 0, 0), (250, .getfield 79, 3, 12, 35), (253, .bipush 24, 2, 0, 0), (255, .iload_n 1, 1, 0, 0), (256, .imul, 1, 0, 0), (257, .iload_n 3, 1, 0, 0), (258, .iadd, 1, 0, 0), (259, .iaload, 1, 0, 0), (260, .iastore, 1, 0, 0), (261, .iconst 0, 1, 0, 0), (262, .istore 4, 2, 0, 0), (264, .iload 4, 2, 0, 0), (266, .aload_n 0, 1, 0, 0), (267, .getfield 79, 3, 12, 35), (270, .bipush 24, 2, 0, 0), (272, .iload_n 1, 1, 0, 0), (273, .imul, 1, 0, 0), (274, .iload_n 3, 1, 0, 0), (275, .iadd, 1, 0, 0), (276, .iaload, 1, 0, 0), (277, .if_icmp .ge 45, 3, 0, 0), (280, .aload_n 0, 1, 0, 0), (281, .getfield 83, 3, 12, 36), (284, .sipush 640, 3, 0, 0), (287, .bipush 24, 2, 0, 0), (289, .iload_n 2, 1, 0, 0), (290, .imul, 1, 0, 0), (291, .iload_n 3, 1, 0, 0), (292, .iadd, 1, 0, 0), (293, .imul, 1, 0, 0), (294, .iload 4, 2, 0, 0), (296, .iadd, 1, 0, 0), (297, .aload_n 0, 1, 0, 0), (298, .getfield 83, 3, 12, 36), (301, .sipush 640, 3, 0, 0), (304, .bipush 24, 2, 0, 0), (306, .iload_n 1, 1, 0, 0), (307, .imul, 1, 0, 0), (308, .iload_n 3, 1, 0, 0), (309, .iadd, 1, 0, 0), (310, .imul, 1, 0, 0), (311, .iload 4, 2, 0, 0), (313, .iadd, 1, 0, 0), (314, .iaload, 1, 0, 0), (315, .iastore, 1, 0, 0), (316, .iinc 4 1, 3, 0, 0), (319, .goto (-55), 3, 0, 0), (322, .iinc 3 1, 3, 0, 0), (325, .goto (-96), 3, 0, 0), (328, .return_, 1, 0, 0)]
def E_m239 : E_MI := (12, ⟨E_R12, "copies", "(II)V"⟩, prog_14_method_67_code, 5, (Option.none : Option FieldType), false, 2, E_c239)
def E_c240 : List E_C := [(0, .iconst 0, 1, 0, 0), (1, .istore_n 3, 1, 0, 0), (2, .iload_n 3, 1, 0, 0), (3, .aload_n 0, 1, 0, 0), (4, .getfield 55, 3, 12, 27), (7, .bipush 40, 2, 0, 0), (9, .iaload, 1, 0, 0), (10, .if_icmp .ge 85, 3, 0, 0), (13, .aload_n 0, 1, 0, 0), (14, .getfield 58, 3, 12, 28), (17, .sipush 320, 3, 0, 0), (20, .iload_n 3, 1, 0, 0), (21, .iadd, 1, 0, 0), (22, .iaload, 1, 0, 0), (23, .iload_n 1, 1, 0, 0), (24, .if_icmp .ne 7, 3, 0, 0), (27, .iconst 1, 1, 0, 0), (28, .goto 4, 3, 0, 0), (31, .iconst 0, 1, 0, 0), (32, .istore 4, 2, 0, 0), (34, .iconst 0, 1, 0, 0), (35, .istore 5, 2, 0, 0), (37, .iload 5, 2, 0, 0), (39, .iload_n 1, 1, 0, 0), (40, .if_icmp .ge 42, 3, 0, 0), (43, .iload 4, 2, 0, 0), (45, .ifCond .eq 37, 3, 0, 0), (48, .aload_n 0, 1, 0, 0), (49, .bipush 40, 2, 0, 0), (51, .iload_n 3, 1, 0, 0), (52, .iload 5, 2, 0, 0), (54, .invokevirtual 308, 3, 222, 0), (57, .aload_n 0, 1, 0, 0), (58, .getfield 102, 3, 12, 45), (61, .iload_n 2, 1, 0, 0), (62, .iload 5, 2, 0, 0), (64, .iadd, 1, 0, 0), (65, .iaload, 1, 0, 0), (66, .if_icmp .ne 7, 3, 0, 0), (69, .iconst 1, 1, 0, 0), (70, .goto 4, 3, 0, 0), (73, .iconst 0, 1, 0, 0), (74, .istore 4, 2, 0, 0), (76, .iinc 5 1, 3, 0, 0), (79, .goto (-42), 3, 0, 0), (82, .iload 4, 2, 0, 0), (84, .ifCond .eq 5, 3, 0, 0), (87, .iconst 1, 1, 0, 0), (88, .ireturn, 1, 0, 0), (89, .iinc 3 1, 3, 0, 0), (92, .goto (-90), 3, 0, 0), (95, .iconst 0, 1, 0, 0), (96, .ireturn, 1, 0, 0)]
def E_m240 : E_MI := (12, ⟨E_R12, "isMade", "(II)Z"⟩, prog_14_method_68_code, 6, (Option.some FieldType.boolean), false, 2, E_c240)
def E_c241 : List E_C := [(0, .iload_n 1, 1, 0, 0), (1, .bipush 60, 2, 0, 0), (3, .if_icmp .le 5, 3, 0, 0), (6, .iconst 0, 1, 0, 0), (7, .ireturn, 1, 0, 0), (8, .aload_n 0, 1, 0, 0), (9, .iload_n 1, 1, 0, 0), (10, .iconst 0, 1, 0, 0), (11, .invokevirtual 361, 3, 240, 0), (14, .ifCond .eq 5, 3, 0, 0), (17, .iconst 1, 1, 0, 0), (18, .ireturn, 1, 0, 0), (19, .aload_n 0, 1, 0, 0), (20, .getfield 55, 3, 12, 27), (23, .bipush 40, 2, 0, 0), (25, .iaload, 1, 0, 0), (26, .istore_n 2, 1, 0, 0), (27, .iload_n 2, 1, 0, 0), (28, .bipush 8, 2, 0, 0), (30, .if_icmp .ne 5, 3, 0, 0), (33, .iconst 0, 1, 0, 0), (34, .ireturn, 1, 0, 0), (35, .aload_n 0, 1, 0, 0), (36, .getfield 58, 3, 12, 28), (39, .sipush 320, 3, 0, 0), (42, .iload_n 2, 1, 0, 0), (43, .iadd, 1, 0, 0), (44, .iload_n 1, 1, 0, 0), (45, .iastore, 1, 0, 0), (46, .iconst 0, 1, 0, 0), (47, .istore_n 3, 1, 0, 0), (48, .iload_n 3, 1, 0, 0), (49, .iload_n 1, 1, 0, 0), (50, .if_icmp .ge 30, 3, 0, 0), (53, .aload_n 0, 1, 0, 0), (54, .getfield 61, 3, 12, 29), (57, .bipush 60, 2, 0, 0), (59, .sipush 320, 3, 0, 0), (62, .iload_n 2, 1, 0, 0), (63, .iadd, 1, 0, 0), (64, .imul, 1, 0, 0), (65, .iload_n 3, 1, 0, 0), (66, .iadd, 1, 0, 0), (67, .aload_n 0, 1, 0, 0), (68, .getfield 102, 3, 12, 45), (71, .iload_n 3, 1, 0, 0), (72, .iaload, 1, 0, 0), (73, .iastore, 1, 0, 0), (74, .iinc 3 1, 3, 0, 0), (77, .goto (-29), 3, 0, 0), (80, .aload_n 0, 1, 0, 0), (81, .getfield 55, 3, 12, 27), (84, .bipush 40, 2, 0, 0), (86, .dup2, 1, 0, 0), (87, .iaload, 1, 0, 0), (88, .iconst 1, 1, 0, 0), (89, .iadd, 1, 0, 0), (90, .iastore, 1, 0, 0), (91, .iconst 1, 1, 0, 0), (92, .ireturn, 1, 0, 0)]
def E_m241 : E_MI := (12, ⟨E_R12, "makes", "(I)Z"⟩, prog_14_method_69_code, 4, (Option.some FieldType.boolean), false, 1, E_c241)
def E_c242 : List E_C := [(0, .aload_n 0, 1, 0, 0), (1, .getfield 55, 3, 12, 27), (4, .bipush 40, 2, 0, 0), (6, .iconst 0, 1, 0, 0), (7, .iastore, 1, 0, 0), (8, .iconst 0, 1, 0, 0), (9, .istore_n 3, 1, 0, 0), (10, .iload_n 3, 1, 0, 0), (11, .aload_n 0, 1, 0, 0), (12, .getfield 55, 3, 12, 27), (15, .iload_n 1, 1, 0, 0), (16, .iaload, 1, 0, 0), (17, .if_icmp .ge 136, 3, 0, 0), (20, .aload_n 0, 1, 0, 0), (21, .getfield 58, 3, 12, 28), (24, .bipush 8, 2, 0, 0), (26, .iload_n 1, 1, 0, 0), (27, .imul, 1, 0, 0), (28, .iload_n 3, 1, 0, 0), (29, .iadd, 1, 0, 0), (30, .iaload, 1, 0, 0), (31, .istore 4, 2, 0, 0), (33, .iconst 0, 1, 0, 0), (34, .istore 5, 2, 0, 0), (36, .iload 5, 2, 0, 0), (38, .aload_n 0, 1, 0, 0), (39, .getfield 55, 3, 12, 27), (42, .iload_n 2, 1, 0, 0), (43, .iaload, 1, 0, 0), (44, .if_icmp .ge 103, 3, 0, 0), (47, .aload_n 0, 1, 0, 0), (48, .getfield 58, 3, 12, 28), (51, .bipush 8, 2, 0, 0), (53, .iload_n 2, 1, 0, 0), (54, .imul, 1, 0, 0), (55, .iload 5, 2, 0, 0), (57, .iadd, 1, 0, 0), (58, .iaload, 1, 0, 0), (59, .istore 6, 2, 0, 0), (61, .iconst 0, 1, 0, 0), (62, .istore 7, 2, 0, 0), (64, .iload 7, 2, 0, 0), (66, .iload 4, 2, 0, 0), (68, .if_icmp .ge 24, 3, 0, 0), (71, .aload_n 0, 1, 0, 0), (72, .getfield 102, 3, 12, 45), (75, .iload 7, 2, 0, 0), (77, .aload_n 0, 1, 0, 0), (78, .iload_n 1, 1, 0, 0), (79, .iload_n 3, 1, 0, 0), (80, .iload 7, 2, 0, 0), (82, .invokevirtual 308, 3, 222, 0), (85, .iastore, 1, 0, 0), (86, .iinc 7 1, 3, 0, 0), (89, .goto (-25), 3, 0, 0), (92, .iconst 0, 1, 0, 0), (93, .istore 7, 2, 0, 0), (95, .iload 7, 2, 0, 0), (97, .iload 6, 2, 0, 0), (99, .if_icmp .ge 28, 3, 0, 0), (102, .aload_n 0, 1, 0, 0), (103, .getfield 102, 3, 12, 45), (106, .iload 4, 2, 0, 0), (108, .iload 7, 2, 0, 0), (110, .iadd, 1, 0, 0), (111, .aload_n 0, 1, 0, 0), (112, .iload_n 2, 1, 0, 0), (113, .iload 5, 2, 0, 0), (115, .iload 7, 2, 0, 0), (117, .invokevirtual 308, 3, 222, 0), (120, .iastore, 1, 0, 0), (121, .iinc 7 1, 3, 0, 0), (124, .goto (-29), 3, 0, 0), (127, .aload_n 0, 1, 0, 0), (128, .iload 4, 2, 0, 0), (130, .iload 6, 2, 0, 0), (132, .iadd, 1, 0, 0), (133, .invokevirtual 364, 3, 241, 0), (136, .ifCond .ne 5, 3, 0, 0), (139, .iconst 0, 1, 0, 0), (140, .ireturn, 1, 0, 0), (141, .iinc 5 1, 3, 0, 0), (144, .goto (-108), 3, 0, 0), (147, .iinc 3 1, 3, 0, 0), (150, .goto (-140), 3, 0, 0), (153, .aload_n 0, 1, 0, 0), (154, .getfield 52, 3, 12, 26), (157, .bipush 40, 2, 0, 0), (159, .iconst 1, 1, 0, 0), (160, .bastore, 1, 0, 0), (161, .iconst 1, 1, 0, 0), (162, .ireturn, 1, 0, 0)]
def E_m242 : E_MI := (12, ⟨E_R12, "joins", "(II)Z"⟩, prog_14_method_70_code, 8, (Option.some FieldType.boolean), false, 2, E_c242)
def E_c243 : List E_C := [(0, .aload_n 0, 1, 0, 0), (1, .getfield 52, 3, 12, 26), (4, .iload_n 1, 1, 0, 0), (5, .baload, 1, 0, 0), (6, .ifCond .eq 29, 3, 0, 0), (9, .aload_n 0, 1, 0, 0), (10, .getfield 52, 3, 12, 26), (13, .iload_n 2, 1, 0, 0), (14, .baload, 1, 0, 0), (15, .ifCond .eq 20, 3, 0, 0), (18, .aload_n 0, 1, 0, 0), (19, .iload_n 1, 1, 0, 0), (20, .iload_n 2, 1, 0, 0), (21, .invokevirtual 367, 3, 242, 0), (24, .ifCond .eq 11, 3, 0, 0), (27, .aload_n 0, 1, 0, 0), (28, .bipush 40, 2, 0, 0), (30, .iload_n 1, 1, 0, 0), (31, .invokevirtual 370, 3, 239, 0), (34, .return_, 1, 0, 0), (35, .aload_n 0, 1, 0, 0), (36, .iload_n 1, 1, 0, 0), (37, .invokevirtual 373, 3, 235, 0), (40, .aload_n 0, 1, 0, 0), (41, .iload_n 2, 1, 0, 0), (42, .invokevirtual 373, 3, 235, 0), (45, .aload_n 0, 1, 0, 0), (46, .iconst 0, 1, 0, 0), (47, .putfield 290, 3, 12, 41), (50, .iconst 0, 1, 0, 0), (51, .istore_n 3, 1, 0, 0), (52, .iload_n 3, 1, 0, 0), (53, .aload_n 0, 1, 0, 0), (54, .getfield 64, 3, 12, 30), (57, .aload_n 0, 1, 0, 0), (58, .getfield 52, 3, 12, 26), (61, .iload_n 1, 1, 0, 0), (62, .baload, 1, 0, 0), (63, .ifCond .eq 7, 3, 0, 0), (66, .iload_n 2, 1, 0, 0), (67, .goto 4, 3, 0, 0), (70, .iload_n 1, 1, 0, 0), (71, .iaload, 1, 0, 0), (72, .if_icmp .ge 84, 3, 0, 0), (75, .aload_n 0, 1, 0, 0), (76, .getfield 52, 3, 12, 26), (79, .iload_n 1, 1, 0, 0), (80, .baload, 1, 0, 0), (81, .ifCond .ne 18, 3, 0, 0), (84, .aload_n 0, 1, 0, 0), (85, .aload_n 0, 1, 0, 0), (86, .getfield 67, 3, 12, 31), (89, .bipush 12, 2, 0, 0), (91, .iload_n 1, 1, 0, 0), (92, .imul, 1, 0, 0), (93, .iload_n 3, 1, 0, 0), (94, .iadd, 1, 0, 0), (95, .iaload, 1, 0, 0), (96, .invokevirtual 345, 3, 221, 0), (99, .iconst 0, 1, 0, 0), (100, .istore 4, 2, 0, 0), (102, .iload 4, 2, 0, 0), (104, .aload_n 0, 1, 0, 0), (105, .getfield 55, 3, 12, 27), (108, .iload_n 1, 1, 0, 0), (109, .iaload, 1, 0, 0), (110, .if_icmp .ge 40, 3, 0, 0), (113, .aload_n 0, 1, 0, 0), (114, .getfield 52, 3, 12, 26), (117, .iload_n 1, 1, 0, 0), (118, .baload, 1, 0, 0), (119, .ifCond .eq 31, 3, 0, 0), (122, .aload_n 0, 1, 0, 0), (123, .aload_n 0, 1, 0, 0), (124, .iload_n 1, 1, 0, 0), (125, .iload 4, 2, 0, 0), (127, .aload_n 0, 1, 0, 0), (128, .getfield 67, 3, 12, 31), (131, .bipush 12, 2, 0, 0), (133, .iload_n 2, 1, 0, 0), (134, .imul, 1, 0, 0), (135, .iload_n 3, 1, 0, 0), (136, .iadd, 1, 0, 0), (137, .iaload, 1, 0, 0), (138, .invokevirtual 342, 3, 223, 0), (141, .invokevirtual 345, 3, 221, 0), (144, .iinc 4 1, 3, 0, 0), (147, .goto (-45), 3, 0, 0), (150, .iinc 3 1, 3, 0, 0), (153, .goto (-101), 3, 0, 0), (156, .aload_n 0, 1, 0, 0), (157, .bipush 40, 2, 0, 0), (159, .iconst 1, 1, 0, 0), (160, .invokevirtual 348, 3, 220, 0), (163, .aload_n 0, 1, 0, 0), (164, .iconst 0, 1, 0, 0), (165, .putfield 290, 3, 12, 41), (168, .iconst 0, 1, 0, 0), (169, .istore_n 3, 1, 0, 0), (170, .iload_n 3, 1, 0, 0), (171, .aload_n 0, 1, 0, 0), (172, .getfield 70, 3, 12, 32), (175, .aload_n 0, 1, 0, 0), (176, .getfield 52, 3, 12, 26), (179, .iload_n 2, 1, 0, 0), (180, .baload, 1, 0, 0), (181, .ifCond .eq 7, 3, 0, 0), (184, .iload_n 1, 1, 0, 0), (185, .goto 4, 3, 0, 0), (188, .iload_n 2, 1, 0, 0), (189, .iaload, 1, 0, 0), (190, .if_icmp .ge 84, 3, 0, 0), (193, .aload_n 0, 1, 0, 0), (194, .getfield 52, 3, 12, 26), (197, .iload_n 2, 1, 0, 0), (198, .baload, 1, 0, 0), (199, .ifCond .ne 18, 3, 0, 0), (202, .aload_n 0, 1, 0, 0), (203, .aload_n 0, 1, 0, 0), (204, .getfield 73, 3, 12, 33), (207, .bipush 12, 2, 0, 0), (209, .iload_n 2, 1, 0, 0), (210, .imul, 1, 0, 0), (211, .iload_n 3, 1, 0, 0), (212, .iadd, 1, 0, 0), (213, .iaload, 1, 0, 0), (214, .invokevirtual 345, 3, 221, 0), (217, .iconst 0, 1, 0, 0), (218, .istore 4, 2, 0, 0), (220, .iload 4, 2, 0, 0), (222, .aload_n 0, 1, 0, 0), (223, .getfield 55, 3, 12, 27), (226, .iload_n 2, 1, 0, 0), (227, .iaload, 1, 0, 0), (228, .if_icmp .ge 40, 3, 0, 0), (231, .aload_n 0, 1, 0, 0), (232, .getfield 52, 3, 12, 26), (235, .iload_n 2, 1, 0, 0), (236, .baload, 1, 0, 0), (237, .ifCond .eq 31, 3, 0, 0), (240, .aload_n 0, 1, 0, 0), (241, .aload_n 0, 1, 0, 0), (242, .iload_n 2, 1, 0, 0), (243, .iload 4, 2, 0, 0), (245, .aload_n 0, 1, 0, 0), (246, .getfield 73, 3, 12, 33), (249, .bipush 12, 2, 0, 0), (251, .iload_n 1, 1, 0, 0), (252, .imul, 1, 0, 0), (253, .iload_n 3, 1, 0, 0), (254, .iadd, 1, 0, 0), (255, .iaload, 1, 0, 0), (256, .invokevirtual 352, 3, 224, 0), (259, .invokevirtual 345, 3, 221, 0), (262, .iinc 4 1, 3, 0, 0), (265, .goto (-45), 3, 0, 0), (268, .iinc 3 1, 3, 0, 0), (271, .goto (-101), 3, 0, 0), (274, .aload_n 0, 1, 0, 0), (275, .bipush 40, 2, 0, 0), (277, .iconst 0, 1, 0, 0), (278, .invokevirtual 348, 3, 220, 0), (281, .aload_n 0, 1, 0, 0), (282, .iload_n 1, 1, 0, 0), (283, .iload_n 2, 1, 0, 0), (284, .bipush 41, 2, 0, 0), (286, .invokevirtual 376, 3, 232, 0), (289, .aload_n 0, 1, 0, 0), (290, .iload_n 1, 1, 0, 0), (291, .iload_n 2, 1, 0, 0), (292, .invokevirtual 379, 3, 244, 0), (295, .aload_n 0, 1, 0, 0), (296, .bipush 41, 2, 0, 0), (298, .bipush 40, 2, 0, 0), (300, .bipush 40, 2, 0, 0), (302, .invokevirtual 376, 3, 232, 0), (305, .aload_n 0, 1, 0, 0), (306, .getfield 52, 3, 12, 26), (309, .bipush 40, 2, 0, 0), (311, .iconst 0, 1, 0, 0), (312, .bastore, 1, 0, 0), (313, .aload_n 0, 1, 0, 0), (314, .bipush 40, 2, 0, 0), (316, .iload_n 1, 1, 0, 0), (317, .invokevirtual 370, 3, 239, 0), (320, .return_, 1, 0, 0)]
def E_m243 : E_MI := (12, ⟨E_R12, "behind", "(II)V"⟩, prog_14_method_71_code, 5, (Option.none : Option FieldType), false, 2, E_c243)
def E_c244 : List E_C := [(0, .aload_n 0, 1, 0, 0), (1, .iconst 0, 1, 0, 0), (2, .putfield 336, 3, 12, 43), (5, .iconst 0, 1, 0, 0), (6, .istore_n 3, 1, 0, 0), (7, .iload_n 3, 1, 0, 0), (8, .aload_n 0, 1, 0, 0), (9, .getfield 70, 3, 12, 32), (12, .iload_n 1, 1, 0, 0), (13, .iaload, 1, 0, 0), (14, .if_icmp .ge 156, 3, 0, 0), (17, .iconst 0, 1, 0, 0), (18, .istore 4, 2, 0, 0), (20, .iload 4, 2, 0, 0), (22, .aload_n 0, 1, 0, 0), (23, .getfield 64, 3, 12, 30), (26, .iload_n 2, 1, 0, 0), (27, .iaload, 1, 0, 0), (28, .if_icmp .ge 136, 3, 0, 0), (31, .iconst 0, 1, 0, 0), (32, .istore 5, 2, 0, 0), (34, .iconst 0, 1, 0, 0), (35, .istore 6, 2, 0, 0), (37, .iload 6, 2, 0, 0), (39, .iconst 2, 1, 0, 0), (40, .if_icmp .ge 97, 3, 0, 0), (43, .iload 6, 2, 0, 0), (45, .ifCond .ne 17, 3, 0, 0), (48, .aload_n 0, 1, 0, 0), (49, .getfield 73, 3, 12, 33), (52, .bipush 12, 2, 0, 0), (54, .iload_n 1, 1, 0, 0), (55, .imul, 1, 0, 0), (56, .iload_n 3, 1, 0, 0), (57, .iadd, 1, 0, 0), (58, .iaload, 1, 0, 0), (59, .goto 15, 3, 0, 0), (62, .aload_n 0, 1, 0, 0), (63, .getfield 67, 3, 12, 31), (66, .bipush 12, 2, 0, 0), (68, .iload_n 2, 1, 0, 0), (69, .imul, 1, 0, 0), (70, .iload 4, 2, 0, 0), (72, .iadd, 1, 0, 0), (73, .iaload, 1, 0, 0), (74, .istore 7, 2, 0, 0), (76, .iconst 0, 1, 0, 0), (77, .istore 8, 2, 0, 0), (79, .iload 8, 2, 0, 0), (81, .iload 7, 2, 0, 0), (83, .invokestatic 281, 3, 213, 0), (86, .if_icmp .ge 45, 3, 0, 0), (89, .aload_n 0, 1, 0, 0), (90, .getfield 102, 3, 12, 45), (93, .bipush 60, 2, 0, 0), (95, .aload_n 0, 1, 0, 0), (96, .getfield 336, 3, 12, 43), (99, .imul, 1, 0, 0), (100, .iload 5, 2, 0, 0), (102, .iadd, 1, 0, 0), (103, .iload 8, 2, 0, 0), (105, .ifCond .ne 11, 3, 0, 0), (108, .iload 7, 2, 0, 0), (110, .invokestatic 284, 3, 214, 0), (113, .goto 8, 3, 0, 0), (116, .iload 7, 2, 0, 0), (118, .invokestatic 287, 3, 215, 0), (121, .iastore, 1, 0, 0), (122, .iinc 5 1, 3, 0, 0), (125, .iinc 8 1, 3, 0, 0), (128, .goto (-49), 3, 0, 0), (131, .iinc 6 1, 3, 0, 0), (134, .goto (-97), 3, 0, 0), (137, .aload_n 0, 1, 0, 0), (138, .getfield 99, 3, 12, 44), (141, .aload_n 0, 1, 0, 0), (142, .getfield 336, 3, 12, 43), (145, .iload 5, 2, 0, 0), (147, .iastore, 1, 0, 0), (148, .aload_n 0, 1, 0, 0), (149, .dup, 1, 0, 0), (150, .getfield 336, 3, 12, 43), (153, .iconst 1, 1, 0, 0), (154, .iadd, 1, 0, 0), (155, .putfield 336, 3, 12, 43), (158, .iinc 4 1, 3, 0, 0), (161, .goto (-141), 3, 0, 0), (164, .iinc 3 1, 3, 0, 0), (167, .goto (-160), 3, 0, 0), (170, .aload_n 0, 1, 0, 0), (171, .bipush 40, 2, 0, 0), (173, .invokevirtual 355, 3, 234, 0), (176, .return_, 1, 0, 0)]
def E_m244 : E_MI := (12, ⟨E_R12, "meets", "(II)V"⟩, prog_14_method_72_code, 9, (Option.none : Option FieldType), false, 2, E_c244)
def E_c245 : List E_C := [(0, .aload_n 0, 1, 0, 0), (1, .getfield 52, 3, 12, 26), (4, .iload_n 1, 1, 0, 0), (5, .baload, 1, 0, 0), (6, .ifCond .eq 164, 3, 0, 0), (9, .aload_n 0, 1, 0, 0), (10, .getfield 52, 3, 12, 26), (13, .iload_n 2, 1, 0, 0), (14, .baload, 1, 0, 0), (15, .ifCond .eq 155, 3, 0, 0), (18, .aload_n 0, 1, 0, 0), (19, .getfield 55, 3, 12, 27), (22, .bipush 40, 2, 0, 0), (24, .iconst 0, 1, 0, 0), (25, .iastore, 1, 0, 0), (26, .iconst 1, 1, 0, 0), (27, .istore_n 3, 1, 0, 0), (28, .iconst 0, 1, 0, 0), (29, .istore 4, 2, 0, 0), (31, .iload 4, 2, 0, 0), (33, .iconst 2, 1, 0, 0), (34, .if_icmp .ge 116, 3, 0, 0), (37, .iload 4, 2, 0, 0), (39, .ifCond .ne 7, 3, 0, 0), (42, .iload_n 1, 1, 0, 0), (43, .goto 4, 3, 0, 0), (46, .iload_n 2, 1, 0, 0), (47, .istore 5, 2, 0, 0), (49, .iconst 0, 1, 0, 0), (50, .istore 6, 2, 0, 0), (52, .iload 6, 2, 0, 0), (54, .aload_n 0, 1, 0, 0), (55, .getfield 55, 3, 12, 27), (58, .iload 5, 2, 0, 0), (60, .iaload, 1, 0, 0), (61, .if_icmp .ge 83, 3, 0, 0), (64, .iconst 0, 1, 0, 0), (65, .istore 7, 2, 0, 0), (67, .iload 7, 2, 0, 0), (69, .aload_n 0, 1, 0, 0), (70, .getfield 58, 3, 12, 28), (73, .bipush 8, 2, 0, 0), (75, .iload 5, 2, 0, 0), (77, .imul, 1, 0, 0), (78, .iload 6, 2, 0, 0), (80, .iadd, 1, 0, 0), (81, .iaload, 1, 0, 0), (82, .if_icmp .ge 26, 3, 0, 0), (85, .aload_n 0, 1, 0, 0), (86, .getfield 102, 3, 12, 45), (89, .iload 7, 2, 0, 0), (91, .aload_n 0, 1, 0, 0), (92, .iload 5, 2, 0, 0), (94, .iload 6, 2, 0, 0), (96, .iload 7, 2, 0, 0), (98, .invokevirtual 308, 3, 222, 0), (101, .iastore, 1, 0, 0), (102, .iinc 7 1, 3, 0, 0), (105, .goto (-38), 3, 0, 0), (108, .iload_n 3, 1, 0, 0), (109, .ifCond .eq 27, 3, 0, 0), (112, .aload_n 0, 1, 0, 0), (113, .aload_n 0, 1, 0, 0), (114, .getfield 58, 3, 12, 28), (117, .bipush 8, 2, 0, 0), (119, .iload 5, 2, 0, 0), (121, .imul, 1, 0, 0), (122, .iload 6, 2, 0, 0), (124, .iadd, 1, 0, 0), (125, .iaload, 1, 0, 0), (126, .invokevirtual 364, 3, 241, 0), (129, .ifCond .eq 7, 3, 0, 0), (132, .iconst 1, 1, 0, 0), (133, .goto 4, 3, 0, 0), (136, .iconst 0, 1, 0, 0), (137, .istore_n 3, 1, 0, 0), (138, .iinc 6 1, 3, 0, 0), (141, .goto (-89), 3, 0, 0), (144, .iinc 4 1, 3, 0, 0), (147, .goto (-116), 3, 0, 0), (150, .aload_n 0, 1, 0, 0), (151, .getfield 52, 3, 12, 26), (154, .bipush 40, 2, 0, 0), (156, .iconst 1, 1, 0, 0), (157, .bastore, 1, 0, 0), (158, .iload_n 3, 1, 0, 0), (159, .ifCond .eq 11, 3, 0, 0), (162, .aload_n 0, 1, 0, 0), (163, .bipush 40, 2, 0, 0), (165, .iload_n 1, 1, 0, 0), (166, .invokevirtual 370, 3, 239, 0), (169, .return_, 1, 0, 0), (170, .aload_n 0, 1, 0, 0), (171, .iload_n 1, 1, 0, 0), (172, .invokevirtual 373, 3, 235, 0), (175, .aload_n 0, 1, 0, 0), (176, .iload_n 2, 1, 0, 0), (177, .invokevirtual 373, 3, 235, 0), (180, .aload_n 0, 1, 0, 0), (181, .iconst 0, 1, 0, 0), (182, .putfield 290, 3, 12, 41), (185, .iconst 0, 1, 0, 0), (186, .istore_n 3, 1, 0, 0), (187, .iload_n 3, 1, 0, 0), (188, .aload_n 0, 1, 0, 0), (189, .getfield 64, 3, 12, 30), (192, .iload_n 1, 1, 0, 0), (193, .iaload, 1, 0, 0), (194, .if_icmp .ge 24, 3, 0, 0), (197, .aload_n 0, 1, 0, 0), (198, .aload_n 0, 1, 0, 0), (199, .getfield 67, 3, 12, 31), (202, .bipush 12, 2, 0, 0), (204, .iload_n 1, 1, 0, 0), (205, .imul, 1, 0, 0), (206, .iload_n 3, 1, 0, 0), (207, .iadd, 1, 0, 0), (208, .iaload, 1, 0, 0), (209, .invokevirtual 345, 3, 221, 0), (212, .iinc 3 1, 3, 0, 0), (215, .goto (-28), 3, 0, 0), (218, .iconst 0, 1, 0, 0), (219, .istore_n 3, 1, 0, 0), (220, .iload_n 3, 1, 0, 0), (221, .aload_n 0, 1, 0, 0), (222, .getfield 64, 3, 12, 30), (225, .iload_n 2, 1, 0, 0), (226, .iaload, 1, 0, 0), (227, .if_icmp .ge 24, 3, 0, 0), (230, .aload_n 0, 1, 0, 0), (231, .aload_n 0, 1, 0, 0), (232, .getfield 67, 3, 12, 31), (235, .bipush 12, 2, 0, 0), (237, .iload_n 2, 1, 0, 0), (238, .imul, 1, 0, 0), (239, .iload_n 3, 1, 0, 0), (240, .iadd, 1, 0, 0), (241, .iaload, 1, 0, 0), (242, .invokevirtual 345, 3, 221, 0), (245, .iinc 3 1, 3, 0, 0), (248, .goto (-28), 3, 0, 0), (251, .aload_n 0, 1, 0, 0), (252, .bipush 40, 2, 0, 0), (254, .iconst 1, 1, 0, 0), (255, .invokevirtual 348, 3, 220, 0), (258, .aload_n 0, 1, 0, 0), (259, .iconst 0, 1, 0, 0), (260, .putfield 290, 3, 12, 41), (263, .iconst 0, 1, 0, 0), (264, .istore_n 3, 1, 0, 0), (265, .iload_n 3, 1, 0, 0), (266, .aload_n 0, 1, 0, 0), (267, .getfield 70, 3, 12, 32), (270, .iload_n 1, 1, 0, 0), (271, .iaload, 1, 0, 0), (272, .if_icmp .ge 24, 3, 0, 0), (275, .aload_n 0, 1, 0, 0), (276, .aload_n 0, 1, 0, 0), (277, .getfield 73, 3, 12, 33), (280, .bipush 12, 2, 0, 0), (282, .iload_n 1, 1, 0, 0), (283, .imul, 1, 0, 0), (284, .iload_n 3, 1, 0, 0), (285, .iadd, 1, 0, 0), (286, .iaload, 1, 0, 0), (287, .invokevirtual 345, 3, 221, 0), (290, .iinc 3 1, 3, 0, 0), (293, .goto (-28), 3, 0, 0), (296, .iconst 0, 1, 0, 0), (297, .istore_n 3, 1, 0, 0), (298, .iload_n 3, 1, 0, 0), (299, .aload_n 0, 1, 0, 0), (300, .getfield 70, 3, 12, 32), (303, .iload_n 2, 1, 0, 0), (304, .iaload, 1, 0, 0), (305, .if_icmp .ge 24, 3, 0, 0), (308, .aload_n 0, 1, 0, 0), (309, .aload_n 0, 1, 0, 0), (310, .getfield 73, 3, 12, 33), (313, .bipush 12, 2, 0, 0), (315, .iload_n 2, 1, 0, 0), (316, .imul, 1, 0, 0), (317, .iload_n 3, 1, 0, 0), (318, .iadd, 1, 0, 0), (319, .iaload, 1, 0, 0), (320, .invokevirtual 345, 3, 221, 0), (323, .iinc 3 1, 3, 0, 0), (326, .goto (-28), 3, 0, 0), (329, .aload_n 0, 1, 0, 0), (330, .bipush 40, 2, 0, 0), (332, .iconst 0, 1, 0, 0), (333, .invokevirtual 348, 3, 220, 0), (336, .aload_n 0, 1, 0, 0), (337, .iload_n 1, 1, 0, 0), (338, .iload_n 2, 1, 0, 0), (339, .bipush 40, 2, 0, 0), (341, .invokevirtual 382, 3, 233, 0), (344, .aload_n 0, 1, 0, 0), (345, .getfield 52, 3, 12, 26), (348, .bipush 40, 2, 0, 0), (350, .iconst 0, 1, 0, 0), (351, .bastore, 1, 0, 0), (352, .aload_n 0, 1, 0, 0), (353, .bipush 40, 2, 0, 0), (355, .iload_n 1, 1, 0, 0), (356, .invokevirtual 370, 3, 239, 0), (359, .return_, 1, 0, 0)]
def E_m245 : E_MI := (12, ⟨E_R12, "or", "(II)V"⟩, prog_14_method_73_code, 8, (Option.none : Option FieldType), false, 2, E_c245)
def E_c246 : List E_C := [(0, .aload_n 0, 1, 0, 0), (1, .iload_n 1, 1, 0, 0), (2, .invokevirtual 373, 3, 235, 0), (5, .aload_n 0, 1, 0, 0), (6, .getfield 52, 3, 12, 26), (9, .iload_n 1, 1, 0, 0), (10, .iconst 0, 1, 0, 0), (11, .bastore, 1, 0, 0), (12, .return_, 1, 0, 0)]
def E_m246 : E_MI := (12, ⟨E_R12, "openOnly", "(I)V"⟩, prog_14_method_74_code, 2, (Option.none : Option FieldType), false, 1, E_c246)
def E_c247 : List E_C := [(0, .aload_n 0, 1, 0, 0), (1, .bipush 43, 2, 0, 0), (3, .invokevirtual 385, 3, 236, 0), (6, .aload_n 0, 1, 0, 0), (7, .iload_n 1, 1, 0, 0), (8, .bipush 43, 2, 0, 0), (10, .invokevirtual 388, 3, 245, 0), (13, .return_, 1, 0, 0)]
def E_m247 : E_MI := (12, ⟨E_R12, "may", "(I)V"⟩, prog_14_method_75_code, 2, (Option.none : Option FieldType), false, 1, E_c247)
def E_c248 : List E_C := [(0, .iload_n 3, 1, 0, 0), (1, .iconst (-1), 1, 0, 0), (2, .if_icmp .ne 13, 3, 0, 0), (5, .iload_n 2, 1, 0, 0), (6, .ifCond .ne 9, 3, 0, 0), (9, .aload_n 0, 1, 0, 0), (10, .iload_n 1, 1, 0, 0), (11, .invokevirtual 358, 3, 237, 0), (14, .return_, 1, 0, 0), (15, .aload_n 0, 1, 0, 0), (16, .iload_n 1, 1, 0, 0), (17, .iload_n 1, 1, 0, 0), (18, .iconst 1, 1, 0, 0), (19, .iadd, 1, 0, 0), (20, .invokevirtual 370, 3, 239, 0), (23, .aload_n 0, 1, 0, 0), (24, .iload_n 1, 1, 0, 0), (25, .iload_n 1, 1, 0, 0), (26, .iconst 2, 1, 0, 0), (27, .iadd, 1, 0, 0), (28, .invokevirtual 370, 3, 239, 0), (31, .aload_n 0, 1, 0, 0), (32, .iload_n 1, 1, 0, 0), (33, .invokevirtual 385, 3, 236, 0), (36, .iconst 0, 1, 0, 0), (37, .istore 4, 2, 0, 0), (39, .iload 4, 2, 0, 0), (41, .iload_n 3, 1, 0, 0), (42, .iconst (-1), 1, 0, 0), (43, .if_icmp .ne 9, 3, 0, 0), (46, .iload_n 2, 1, 0, 0), (47, .iconst 1, 1, 0, 0), (48, .isub, 1, 0, 0), (49, .goto 4, 3, 0, 0), (52, .iload_n 2, 1, 0, 0), (53, .if_icmp .ge 17, 3, 0, 0), (56, .aload_n 0, 1, 0, 0), (57, .iload_n 1, 1, 0, 0), (58, .iload_n 1, 1, 0, 0), (59, .iconst 1, 1, 0, 0), (60, .iadd, 1, 0, 0), (61, .invokevirtual 391, 3, 243, 0), (64, .iinc 4 1, 3, 0, 0), (67, .goto (-28), 3, 0, 0), (70, .iload_n 3, 1, 0, 0), (71, .iconst (-1), 1, 0, 0), (72, .if_icmp .ne 19, 3, 0, 0), (75, .aload_n 0, 1, 0, 0), (76, .iload_n 1, 1, 0, 0), (77, .iconst 2, 1, 0, 0), (78, .iadd, 1, 0, 0), (79, .invokevirtual 394, 3, 246, 0), (82, .aload_n 0, 1, 0, 0), (83, .iload_n 1, 1, 0, 0), (84, .iload_n 1, 1, 0, 0), (85, .iconst 2, 1, 0, 0), (86, .iadd, 1, 0, 0), (87, .invokevirtual 391, 3, 243, 0), (90, .return_, 1, 0, 0), (91, .aload_n 0, 1, 0, 0), (92, .iload_n 1, 1, 0, 0), (93, .iconst 2, 1, 0, 0), (94, .iadd, 1, 0, 0), (95, .invokevirtual 397, 3, 247, 0), (98, .iload_n 2, 1, 0, 0), (99, .istore 4, 2, 0, 0), (101, .iload 4, 2, 0, 0), (103, .iload_n 3, 1, 0, 0), (104, .if_icmp .ge 17, 3, 0, 0), (107, .aload_n 0, 1, 0, 0), (108, .iload_n 1, 1, 0, 0), (109, .iload_n 1, 1, 0, 0), (110, .iconst 2, 1, 0, 0), (111, .iadd, 1, 0, 0), (112, .invokevirtual 391, 3, 243, 0), (115, .iinc 4 1, 3, 0, 0), (118, .goto (-17), 3, 0, 0), (121, .return_, 1, 0, 0)]
def E_m248 : E_MI := (12, ⟨E_R12, "times", "(III)V"⟩, prog_14_method_76_code, 5, (Option.none : Option FieldType), false, 3, E_c248)
def E_c249 : List E_C := [(0, .iconst 0, 1, 0, 0), (1, .istore_n 1, 1, 0, 0), (2, .iconst 0, 1, 0, 0), (3, .istore_n 2, 1, 0, 0), (4, .iload_n 2, 1, 0, 0), (5, .aload_n 0, 1, 0, 0), (6, .getfield 196, 3, 12, 13), (9, .if_icmp .ge 174, 3, 0, 0), (12, .aload_n 0, 1, 0, 0), (13, .getfield 29, 3, 12, 10), (16, .iload_n 2, 1, 0, 0), (17, .iaload, 1, 0, 0), (18, .tableswitch 140 1 10 #[54, 71, 71, 71, 71, 82, 96, 110, 120, 130], 54, 0, 0), (72, .aload_n 0, 1, 0, 0), (73, .iload_n 1, 1, 0, 0), (74, .aload_n 0, 1, 0, 0), (75, .getfield 32, 3, 12, 11), (78, .iload_n 2, 1, 0, 0), (79, .iaload, 1, 0, 0), (80, .invokevirtual 400, 3, 238, 0), (83, .iinc 1 1, 3, 0, 0), (86, .goto 91, 3, 0, 0), (89, .aload_n 0, 1, 0, 0), (90, .iload_n 1, 1, 0, 0), (91, .invokevirtual 385, 3, 236, 0), (94, .iinc 1 1, 3, 0, 0), (97, .goto 80, 3, 0, 0), (100, .iinc 1 (-1), 3, 0, 0), (103, .aload_n 0, 1, 0, 0), (104, .iload_n 1, 1, 0, 0), (105, .iconst 1, 1, 0, 0), (106, .isub, 1, 0, 0), (107, .iload_n 1, 1, 0, 0), (108, .invokevirtual 391, 3, 243, 0), (111, .goto 66, 3, 0, 0), (114, .iinc 1 (-1), 3, 0, 0), (117, .aload_n 0, 1, 0, 0), (118, .iload_n 1, 1, 0, 0), (119, .iconst 1, 1, 0, 0), (120, .isub, 1, 0, 0), (121, .iload_n 1, 1, 0, 0), (122, .invokevirtual 388, 3, 245, 0), (125, .goto 52, 3, 0, 0), (128, .aload_n 0, 1, 0, 0), (129, .iload_n 1, 1, 0, 0), (130, .iconst 1, 1, 0, 0), (131, .isub, 1, 0, 0), (132, .invokevirtual 358, 3, 237, 0), (135, .goto 42, 3, 0, 0), (138, .aload_n 0, 1, 0, 0), (139, .iload_n 1, 1, 0, 0), (140, .iconst 1, 1, 0, 0), (141, .isub, 1, 0, 0), (142, .invokevirtual 394, 3, 246, 0), (145, .goto 32, 3, 0, 0), (148, .aload_n 0, 1, 0, 0), (149, .iload_n 1, 1, 0, 0), (150, .iconst 1, 1, 0, 0), (151, .isub, 1, 0, 0), (152, .invokevirtual 397, 3, 247, 0), (155, .goto 22, 3, 0, 0), (158, .aload_n 0, 1, 0, 0), (159, .iload_n 1, 1, 0, 0), (160, .iconst 1, 1, 0, 0), (161, .isub, 1, 0, 0), (162, .aload_n 0, 1, 0, 0), (163, .getfield 32, 3, 12, 11), (166, .iload_n 2, 1, 0, 0), (167, .iaload, 1, 0, 0), (168, .aload_n 0, 1, 0, 0), (169, .getfield 35, 3, 12, 12), (172, .iload_n 2, 1, 0, 0), (173, .iaload, 1, 0, 0), (174, .invokevirtual 403, 3, 248, 0), (177, .iinc 2 1, 3, 0, 0), (180, .goto (-176), 3, 0, 0), (183, .return_, 1, 0, 0)]
def E_m249 : E_MI := (12, ⟨E_R12, "wants", "()V"⟩, prog_14_method_77_code, 3, (Option.none : Option FieldType), false, 0, E_c249)
def E_c250 : List E_C := [(0, .aload_n 0, 1, 0, 0), (1, .getfield 105, 3, 12, 46), (4, .aload_n 0, 1, 0, 0), (5, .getfield 406, 3, 12, 48), (8, .iload_n 1, 1, 0, 0), (9, .iastore, 1, 0, 0), (10, .aload_n 0, 1, 0, 0), (11, .getfield 108, 3, 12, 47), (14, .aload_n 0, 1, 0, 0), (15, .getfield 406, 3, 12, 48), (18, .iload_n 2, 1, 0, 0), (19, .iastore, 1, 0, 0), (20, .aload_n 0, 1, 0, 0), (21, .dup, 1, 0, 0), (22, .getfield 406, 3, 12, 48), (25, .iconst 1, 1, 0, 0), (26, .iadd, 1, 0, 0), (27, .putfield 406, 3, 12, 48), (30, .return_, 1, 0, 0)]
def E_m250 : E_MI := (12, ⟨E_R12, "code", "(II)V"⟩, prog_14_method_78_code, 3, (Option.none : Option FieldType), false, 2, E_c250)
def E_c251 : List E_C := [(0, .aload_n 0, 1, 0, 0), (1, .getfield 406, 3, 12, 48), (4, .istore_n 3, 1, 0, 0), (5, .iload_n 3, 1, 0, 0), (6, .iload_n 1, 1, 0, 0), (7, .if_icmp .le 37, 3, 0, 0), (10, .aload_n 0, 1, 0, 0), (11, .getfield 105, 3, 12, 46), (14, .iload_n 3, 1, 0, 0), (15, .aload_n 0, 1, 0, 0), (16, .getfield 105, 3, 12, 46), (19, .iload_n 3, 1, 0, 0), (20, .iconst 1, 1, 0, 0), (21, .isub, 1, 0, 0), (22, .iaload, 1, 0, 0), (23, .iastore, 1, 0, 0), (24, .aload_n 0, 1, 0, 0), (25, .getfield 108, 3, 12, 47), (28, .iload_n 3, 1, 0, 0), (29, .aload_n 0, 1, 0, 0), (30, .getfield 108, 3, 12, 47), (33, .iload_n 3, 1, 0, 0), (34, .iconst 1, 1, 0, 0), (35, .isub, 1, 0, 0), (36, .iaload, 1, 0, 0), (37, .iastore, 1, 0, 0), (38, .iinc 3 (-1), 3, 0, 0), (41, .goto (-36), 3, 0, 0), (44, .aload_n 0, 1, 0, 0), (45, .getfield 105, 3, 12, 46), (48, .iload_n 1, 1, 0, 0), (49, .iload_n 2, 1, 0, 0), (50, .iastore, 1, 0, 0), (51, .aload_n 0, 1, 0, 0), (52, .getfield 108, 3, 12, 47), (55, .iload_n 1, 1, 0, 0), (56, .iconst 0, 1, 0, 0), (57, .iastore, 1, 0, 0), (58, .aload_n 0, 1, 0, 0), (59, .dup, 1, 0, 0), (60, .getfield 406, 3, 12, 48), (63, .iconst 1, 1, 0, 0), (64, .iadd, 1, 0, 0), (65, .putfield 406, 3, 12, 48), (68, .return_, 1, 0, 0)]
def E_m251 : E_MI := (12, ⟨E_R12, "inserts", "(II)V"⟩, prog_14_method_79_code, 4, (Option.none : Option FieldType), false, 2, E_c251)
def E_c252 : List E_C := [(0, .iload_n 2, 1, 0, 0), (1, .iload_n 1, 1, 0, 0), (2, .isub, 1, 0, 0), (3, .istore_n 3, 1, 0, 0), (4, .iconst 0, 1, 0, 0), (5, .istore 4, 2, 0, 0), (7, .iload 4, 2, 0, 0), (9, .iload_n 3, 1, 0, 0), (10, .if_icmp .ge 47, 3, 0, 0), (13, .aload_n 0, 1, 0, 0), (14, .getfield 114, 3, 12, 50), (17, .iconst 2, 1, 0, 0), (18, .iload 4, 2, 0, 0), (20, .imul, 1, 0, 0), (21, .aload_n 0, 1, 0, 0), (22, .getfield 105, 3, 12, 46), (25, .iload_n 1, 1, 0, 0), (26, .iload 4, 2, 0, 0), (28, .iadd, 1, 0, 0), (29, .iaload, 1, 0, 0), (30, .iastore, 1, 0, 0), (31, .aload_n 0, 1, 0, 0), (32, .getfield 114, 3, 12, 50), (35, .iconst 2, 1, 0, 0), (36, .iload 4, 2, 0, 0), (38, .imul, 1, 0, 0), (39, .iconst 1, 1, 0, 0), (40, .iadd, 1, 0, 0), (41, .aload_n 0, 1, 0, 0), (42, .getfield 108, 3, 12, 47), (45, .iload_n 1, 1, 0, 0), (46, .iload 4, 2, 0, 0), (48, .iadd, 1, 0, 0), (49, .iaload, 1, 0, 0), (50, .iastore, 1, 0, 0), (51, .iinc 4 1, 3, 0, 0), (54, .goto (-47), 3, 0, 0), (57, .iload_n 2, 1, 0, 0), (58, .istore 4, 2, 0, 0), (60, .iload 4, 2, 0, 0), (62, .aload_n 0, 1, 0, 0), (63, .getfield 406, 3, 12, 48), (66, .if_icmp .ge 41, 3, 0, 0), (69, .aload_n 0, 1, 0, 0), (70, .getfield 105, 3, 12, 46), (73, .iload 4, 2, 0, 0), (75, .iload_n 3, 1, 0, 0), (76, .isub, 1, 0, 0), (77, .aload_n 0, 1, 0, 0), (78, .getfield 105, 3, 12, 46), (81, .iload 4, 2, 0, 0), (83, .iaload, 1, 0, 0), (84, .iastore, 1, 0, 0), (85, .aload_n 0, 1, 0, 0), (86, .getfield 108, 3, 12, 47), (89, .iload 4, 2, 0, 0), (91, .iload_n 3, 1, 0, 0), (92, .isub, 1, 0, 0), (93, .aload_n 0, 1, 0, 0), (94, .getfield 108, 3, 12, 47), (97, .iload 4, 2, 0, 0), (99, .iaload, 1, 0, 0), (100, .iastore, 1, 0, 0), (101, .iinc 4 1, 3, 0, 0), (104, .goto (-44), 3, 0, 0), (107, .iconst 0, 1, 0, 0), (108, .istore 4, 2, 0, 0), (110, .iload 4, 2, 0, 0), (112, .iload_n 3, 1, 0, 0), (113, .if_icmp .ge 57, 3, 0, 0), (116, .aload_n 0, 1, 0, 0), (117, .getfield 105, 3, 12, 46), (120, .aload_n 0, 1, 0, 0), (121, .getfield 406, 3, 12, 48), (124, .iload_n 3, 1, 0, 0), (125, .isub, 1, 0, 0), (126, .iload 4, 2, 0, 0), (128, .iadd, 1, 0, 0), (129, .aload_n 0, 1, 0, 0), (130, .getfield 114, 3, 12, 50), (133, .iconst 2, 1, 0, 0), (134, .iload 4, 2, 0, 0), (136, .imul, 1, 0, 0), (137, .iaload, 1, 0, 0), (138, .iastore, 1, 0, 0), (139, .aload_n 0, 1, 0, 0), (140, .getfield 108, 3, 12, 47), (143, .aload_n 0, 1, 0, 0), (144, .getfield 406, 3, 12, 48), (147, .iload_n 3, 1, 0, 0), (148, .isub, 1, 0, 0), (149, .iload 4, 2, 0, 0), (151, .iadd, 1, 0, 0), (152, .aload_n 0, 1, 0, 0), (153, .getfield 114, 3, 12, 50), (156, .iconst 2, 1, 0, 0), (157, .iload 4, 2, 0, 0), (159, .imul, 1, 0, 0), (160, .iconst 1, 1, 0, 0), (161, .iadd, 1, 0, 0), (162, .iaload, 1, 0, 0), (163, .iastore, 1, 0, 0), (164, .iinc 4 1, 3, 0, 0), (167, .goto (-57), 3, 0, 0), (170, .return_, 1, 0, 0)]
def E_m252 : E_MI := (12, ⟨E_R12, "turns", "(II)V"⟩, prog_14_method_80_code, 5, (Option.none : Option FieldType), false, 2, E_c252)
def E_c253 : List E_C := [(0, .aload_n 0, 1, 0, 0), (1, .iload_n 1, 1, 0, 0), (2, .iload_n 2, 1, 0, 0), (3, .invokevirtual 409, 3, 251, 0), (6, .aload_n 0, 1, 0, 0), (7, .bipush 8, 2, 0, 0), (9, .aload_n 0, 1, 0, 0), (10, .getfield 406, 3, 12, 48), (13, .iload_n 1, 1, 0, 0), (14, .isub, 1, 0, 0), (15, .iconst 1, 1, 0, 0), (16, .isub, 1, 0, 0), (17, .invokevirtual 412, 3, 250, 0), (20, .return_, 1, 0, 0)]
def E_m253 : E_MI := (12, ⟨E_R12, "rounds", "(II)V"⟩, prog_14_method_81_code, 3, (Option.none : Option FieldType), false, 2, E_c253)
def E_c254 : List E_C := [(0, .aload_n 0, 1, 0, 0), (1, .iload_n 1, 1, 0, 0), (2, .iconst 3, 1, 0, 0), (3, .invokevirtual 409, 3, 251, 0), (6, .aload_n 0, 1, 0, 0), (7, .iconst 5, 1, 0, 0), (8, .iconst 0, 1, 0, 0), (9, .invokevirtual 412, 3, 250, 0), (12, .return_, 1, 0, 0)]
def E_m254 : E_MI := (12, ⟨E_R12, "mays", "(I)V"⟩, prog_14_method_82_code, 2, (Option.none : Option FieldType), false, 1, E_c254)
def E_c255 : List E_C := [(0, .aload_n 0, 1, 0, 0), (1, .getfield 406, 3, 12, 48), (4, .iload_n 1, 1, 0, 0), (5, .isub, 1, 0, 0), (6, .istore 4, 2, 0, 0), (8, .iconst 0, 1, 0, 0), (9, .istore 5, 2, 0, 0), (11, .iload 5, 2, 0, 0), (13, .iload 4, 2, 0, 0), (15, .if_icmp .ge 47, 3, 0, 0), (18, .aload_n 0, 1, 0, 0), (19, .getfield 114, 3, 12, 50), (22, .iconst 2, 1, 0, 0), (23, .iload 5, 2, 0, 0), (25, .imul, 1, 0, 0), (26, .aload_n 0, 1, 0, 0), (27, .getfield 105, 3, 12, 46), (30, .iload_n 1, 1, 0, 0), (31, .iload 5, 2, 0, 0), (33, .iadd, 1, 0, 0), (34, .iaload, 1, 0, 0), (35, .iastore, 1, 0, 0), (36, .aload_n 0, 1, 0, 0), (37, .getfield 114, 3, 12, 50), (40, .iconst 2, 1, 0, 0), (41, .iload 5, 2, 0, 0), (43, .imul, 1, 0, 0), (44, .iconst 1, 1, 0, 0), (45, .iadd, 1, 0, 0), (46, .aload_n 0, 1, 0, 0), (47, .getfield 108, 3, 12, 47), (50, .iload_n 1, 1, 0, 0), (51, .iload 5, 2, 0, 0), (53, .iadd, 1, 0, 0), (54, .iaload, 1, 0, 0), (55, .iastore, 1, 0, 0), (56, .iinc 5 1, 3, 0, 0), (59, .goto (-48), 3, 0, 0), (62, .aload_n 0, 1, 0, 0), (63, .iload_n 1, 1, 0, 0), (64, .putfield 406, 3, 12, 48), (67, .iconst 0, 1, 0, 0), (68, .istore 5, 2, 0, 0), (70, .iload 5, 2, 0, 0), (72, .iload_n 2, 1, 0, 0), (73, .if_icmp .ge 15, 3, 0, 0), (76, .aload_n 0, 1, 0, 0), (77, .iload 4, 2, 0, 0), (79, .invokevirtual 414, 3, 256, 0), (82, .iinc 5 1, 3, 0, 0), (85, .goto (-15), 3, 0, 0), (88, .iload_n 3, 1, 0, 0), (89, .iconst (-1), 1, 0, 0), (90, .if_icmp .ne 7, 3, 0, 0), (93, .iconst 1, 1, 0, 0), (94, .goto 6, 3, 0, 0), (97, .iload_n 3, 1, 0, 0), (98, .iload_n 2, 1, 0, 0), (99, .isub, 1, 0, 0), (100, .istore 5, 2, 0, 0), (102, .iconst 0, 1, 0, 0), (103, .istore 6, 2, 0, 0), (105, .iload 6, 2, 0, 0), (107, .iload 5, 2, 0, 0), (109, .if_icmp .ge 43, 3, 0, 0), (112, .aload_n 0, 1, 0, 0), (113, .getfield 406, 3, 12, 48), (116, .istore 7, 2, 0, 0), (118, .aload_n 0, 1, 0, 0), (119, .iload 4, 2, 0, 0), (121, .invokevirtual 414, 3, 256, 0), (124, .iload_n 3, 1, 0, 0), (125, .iconst (-1), 1, 0, 0), (126, .if_icmp .ne 14, 3, 0, 0), (129, .aload_n 0, 1, 0, 0), (130, .iload 7, 2, 0, 0), (132, .bipush 6, 2, 0, 0), (134, .invokevirtual 417, 3, 253, 0), (137, .goto 9, 3, 0, 0), (140, .aload_n 0, 1, 0, 0), (141, .iload 7, 2, 0, 0), (143, .invokevirtual 420, 3, 254, 0), (146, .iinc 6 1, 3, 0, 0), (149, .goto (-44), 3, 0, 0), (152, .return_, 1, 0, 0)]
def E_m255 : E_MI := (12, ⟨E_R12, "codesTimes", "(III)V"⟩, prog_14_method_83_code, 8, (Option.none : Option FieldType), false, 3, E_c255)
def E_c256 : List E_C := [(0, .iconst 0, 1, 0, 0), (1, .istore_n 2, 1, 0, 0), (2, .iload_n 2, 1, 0, 0), (3, .iload_n 1, 1, 0, 0), (4, .if_icmp .ge 31, 3, 0, 0), (7, .aload_n 0, 1, 0, 0), (8, .aload_n 0, 1, 0, 0), (9, .getfield 114, 3, 12, 50), (12, .iconst 2, 1, 0, 0), (13, .iload_n 2, 1, 0, 0), (14, .imul, 1, 0, 0), (15, .iaload, 1, 0, 0), (16, .aload_n 0, 1, 0, 0), (17, .getfield 114, 3, 12, 50), (20, .iconst 2, 1, 0, 0), (21, .iload_n 2, 1, 0, 0), (22, .imul, 1, 0, 0), (23, .iconst 1, 1, 0, 0), (24, .iadd, 1, 0, 0), (25, .iaload, 1, 0, 0), (26, .invokevirtual 412, 3, 250, 0), (29, .iinc 2 1, 3, 0, 0), (32, .goto (-30), 3, 0, 0), (35, .return_, 1, 0, 0)]
def E_m256 : E_MI := (12, ⟨E_R12, "again", "(I)V"⟩, prog_14_method_84_code, 3, (Option.none : Option FieldType), false, 1, E_c256)
def E_c257 : List E_C := [(0, .aload_n 0, 1, 0, 0), (1, .getfield 29, 3, 12, 10), (4, .iload_n 1, 1, 0, 0), (5, .iaload, 1, 0, 0), (6, .bipush 11, 2, 0, 0), (8, .if_icmp .ne 25, 3, 0, 0), (11, .aload_n 0, 1, 0, 0), (12, .getfield 32, 3, 12, 11), (15, .iload_n 1, 1, 0, 0), (16, .iaload, 1, 0, 0), (17, .ifCond .ne 16, 3, 0, 0), (20, .aload_n 0, 1, 0, 0), (21, .getfield 35, 3, 12, 12), (24, .iload_n 1, 1, 0, 0), (25, .iaload, 1, 0, 0), (26, .ifCond .ne 7, 3, 0, 0), (29, .iconst 1, 1, 0, 0), (30, .goto 4, 3, 0, 0), (33, .iconst 0, 1, 0, 0), (34, .ireturn, 1, 0, 0)]
def E_m257 : E_MI := (12, ⟨E_R12, "isNever", "(I)Z"⟩, prog_14_method_85_code, 2, (Option.some FieldType.boolean), false, 1, E_c257)
def E_c258 : List E_C := [(0, .iconst 0, 1, 0, 0), (1, .istore_n 1, 1, 0, 0), (2, .iconst 0, 1, 0, 0), (3, .istore_n 2, 1, 0, 0), (4, .iload_n 2, 1, 0, 0), (5, .aload_n 0, 1, 0, 0), (6, .getfield 196, 3, 12, 13), (9, .if_icmp .ge 91, 3, 0, 0), (12, .aload_n 0, 1, 0, 0), (13, .getfield 117, 3, 12, 51), (16, .iload_n 2, 1, 0, 0), (17, .iconst 0, 1, 0, 0), (18, .bastore, 1, 0, 0), (19, .aload_n 0, 1, 0, 0), (20, .getfield 29, 3, 12, 10), (23, .iload_n 2, 1, 0, 0), (24, .iaload, 1, 0, 0), (25, .iconst 5, 1, 0, 0), (26, .if_icmp .gt 16, 3, 0, 0), (29, .aload_n 0, 1, 0, 0), (30, .getfield 120, 3, 12, 52), (33, .iload_n 1, 1, 0, 0), (34, .iload_n 2, 1, 0, 0), (35, .iastore, 1, 0, 0), (36, .iinc 1 1, 3, 0, 0), (39, .goto 55, 3, 0, 0), (42, .aload_n 0, 1, 0, 0), (43, .getfield 29, 3, 12, 10), (46, .iload_n 2, 1, 0, 0), (47, .iaload, 1, 0, 0), (48, .bipush 7, 2, 0, 0), (50, .if_icmp .gt 9, 3, 0, 0), (53, .iinc 1 (-1), 3, 0, 0), (56, .goto 38, 3, 0, 0), (59, .aload_n 0, 1, 0, 0), (60, .iload_n 2, 1, 0, 0), (61, .invokevirtual 423, 3, 257, 0), (64, .ifCond .eq 30, 3, 0, 0), (67, .aload_n 0, 1, 0, 0), (68, .getfield 120, 3, 12, 52), (71, .iload_n 1, 1, 0, 0), (72, .iconst 1, 1, 0, 0), (73, .isub, 1, 0, 0), (74, .iaload, 1, 0, 0), (75, .istore_n 3, 1, 0, 0), (76, .iload_n 3, 1, 0, 0), (77, .iload_n 2, 1, 0, 0), (78, .if_icmp .ge 16, 3, 0, 0), (81, .aload_n 0, 1, 0, 0), (82, .getfield 117, 3, 12, 51), (85, .iload_n 3, 1, 0, 0), (86, .iconst 1, 1, 0, 0), (87, .bastore, 1, 0, 0), (88, .iinc 3 1, 3, 0, 0), (91, .goto (-15), 3, 0, 0), (94, .iinc 2 1, 3, 0, 0), (97, .goto (-93), 3, 0, 0), (100, .return_, 1, 0, 0)]
def E_m258 : E_MI := (12, ⟨E_R12, "buries", "()V"⟩, prog_14_method_86_code, 4, (Option.none : Option FieldType), false, 0, E_c258)
def E_c259 : List E_C := [(0, .aload_n 0, 1, 0, 0), (1, .iconst 0, 1, 0, 0), (2, .putfield 406, 3, 12, 48), (5, .iconst 0, 1, 0, 0), (6, .istore_n 2, 1, 0, 0), (7, .iconst 0, 1, 0, 0), (8, .istore_n 3, 1, 0, 0), (9, .iload_n 3, 1, 0, 0), (10, .aload_n 0, 1, 0, 0), (11, .getfield 196, 3, 12, 13), (14, .if_icmp .ge 268, 3, 0, 0), (17, .aload_n 0, 1, 0, 0), (18, .iload_n 3, 1, 0, 0), (19, .invokevirtual 423, 3, 257, 0), (22, .ifCond .eq 7, 3, 0, 0), (25, .iconst 5, 1, 0, 0), (26, .goto 9, 3, 0, 0), (29, .aload_n 0, 1, 0, 0), (30, .getfield 29, 3, 12, 10), (33, .iload_n 3, 1, 0, 0), (34, .iaload, 1, 0, 0), (35, .istore 4, 2, 0, 0), (37, .aload_n 0, 1, 0, 0), (38, .getfield 117, 3, 12, 51), (41, .iload_n 3, 1, 0, 0), (42, .baload, 1, 0, 0), (43, .ifCond .eq 6, 3, 0, 0), (46, .goto 230, 3, 0, 0), (49, .iload 4, 2, 0, 0), (51, .iconst 5, 1, 0, 0), (52, .if_icmp .gt 52, 3, 0, 0), (55, .aload_n 0, 1, 0, 0), (56, .getfield 111, 3, 12, 49), (59, .iload_n 2, 1, 0, 0), (60, .aload_n 0, 1, 0, 0), (61, .getfield 406, 3, 12, 48), (64, .iastore, 1, 0, 0), (65, .iinc 2 1, 3, 0, 0), (68, .iload 4, 2, 0, 0), (70, .iconst 1, 1, 0, 0), (71, .if_icmp .ne 17, 3, 0, 0), (74, .aload_n 0, 1, 0, 0), (75, .iconst 1, 1, 0, 0), (76, .aload_n 0, 1, 0, 0), (77, .getfield 32, 3, 12, 11), (80, .iload_n 3, 1, 0, 0), (81, .iaload, 1, 0, 0), (82, .invokevirtual 412, 3, 250, 0), (85, .goto 191, 3, 0, 0), (88, .iload 4, 2, 0, 0), (90, .iconst 5, 1, 0, 0), (91, .if_icmp .eq 185, 3, 0, 0), (94, .aload_n 0, 1, 0, 0), (95, .iconst 2, 1, 0, 0), (96, .iload 4, 2, 0, 0), (98, .invokevirtual 412, 3, 250, 0), (101, .goto 175, 3, 0, 0), (104, .iload 4, 2, 0, 0), (106, .bipush 6, 2, 0, 0), (108, .if_icmp .ne 31, 3, 0, 0), (111, .iinc 2 (-1), 3, 0, 0), (114, .iload_n 1, 1, 0, 0), (115, .ifCond .eq 161, 3, 0, 0), (118, .aload_n 0, 1, 0, 0), (119, .aload_n 0, 1, 0, 0), (120, .getfield 111, 3, 12, 49), (123, .iload_n 2, 1, 0, 0), (124, .iconst 1, 1, 0, 0), (125, .isub, 1, 0, 0), (126, .iaload, 1, 0, 0), (127, .aload_n 0, 1, 0, 0), (128, .getfield 111, 3, 12, 49), (131, .iload_n 2, 1, 0, 0), (132, .iaload, 1, 0, 0), (133, .invokevirtual 426, 3, 252, 0), (136, .goto 140, 3, 0, 0), (139, .iload 4, 2, 0, 0), (141, .bipush 7, 2, 0, 0), (143, .if_icmp .ne 39, 3, 0, 0), (146, .iinc 2 (-1), 3, 0, 0), (149, .aload_n 0, 1, 0, 0), (150, .aload_n 0, 1, 0, 0), (151, .getfield 111, 3, 12, 49), (154, .iload_n 2, 1, 0, 0), (155, .iaload, 1, 0, 0), (156, .iconst 4, 1, 0, 0), (157, .invokevirtual 409, 3, 251, 0), (160, .aload_n 0, 1, 0, 0), (161, .aload_n 0, 1, 0, 0), (162, .getfield 111, 3, 12, 49), (165, .iload_n 2, 1, 0, 0), (166, .iconst 1, 1, 0, 0), (167, .isub, 1, 0, 0), (168, .iaload, 1, 0, 0), (169, .iconst 3, 1, 0, 0), (170, .invokevirtual 409, 3, 251, 0), (173, .aload_n 0, 1, 0, 0), (174, .iconst 5, 1, 0, 0), (175, .iconst 0, 1, 0, 0), (176, .invokevirtual 412, 3, 250, 0), (179, .goto 97, 3, 0, 0), (182, .iload 4, 2, 0, 0), (184, .bipush 8, 2, 0, 0), (186, .if_icmp .ne 20, 3, 0, 0), (189, .aload_n 0, 1, 0, 0), (190, .aload_n 0, 1, 0, 0), (191, .getfield 111, 3, 12, 49), (194, .iload_n 2, 1, 0, 0), (195, .iconst 1, 1, 0, 0), (196, .isub, 1, 0, 0), (197, .iaload, 1, 0, 0), (198, .bipush 6, 2, 0, 0), (200, .invokevirtual 417, 3, 253, 0), (203, .goto 73, 3, 0, 0), (206, .iload 4, 2, 0, 0), (208, .bipush 9, 2, 0, 0), (210, .if_icmp .ne 20, 3, 0, 0), (213, .aload_n 0, 1, 0, 0), (214, .aload_n 0, 1, 0, 0), (215, .getfield 111, 3, 12, 49), (218, .iload_n 2, 1, 0, 0), (219, .iconst 1, 1, 0, 0), (220, .isub, 1, 0, 0), (221, .iaload, 1, 0, 0), (222, .bipush 7, 2, 0, 0), (224, .invokevirtual 417, 3, 253, 0), (227, .goto 49, 3, 0, 0), (230, .iload 4, 2, 0, 0), (232, .bipush 10, 2, 0, 0), (234, .if_icmp .ne 18, 3, 0, 0), (237, .aload_n 0, 1, 0, 0), (238, .aload_n 0, 1, 0, 0), (239, .getfield 111, 3, 12, 49), (242, .iload_n 2, 1, 0, 0), (243, .iconst 1, 1, 0, 0), (244, .isub, 1, 0, 0), (245, .iaload, 1, 0, 0), (246, .invokevirtual 420, 3, 254, 0), (249, .goto 27, 3, 0, 0), (252, .aload_n 0, 1, 0, 0), (253, .aload_n 0, 1, 0, 0), (254, .getfield 111, 3, 12, 49), (257, .iload_n 2, 1, 0, 0), (258, .iconst 1, 1, 0, 0), (259, .isub, 1, 0, 0), (260, .iaload, 1, 0, 0), (261, .aload_n 0, 1, 0, 0), (262, .getfield 32, 3, 12, 11), (265, .iload_n 3, 1, 0, 0), (266, .iaload, 1, 0, 0), (267, .aload_n 0, 1, 0, 0), (268, .getfield 35, 3, 12, 12), (271, .iload_n 3, 1, 0, 0), (272, .iaload, 1, 0, 0), (273, .invokevirtual 429, 3, 255, 0), (276, .iinc 3 1, 3, 0, 0), (279, .goto (-270), 3, 0, 0), (282, .return_, 1, 0, 0)]
def E_m259 : E_MI := (12, ⟨E_R12, "codes", "(Z)V"⟩, prog_14_method_87_code, 5, (Option.none : Option FieldType), false, 1, E_c259)
def E_c260 : List E_C := [(0, .aload_n 1, 1, 0, 0), (1, .iload_n 2, 1, 0, 0), (2, .iload_n 3, 1, 0, 0), (3, .bipush 64, 2, 0, 0), (5, .idiv, 1, 0, 0), (6, .iadd, 1, 0, 0), (7, .dup2, 1, 0, 0), (8, .laload, 1, 0, 0), (9, .lconst 1, 1, 0, 0), (10, .iload_n 3, 1, 0, 0), (11, .bipush 64, 2, 0, 0), (13, .irem, 1, 0, 0), (14, .lshl, 1, 0, 0), (15, .lor, 1, 0, 0), (16, .lastore, 1, 0, 0), (17, .return_, 1, 0, 0)]
def E_m260 : E_MI := (12, ⟨E_R12, "mark", "([JII)V"⟩, prog_14_method_88_code, 4, (Option.none : Option FieldType), false, 3, E_c260)
def E_c261 : List E_C := [(0, .iload_n 2, 1, 0, 0), (1, .ifCond .lt 36, 3, 0, 0), (4, .iload_n 2, 1, 0, 0), (5, .aload_n 0, 1, 0, 0), (6, .getfield 19, 3, 12, 5), (9, .iload_n 1, 1, 0, 0), (10, .iaload, 1, 0, 0), (11, .if_icmp .ge 26, 3, 0, 0), (14, .aload_n 0, 1, 0, 0), (15, .getfield 13, 3, 12, 2), (18, .aload_n 0, 1, 0, 0), (19, .getfield 16, 3, 12, 4), (22, .iload_n 1, 1, 0, 0), (23, .iaload, 1, 0, 0), (24, .iload_n 2, 1, 0, 0), (25, .iadd, 1, 0, 0), (26, .iaload, 1, 0, 0), (27, .invokestatic 208, 3, 195, 0), (30, .ifCond .eq 7, 3, 0, 0), (33, .iconst 1, 1, 0, 0), (34, .goto 4, 3, 0, 0), (37, .iconst 0, 1, 0, 0), (38, .ireturn, 1, 0, 0)]
def E_m261 : E_MI := (12, ⟨E_R12, "isWordAt", "(II)Z"⟩, prog_14_method_89_code, 3, (Option.some FieldType.boolean), false, 2, E_c261)
def E_c262 : List E_C := [(0, .aload_n 0, 1, 0, 0), (1, .getfield 19, 3, 12, 5), (4, .iload_n 1, 1, 0, 0), (5, .iaload, 1, 0, 0), (6, .istore_n 2, 1, 0, 0), (7, .aload_n 0, 1, 0, 0), (8, .getfield 16, 3, 12, 4), (11, .iload_n 1, 1, 0, 0), (12, .iaload, 1, 0, 0), (13, .istore_n 3, 1, 0, 0), (14, .iconst 0, 1, 0, 0), (15, .istore 4, 2, 0, 0), (17, .iload 4, 2, 0, 0), (19, .bipush 16, 2, 0, 0), (21, .aload_n 0, 1, 0, 0), (22, .getfield 205, 3, 12, 15), (25, .imul, 1, 0, 0), (26, .if_icmp .ge 17, 3, 0, 0), (29, .aload_n 0, 1, 0, 0), (30, .getfield 126, 3, 12, 54), (33, .iload 4, 2, 0, 0), (35, .lconst 0, 1, 0, 0), (36, .lastore, 1, 0, 0), (37, .iinc 4 1, 3, 0, 0), (40, .goto (-23), 3, 0, 0), (43, .iconst 0, 1, 0, 0), (44, .istore 4, 2, 0, 0), (46, .iload 4, 2, 0, 0), (48, .bipush 80, 2, 0, 0), (50, .if_icmp .ge 17, 3, 0, 0), (53, .aload_n 0, 1, 0, 0), (54, .getfield 129, 3, 12, 55), (57, .iload 4, 2, 0, 0), (59, .lconst 0, 1, 0, 0), (60, .lastore, 1, 0, 0), (61, .iinc 4 1, 3, 0, 0), (64, .goto (-18), 3, 0, 0), (67, .iconst 0, 1, 0, 0), (68, .istore 4, 2, 0, 0), (70, .iload 4, 2, 0, 0), (72, .iload_n 2, 1, 0, 0), (73, .if_icmp .gt 162, 3, 0, 0), (76, .iconst 0, 1, 0, 0), (77, .istore 5, 2, 0, 0), (79, .iload 5, 2, 0, 0), (81, .aload_n 0, 1, 0, 0), (82, .getfield 205, 3, 12, 15), (85, .if_icmp .ge 48, 3, 0, 0), (88, .iload 4, 2, 0, 0), (90, .iload_n 2, 1, 0, 0), (91, .if_icmp .ge 42, 3, 0, 0), (94, .aload_n 0, 1, 0, 0), (95, .iload 5, 2, 0, 0), (97, .aload_n 0, 1, 0, 0), (98, .getfield 13, 3, 12, 2), (101, .iload_n 3, 1, 0, 0), (102, .iload 4, 2, 0, 0), (104, .iadd, 1, 0, 0), (105, .iaload, 1, 0, 0), (106, .invokevirtual 218, 3, 200, 0), (109, .ifCond .eq 18, 3, 0, 0), (112, .aload_n 0, 1, 0, 0), (113, .aload_n 0, 1, 0, 0), (114, .getfield 126, 3, 12, 54), (117, .bipush 16, 2, 0, 0), (119, .iload 5, 2, 0, 0), (121, .imul, 1, 0, 0), (122, .iload 4, 2, 0, 0), (124, .invokevirtual 432, 3, 260, 0), (127, .iinc 5 1, 3, 0, 0), (130, .goto (-51), 3, 0, 0), (133, .iload 4, 2, 0, 0), (135, .ifCond .eq 19, 3, 0, 0), (138, .aload_n 0, 1, 0, 0), (139, .getfield 13, 3, 12, 2), (142, .iload_n 3, 1, 0, 0), (143, .iload 4, 2, 0, 0), (145, .iadd, 1, 0, 0), (146, .iconst 1, 1, 0, 0), (147, .isub, 1, 0, 0), (148, .iaload, 1, 0, 0), (149, .bipush 10, 2, 0, 0), (151, .if_icmp .ne 15, 3, 0, 0), (154, .aload_n 0, 1, 0, 0), (155, .aload_n 0, 1, 0, 0), (156, .getfield 129, 3, 12, 55), (159, .bipush 32, 2, 0, 0), (161, .iload 4, 2, 0, 0), (163, .invokevirtual 432, 3, 260, 0), (166, .iload 4, 2, 0, 0), (168, .iload_n 2, 1, 0, 0), (169, .if_icmp .eq 17, 3, 0, 0), (172, .aload_n 0, 1, 0, 0), (173, .getfield 13, 3, 12, 2), (176, .iload_n 3, 1, 0, 0), (177, .iload 4, 2, 0, 0), (179, .iadd, 1, 0, 0), (180, .iaload, 1, 0, 0), (181, .bipush 10, 2, 0, 0), (183, .if_icmp .ne 15, 3, 0, 0), (186, .aload_n 0, 1, 0, 0), (187, .aload_n 0, 1, 0, 0), (188, .getfield 129, 3, 12, 55), (191, .bipush 48, 2, 0, 0), (193, .iload 4, 2, 0, 0), (195, .invokevirtual 432, 3, 260, 0), (198, .aload_n 0, 1, 0, 0), (199, .iload_n 1, 1, 0, 0), (200, .iload 4, 2, 0, 0), (202, .iconst 1, 1, 0, 0), (203, .isub, 1, 0, 0), (204, .invokevirtual 436, 3, 261, 0), (207, .aload_n 0, 1, 0, 0), (208, .iload_n 1, 1, 0, 0), (209, .iload 4, 2, 0, 0), (211, .invokevirtual 436, 3, 261, 0), (214, .if_icmp .eq 15, 3, 0, 0), (217, .aload_n 0, 1, 0, 0), (218, .aload_n 0, 1, 0, 0), (219, .getfield 129, 3, 12, 55), (222, .bipush 64, 2, 0, 0), (224, .iload 4, 2, 0, 0), (226, .invokevirtual 432, 3, 260, 0), (229, .iinc 4 1, 3, 0, 0), (232, .goto (-162), 3, 0, 0), (235, .return_, 1, 0, 0)]
def E_m262 : E_MI := (12, ⟨E_R12, "marks", "(I)V"⟩, prog_14_method_90_code, 6, (Option.none : Option FieldType), false, 1, E_c262)
def E_c263 : List E_C := [(0, .bipush 16, 2, 0, 0), (2, .iload_n 1, 1, 0, 0), (3, .imul, 1, 0, 0), (4, .istore 4, 2, 0, 0), (6, .lconst 0, 1, 0, 0), (7, .lstore 5, 2, 0, 0), (9, .iconst 0, 1, 0, 0), (10, .istore 7, 2, 0, 0), (12, .iload 7, 2, 0, 0), (14, .bipush 16, 2, 0, 0), (16, .if_icmp .ge 122, 3, 0, 0), (19, .iload_n 3, 1, 0, 0), (20, .ifCond .eq 11, 3, 0, 0), (23, .bipush 15, 2, 0, 0), (25, .iload 7, 2, 0, 0), (27, .isub, 1, 0, 0), (28, .goto 5, 3, 0, 0), (31, .iload 7, 2, 0, 0), (33, .istore 8, 2, 0, 0), (35, .aload_n 0, 1, 0, 0), (36, .getfield 123, 3, 12, 53), (39, .iload 4, 2, 0, 0), (41, .iload 8, 2, 0, 0), (43, .iadd, 1, 0, 0), (44, .laload, 1, 0, 0), (45, .lstore 9, 2, 0, 0), (47, .iload_n 3, 1, 0, 0), (48, .ifCond .eq 43, 3, 0, 0), (51, .aload_n 0, 1, 0, 0), (52, .getfield 123, 3, 12, 53), (55, .iload 4, 2, 0, 0), (57, .iload 8, 2, 0, 0), (59, .iadd, 1, 0, 0), (60, .lload 9, 2, 0, 0), (62, .iconst 1, 1, 0, 0), (63, .lushr, 1, 0, 0), (64, .lload 5, 2, 0, 0), (66, .lor, 1, 0, 0), (67, .aload_n 0, 1, 0, 0), (68, .getfield 126, 3, 12, 54), (71, .bipush 16, 2, 0, 0), (73, .iload_n 2, 1, 0, 0), (74, .imul, 1, 0, 0), (75, .iload 8, 2, 0, 0), (77, .iadd, 1, 0, 0), (78, .laload, 1, 0, 0), (79, .land, 1, 0, 0), (80, .lastore, 1, 0, 0), (81, .lload 9, 2, 0, 0), (83, .bipush 63, 2, 0, 0), (85, .lshl, 1, 0, 0), (86, .lstore 5, 2, 0, 0), (88, .goto 44, 3, 0, 0), (91, .lload 9, 2, 0, 0), (93, .aload_n 0, 1, 0, 0), (94, .getfield 126, 3, 12, 54), (97, .bipush 16, 2, 0, 0), (99, .iload_n 2, 1, 0, 0), (100, .imul, 1, 0, 0), (101, .iload 8, 2, 0, 0), (103, .iadd, 1, 0, 0), (104, .laload, 1, 0, 0), (105, .land, 1, 0, 0), (106, .lstore 9, 2, 0, 0), (108, .aload_n 0, 1, 0, 0), (109, .getfield 123, 3, 12, 53), (112, .iload 4, 2, 0, 0), (114, .iload 8, 2, 0, 0), (116, .iadd, 1, 0, 0), (117, .lload 9, 2, 0, 0), (119, .iconst 1, 1, 0, 0), (120, .lshl, 1, 0, 0), (121, .lload 5, 2, 0, 0), (123, .lor, 1, 0, 0), (124, .lastore, 1, 0, 0), (125, .lload 9, 2, 0, 0), (127, .bipush 63, 2, 0, 0), (129, .lushr, 1, 0, 0), (130, .lstore 5, 2, 0, 0), (132, .iinc 7 1, 3, 0, 0), (135, .goto (-123), 3, 0, 0), (138, .return_, 1, 0, 0)]
def E_m263 : E_MI := (12, ⟨E_R12, "moves", "(IIZ)V"⟩, prog_14_method_91_code, 11, (Option.none : Option FieldType), false, 3, E_c263)
def E_c264 : List E_C := [(0, .iconst 0, 1, 0, 0), (1, .istore_n 2, 1, 0, 0), (2, .iconst 0, 1, 0, 0), (3, .istore_n 3, 1, 0, 0), (4, .iload_n 3, 1, 0, 0), (5, .bipush 16, 2, 0, 0), (7, .if_icmp .ge 88, 3, 0, 0), (10, .aload_n 0, 1, 0, 0), (11, .getfield 123, 3, 12, 53), (14, .bipush 16, 2, 0, 0), (16, .iload_n 1, 1, 0, 0), (17, .imul, 1, 0, 0), (18, .iload_n 3, 1, 0, 0), (19, .iadd, 1, 0, 0), (20, .laload, 1, 0, 0), (21, .aload_n 0, 1, 0, 0), (22, .getfield 123, 3, 12, 53), (25, .bipush 16, 2, 0, 0), (27, .iload_n 1, 1, 0, 0), (28, .iconst 1, 1, 0, 0), (29, .isub, 1, 0, 0), (30, .imul, 1, 0, 0), (31, .iload_n 3, 1, 0, 0), (32, .iadd, 1, 0, 0), (33, .laload, 1, 0, 0), (34, .ldc2_w 439, 3, 0, 0), (37, .lxor, 1, 0, 0), (38, .land, 1, 0, 0), (39, .lstore 4, 2, 0, 0), (41, .aload_n 0, 1, 0, 0), (42, .getfield 123, 3, 12, 53), (45, .bipush 16, 2, 0, 0), (47, .iload_n 1, 1, 0, 0), (48, .iconst 1, 1, 0, 0), (49, .isub, 1, 0, 0), (50, .imul, 1, 0, 0), (51, .iload_n 3, 1, 0, 0), (52, .iadd, 1, 0, 0), (53, .dup2, 1, 0, 0), (54, .laload, 1, 0, 0), (55, .lload 4, 2, 0, 0), (57, .lor, 1, 0, 0), (58, .lastore, 1, 0, 0), (59, .aload_n 0, 1, 0, 0), (60, .getfield 123, 3, 12, 53), (63, .bipush 16, 2, 0, 0), (65, .iload_n 1, 1, 0, 0), (66, .imul, 1, 0, 0), (67, .iload_n 3, 1, 0, 0), (68, .iadd, 1, 0, 0), (69, .lload 4, 2, 0, 0), (71, .lastore, 1, 0, 0), (72, .iload_n 2, 1, 0, 0), (73, .ifCond .ne 10, 3, 0, 0), (76, .lload 4, 2, 0, 0), (78, .lconst 0, 1, 0, 0), (79, .lcmp, 1, 0, 0), (80, .ifCond .eq 7, 3, 0, 0), (83, .iconst 1, 1, 0, 0), (84, .goto 4, 3, 0, 0), (87, .iconst 0, 1, 0, 0), (88, .istore_n 2, 1, 0, 0), (89, .iinc 3 1, 3, 0, 0), (92, .goto (-88), 3, 0, 0), (95, .iload_n 2, 1, 0, 0), (96, .ireturn, 1, 0, 0)]
def E_m264 : E_MI := (12, ⟨E_R12, "news", "(I)Z"⟩, prog_14_method_92_code, 6, (Option.some FieldType.boolean), false, 1, E_c264)
def E_c265 : List E_C := [(0, .iconst 0, 1, 0, 0), (1, .istore_n 3, 1, 0, 0), (2, .iload_n 3, 1, 0, 0), (3, .bipush 16, 2, 0, 0), (5, .if_icmp .ge 49, 3, 0, 0), (8, .aload_n 0, 1, 0, 0), (9, .getfield 123, 3, 12, 53), (12, .bipush 16, 2, 0, 0), (14, .iload_n 1, 1, 0, 0), (15, .iconst 1, 1, 0, 0), (16, .iadd, 1, 0, 0), (17, .imul, 1, 0, 0), (18, .iload_n 3, 1, 0, 0), (19, .iadd, 1, 0, 0), (20, .aload_n 0, 1, 0, 0), (21, .getfield 123, 3, 12, 53), (24, .bipush 16, 2, 0, 0), (26, .iload_n 1, 1, 0, 0), (27, .imul, 1, 0, 0), (28, .iload_n 3, 1, 0, 0), (29, .iadd, 1, 0, 0), (30, .laload, 1, 0, 0), (31, .lastore, 1, 0, 0), (32, .iload_n 2, 1, 0, 0), (33, .ifCond .ne 15, 3, 0, 0), (36, .aload_n 0, 1, 0, 0), (37, .getfield 123, 3, 12, 53), (40, .bipush 16, 2, 0, 0), (42, .iload_n 1, 1, 0, 0), (43, .imul, 1, 0, 0), (44, .iload_n 3, 1, 0, 0), (45, .iadd, 1, 0, 0), (46, .lconst 0, 1, 0, 0), (47, .lastore, 1, 0, 0), (48, .iinc 3 1, 3, 0, 0), (51, .goto (-49), 3, 0, 0), (54, .return_, 1, 0, 0)]
def E_m265 : E_MI := (12, ⟨E_R12, "doubles", "(IZ)V"⟩, prog_14_method_93_code, 4, (Option.none : Option FieldType), false, 2, E_c265)
def E_c266 : List E_C := [(0, .iconst 0, 1, 0, 0), (1, .istore_n 2, 1, 0, 0), (2, .iconst 0, 1, 0, 0), (3, .istore_n 3, 1, 0, 0), (4, .iload_n 3, 1, 0, 0), (5, .aload_n 0, 1, 0, 0), (6, .getfield 406, 3, 12, 48), (9, .if_icmp .ge 301, 3, 0, 0), (12, .aload_n 0, 1, 0, 0), (13, .getfield 105, 3, 12, 46), (16, .iload_n 3, 1, 0, 0), (17, .iaload, 1, 0, 0), (18, .istore 4, 2, 0, 0), (20, .iload 4, 2, 0, 0), (22, .iconst 1, 1, 0, 0), (23, .if_icmp .ne 18, 3, 0, 0), (26, .aload_n 0, 1, 0, 0), (27, .iload_n 2, 1, 0, 0), (28, .aload_n 0, 1, 0, 0), (29, .getfield 108, 3, 12, 47), (32, .iload_n 3, 1, 0, 0), (33, .iaload, 1, 0, 0), (34, .iload_n 1, 1, 0, 0), (35, .invokevirtual 441, 3, 263, 0), (38, .goto 266, 3, 0, 0), (41, .iload 4, 2, 0, 0), (43, .iconst 2, 1, 0, 0), (44, .if_icmp .ne 54, 3, 0, 0), (47, .iconst 0, 1, 0, 0), (48, .istore 5, 2, 0, 0), (50, .iload 5, 2, 0, 0), (52, .bipush 16, 2, 0, 0), (54, .if_icmp .ge 41, 3, 0, 0), (57, .aload_n 0, 1, 0, 0), (58, .getfield 123, 3, 12, 53), (61, .bipush 16, 2, 0, 0), (63, .iload_n 2, 1, 0, 0), (64, .imul, 1, 0, 0), (65, .iload 5, 2, 0, 0), (67, .iadd, 1, 0, 0), (68, .dup2, 1, 0, 0), (69, .laload, 1, 0, 0), (70, .aload_n 0, 1, 0, 0), (71, .getfield 129, 3, 12, 55), (74, .bipush 16, 2, 0, 0), (76, .aload_n 0, 1, 0, 0), (77, .getfield 108, 3, 12, 47), (80, .iload_n 3, 1, 0, 0), (81, .iaload, 1, 0, 0), (82, .imul, 1, 0, 0), (83, .iload 5, 2, 0, 0), (85, .iadd, 1, 0, 0), (86, .laload, 1, 0, 0), (87, .land, 1, 0, 0), (88, .lastore, 1, 0, 0), (89, .iinc 5 1, 3, 0, 0), (92, .goto (-42), 3, 0, 0), (95, .goto 209, 3, 0, 0), (98, .iload 4, 2, 0, 0), (100, .iconst 3, 1, 0, 0), (101, .if_icmp .eq 17, 3, 0, 0), (104, .iload 4, 2, 0, 0), (106, .bipush 6, 2, 0, 0), (108, .if_icmp .eq 10, 3, 0, 0), (111, .iload 4, 2, 0, 0), (113, .bipush 7, 2, 0, 0), (115, .if_icmp .ne 26, 3, 0, 0), (118, .aload_n 0, 1, 0, 0), (119, .iload_n 2, 1, 0, 0), (120, .iload 4, 2, 0, 0), (122, .bipush 7, 2, 0, 0), (124, .if_icmp .eq 7, 3, 0, 0), (127, .iconst 1, 1, 0, 0), (128, .goto 4, 3, 0, 0), (131, .iconst 0, 1, 0, 0), (132, .invokevirtual 445, 3, 265, 0), (135, .iinc 2 1, 3, 0, 0), (138, .goto 166, 3, 0, 0), (141, .iload 4, 2, 0, 0), (143, .iconst 4, 1, 0, 0), (144, .if_icmp .ne 78, 3, 0, 0), (147, .iconst 0, 1, 0, 0), (148, .istore 5, 2, 0, 0), (150, .iload 5, 2, 0, 0), (152, .bipush 16, 2, 0, 0), (154, .if_icmp .ge 65, 3, 0, 0), (157, .aload_n 0, 1, 0, 0), (158, .getfield 123, 3, 12, 53), (161, .bipush 16, 2, 0, 0), (163, .iload_n 2, 1, 0, 0), (164, .imul, 1, 0, 0), (165, .iload 5, 2, 0, 0), (167, .iadd, 1, 0, 0), (168, .laload, 1, 0, 0), (169, .lstore 6, 2, 0, 0), (171, .aload_n 0, 1, 0, 0), (172, .getfield 123, 3, 12, 53), (175, .bipush 16, 2, 0, 0), (177, .iload_n 2, 1, 0, 0), (178, .imul, 1, 0, 0), (179, .iload 5, 2, 0, 0), (181, .iadd, 1, 0, 0), (182, .aload_n 0, 1, 0, 0), (183, .getfield 123, 3, 12, 53), (186, .bipush 16, 2, 0, 0), (188, .iload_n 2, 1, 0, 0), (189, .iconst 1, 1, 0, 0), (190, .isub, 1, 0, 0), (191, .imul, 1, 0, 0), (192, .iload 5, 2, 0, 0), (194, .iadd, 1, 0, 0), (195, .laload, 1, 0, 0), (196, .lastore, 1, 0, 0), (197, .aload_n 0, 1, 0, 0), (198, .getfield 123, 3, 12, 53), (201, .bipush 16, 2, 0, 0), (203, .iload_n 2, 1, 0, 0), (204, .iconst 1, 1, 0, 0), (205, .isub, 1, 0, 0), (206, .imul, 1, 0, 0), (207, .iload 5, 2, 0, 0), (209, .iadd, 1, 0, 0), (210, .lload 6, 2, 0, 0), (212, .lastore, 1, 0, 0), (213, .iinc 5 1, 3, 0, 0), (216, .goto (-66), 3, 0, 0), (219, .goto 85, 3, 0, 0), (222, .iload 4, 2, 0, 0), (224, .iconst 5, 1, 0, 0), (225, .if_icmp .ne 54, 3, 0, 0), (228, .iconst 0, 1, 0, 0), (229, .istore 5, 2, 0, 0), (231, .iload 5, 2, 0, 0), (233, .bipush 16, 2, 0, 0), (235, .if_icmp .ge 38, 3, 0, 0), (238, .aload_n 0, 1, 0, 0), (239, .getfield 123, 3, 12, 53), (242, .bipush 16, 2, 0, 0), (244, .iload_n 2, 1, 0, 0), (245, .iconst 1, 1, 0, 0), (246, .isub, 1, 0, 0), (247, .imul, 1, 0, 0), (248, .iload 5, 2, 0, 0), (250, .iadd, 1, 0, 0), (251, .dup2, 1, 0, 0), (252, .laload, 1, 0, 0), (253, .aload_n 0, 1, 0, 0), (254, .getfield 123, 3, 12, 53), (257, .bipush 16, 2, 0, 0), (259, .iload_n 2, 1, 0, 0), (260, .imul, 1, 0, 0), (261, .iload 5, 2, 0, 0), (263, .iadd, 1, 0, 0), (264, .laload, 1, 0, 0), (265, .lor, 1, 0, 0), (266, .lastore, 1, 0, 0), (267, .iinc 5 1, 3, 0, 0), (270, .goto (-39), 3, 0, 0), (273, .iinc 2 (-1), 3, 0, 0), (276, .goto 28, 3, 0, 0), (279, .aload_n 0, 1, 0, 0), (280, .iload_n 2, 1, 0, 0), (281, .invokevirtual 448, 3, 264, 0), (284, .ifCond .eq 17, 3, 0, 0), (287, .iload_n 3, 1, 0, 0), (288, .aload_n 0, 1, 0, 0), (289, .getfield 108, 3, 12, 47), (292, .iload_n 3, 1, 0, 0), (293, .iaload, 1, 0, 0), (294, .iconst 1, 1, 0, 0), (295, .iadd, 1, 0, 0), (296, .isub, 1, 0, 0), (297, .istore_n 3, 1, 0, 0), (298, .goto 6, 3, 0, 0), (301, .iinc 2 (-1), 3, 0, 0), (304, .iinc 3 1, 3, 0, 0), (307, .goto (-303), 3, 0, 0), (310, .return_, 1, 0, 0)]
def E_m266 : E_MI := (12, ⟨E_R12, "leads", "(Z)V"⟩, prog_14_method_94_code, 8, (Option.none : Option FieldType), false, 1, E_c266)
def E_c267 : List E_C := [(0, .aload_n 0, 1, 0, 0), (1, .getfield 123, 3, 12, 53), (4, .iload_n 1, 1, 0, 0), (5, .bipush 64, 2, 0, 0), (7, .idiv, 1, 0, 0), (8, .laload, 1, 0, 0), (9, .iload_n 1, 1, 0, 0), (10, .bipush 64, 2, 0, 0), (12, .irem, 1, 0, 0), (13, .lushr, 1, 0, 0), (14, .lconst 1, 1, 0, 0), (15, .land, 1, 0, 0), (16, .lconst 1, 1, 0, 0), (17, .lcmp, 1, 0, 0), (18, .ifCond .ne 7, 3, 0, 0), (21, .iconst 1, 1, 0, 0), (22, .goto 4, 3, 0, 0), (25, .iconst 0, 1, 0, 0), (26, .ireturn, 1, 0, 0)]
def E_m267 : E_MI := (12, ⟨E_R12, "isAt", "(I)Z"⟩, prog_14_method_95_code, 2, (Option.some FieldType.boolean), false, 1, E_c267)
def E_c268 : List E_C := [(0, .aload_n 0, 1, 0, 0), (1, .getfield 159, 3, 12, 69), (4, .aload_n 0, 1, 0, 0), (5, .getfield 451, 3, 12, 68), (8, .iload_n 1, 1, 0, 0), (9, .iastore, 1, 0, 0), (10, .aload_n 0, 1, 0, 0), (11, .dup, 1, 0, 0), (12, .getfield 451, 3, 12, 68), (15, .iconst 1, 1, 0, 0), (16, .iadd, 1, 0, 0), (17, .putfield 451, 3, 12, 68), (20, .aload_n 0, 1, 0, 0), (21, .getfield 19, 3, 12, 5), (24, .iload_n 1, 1, 0, 0), (25, .iaload, 1, 0, 0), (26, .istore_n 2, 1, 0, 0), (27, .aload_n 0, 1, 0, 0), (28, .iload_n 1, 1, 0, 0), (29, .invokevirtual 454, 3, 262, 0), (32, .aload_n 0, 1, 0, 0), (33, .iconst 1, 1, 0, 0), (34, .invokevirtual 457, 3, 259, 0), (37, .iconst 0, 1, 0, 0), (38, .istore_n 3, 1, 0, 0), (39, .iload_n 3, 1, 0, 0), (40, .bipush 16, 2, 0, 0), (42, .if_icmp .ge 16, 3, 0, 0), (45, .aload_n 0, 1, 0, 0), (46, .getfield 123, 3, 12, 53), (49, .iload_n 3, 1, 0, 0), (50, .lconst 0, 1, 0, 0), (51, .lastore, 1, 0, 0), (52, .iinc 3 1, 3, 0, 0), (55, .goto (-16), 3, 0, 0), (58, .iconst 0, 1, 0, 0), (59, .istore_n 3, 1, 0, 0), (60, .iload_n 3, 1, 0, 0), (61, .iload_n 2, 1, 0, 0), (62, .if_icmp .gt 19, 3, 0, 0), (65, .aload_n 0, 1, 0, 0), (66, .aload_n 0, 1, 0, 0), (67, .getfield 123, 3, 12, 53), (70, .iconst 0, 1, 0, 0), (71, .iload_n 3, 1, 0, 0), (72, .invokevirtual 432, 3, 260, 0), (75, .iinc 3 1, 3, 0, 0), (78, .goto (-18), 3, 0, 0), (81, .aload_n 0, 1, 0, 0), (82, .iconst 1, 1, 0, 0), (83, .invokevirtual 460, 3, 266, 0), (86, .iconst 0, 1, 0, 0), (87, .istore_n 3, 1, 0, 0), (88, .iload_n 3, 1, 0, 0), (89, .iload_n 2, 1, 0, 0), (90, .if_icmp .gt 17, 3, 0, 0), (93, .aload_n 0, 1, 0, 0), (94, .iload_n 3, 1, 0, 0), (95, .invokevirtual 463, 3, 267, 0), (98, .ifCond .ne 9, 3, 0, 0), (101, .iinc 3 1, 3, 0, 0), (104, .goto (-16), 3, 0, 0), (107, .iload_n 3, 1, 0, 0), (108, .iload_n 2, 1, 0, 0), (109, .if_icmp .le 4, 3, 0, 0), (112, .return_, 1, 0, 0), (113, .aload_n 0, 1, 0, 0), (114, .iconst 0, 1, 0, 0), (115, .invokevirtual 457, 3, 259, 0), (118, .iconst 0, 1, 0, 0), (119, .istore 4, 2, 0, 0), (121, .iload 4, 2, 0, 0), (123, .bipush 16, 2, 0, 0), (125, .if_icmp .ge 17, 3, 0, 0), (128, .aload_n 0, 1, 0, 0), (129, .getfield 123, 3, 12, 53), (132, .iload 4, 2, 0, 0), (134, .lconst 0, 1, 0, 0), (135, .lastore, 1, 0, 0), (136, .iinc 4 1, 3, 0, 0), (139, .goto (-18), 3, 0, 0), (142, .aload_n 0, 1, 0, 0), (143, .aload_n 0, 1, 0, 0), (144, .getfield 123, 3, 12, 53), (147, .iconst 0, 1, 0, 0), (148, .iload_n 3, 1, 0, 0), (149, .invokevirtual 432, 3, 260, 0), (152, .aload_n 0, 1, 0, 0), (153, .iconst 0, 1, 0, 0), (154, .invokevirtual 460, 3, 266, 0), (157, .iload_n 2, 1, 0, 0), (158, .istore 4, 2, 0, 0), (160, .iload 4, 2, 0, 0), (162, .iload_n 3, 1, 0, 0), (163, .if_icmp .le 18, 3, 0, 0), (166, .aload_n 0, 1, 0, 0), (167, .iload 4, 2, 0, 0), (169, .invokevirtual 463, 3, 267, 0), (172, .ifCond .ne 9, 3, 0, 0), (175, .iinc 4 (-1), 3, 0, 0), (178, .goto (-18), 3, 0, 0), (181, .iconst 1, 1, 0, 0), (182, .istore 5, 2, 0, 0), (184, .iconst 0, 1, 0, 0), (185, .istore 6, 2, 0, 0), (187, .iload 6, 2, 0, 0), (189, .iload_n 3, 1, 0, 0), (190, .if_icmp .ge 38, 3, 0, 0), (193, .iload 5, 2, 0, 0), (195, .aload_n 0, 1, 0, 0), (196, .getfield 13, 3, 12, 2), (199, .aload_n 0, 1, 0, 0), (200, .getfield 16, 3, 12, 4), (203, .iload_n 1, 1, 0, 0), (204, .iaload, 1, 0, 0), (205, .iload 6, 2, 0, 0), (207, .iadd, 1, 0, 0), (208, .iaload, 1, 0, 0), (209, .bipush 10, 2, 0, 0), (211, .if_icmp .ne 7, 3, 0, 0), (214, .iconst 1, 1, 0, 0), (215, .goto 4, 3, 0, 0), (218, .iconst 0, 1, 0, 0), (219, .iadd, 1, 0, 0), (220, .istore 5, 2, 0, 0), (222, .iinc 6 1, 3, 0, 0), (225, .goto (-38), 3, 0, 0), (228, .aload_n 0, 1, 0, 0), (229, .getfield 147, 3, 12, 64), (232, .aload_n 0, 1, 0, 0), (233, .getfield 466, 3, 12, 63), (236, .iload_n 1, 1, 0, 0), (237, .iastore, 1, 0, 0), (238, .aload_n 0, 1, 0, 0), (239, .getfield 150, 3, 12, 65), (242, .aload_n 0, 1, 0, 0), (243, .getfield 466, 3, 12, 63), (246, .iload_n 3, 1, 0, 0), (247, .iastore, 1, 0, 0), (248, .aload_n 0, 1, 0, 0), (249, .getfield 153, 3, 12, 66), (252, .aload_n 0, 1, 0, 0), (253, .getfield 466, 3, 12, 63), (256, .iload 4, 2, 0, 0), (258, .iastore, 1, 0, 0), (259, .aload_n 0, 1, 0, 0), (260, .getfield 156, 3, 12, 67), (263, .aload_n 0, 1, 0, 0), (264, .getfield 466, 3, 12, 63), (267, .iload 5, 2, 0, 0), (269, .iastore, 1, 0, 0), (270, .aload_n 0, 1, 0, 0), (271, .dup, 1, 0, 0), (272, .getfield 466, 3, 12, 63), (275, .iconst 1, 1, 0, 0), (276, .iadd, 1, 0, 0), (277, .putfield 466, 3, 12, 63), (280, .return_, 1, 0, 0)]
def E_m268 : E_MI := (12, ⟨E_R12, "looks", "(I)V"⟩, prog_14_method_96_code, 7, (Option.none : Option FieldType), false, 1, E_c268)
def E_c269 : List E_C := [(0, .aload_n 0, 1, 0, 0), (1, .aload_n 0, 1, 0, 0), (2, .iload_n 1, 1, 0, 0), (3, .iconst 0, 1, 0, 0), (4, .invokevirtual 469, 3, 188, 0), (7, .invokevirtual 339, 3, 187, 0), (10, .istore_n 2, 1, 0, 0), (11, .iconst 0, 1, 0, 0), (12, .istore_n 3, 1, 0, 0), (13, .iconst 0, 1, 0, 0), (14, .istore 4, 2, 0, 0), (16, .iload 4, 2, 0, 0), (18, .aload_n 0, 1, 0, 0), (19, .getfield 473, 3, 12, 56), (22, .if_icmp .ge 60, 3, 0, 0), (25, .iload_n 3, 1, 0, 0), (26, .ifCond .ne 56, 3, 0, 0), (29, .iconst 1, 1, 0, 0), (30, .istore_n 3, 1, 0, 0), (31, .iconst 0, 1, 0, 0), (32, .istore 5, 2, 0, 0), (34, .iload 5, 2, 0, 0), (36, .aload_n 0, 1, 0, 0), (37, .getfield 132, 3, 12, 57), (40, .iload 4, 2, 0, 0), (42, .iaload, 1, 0, 0), (43, .if_icmp .ge 33, 3, 0, 0), (46, .iload_n 3, 1, 0, 0), (47, .ifCond .eq 29, 3, 0, 0), (50, .aload_n 0, 1, 0, 0), (51, .iload_n 2, 1, 0, 0), (52, .aload_n 0, 1, 0, 0), (53, .getfield 135, 3, 12, 58), (56, .sipush 640, 3, 0, 0), (59, .iload 4, 2, 0, 0), (61, .imul, 1, 0, 0), (62, .iload 5, 2, 0, 0), (64, .iadd, 1, 0, 0), (65, .iaload, 1, 0, 0), (66, .invokevirtual 476, 3, 189, 0), (69, .istore_n 3, 1, 0, 0), (70, .iinc 5 1, 3, 0, 0), (73, .goto (-39), 3, 0, 0), (76, .iinc 4 1, 3, 0, 0), (79, .goto (-63), 3, 0, 0), (82, .iload_n 3, 1, 0, 0), (83, .ireturn, 1, 0, 0)]
def E_m269 : E_MI := (12, ⟨E_R12, "meetsWant", "(I)Z"⟩, prog_14_method_97_code, 6, (Option.some FieldType.boolean), false, 1, E_c269)
def E_c270 : List E_C := [(0, .iconst 0, 1, 0, 0), (1, .istore_n 3, 1, 0, 0), (2, .aload_n 0, 1, 0, 0), (3, .getfield 79, 3, 12, 35), (6, .iload_n 1, 1, 0, 0), (7, .iaload, 1, 0, 0), (8, .istore 4, 2, 0, 0), (10, .aload_n 0, 1, 0, 0), (11, .getfield 79, 3, 12, 35), (14, .iload_n 2, 1, 0, 0), (15, .iaload, 1, 0, 0), (16, .istore 5, 2, 0, 0), (18, .iload_n 3, 1, 0, 0), (19, .iload 4, 2, 0, 0), (21, .if_icmp .ge 42, 3, 0, 0), (24, .iload_n 3, 1, 0, 0), (25, .iload 5, 2, 0, 0), (27, .if_icmp .ge 36, 3, 0, 0), (30, .aload_n 0, 1, 0, 0), (31, .getfield 83, 3, 12, 36), (34, .sipush 640, 3, 0, 0), (37, .iload_n 1, 1, 0, 0), (38, .imul, 1, 0, 0), (39, .iload_n 3, 1, 0, 0), (40, .iadd, 1, 0, 0), (41, .iaload, 1, 0, 0), (42, .aload_n 0, 1, 0, 0), (43, .getfield 83, 3, 12, 36), (46, .sipush 640, 3, 0, 0), (49, .iload_n 2, 1, 0, 0), (50, .imul, 1, 0, 0), (51, .iload_n 3, 1, 0, 0), (52, .iadd, 1, 0, 0), (53, .iaload, 1, 0, 0), (54, .if_icmp .ne 9, 3, 0, 0), (57, .iinc 3 1, 3, 0, 0), (60, .goto (-42), 3, 0, 0), (63, .iload_n 3, 1, 0, 0), (64, .iload 4, 2, 0, 0), (66, .if_icmp .ne 17, 3, 0, 0), (69, .iload_n 3, 1, 0, 0), (70, .iload 5, 2, 0, 0), (72, .if_icmp .ge 7, 3, 0, 0), (75, .iconst 1, 1, 0, 0), (76, .goto 45, 3, 0, 0), (79, .iconst 0, 1, 0, 0), (80, .goto 41, 3, 0, 0), (83, .iload_n 3, 1, 0, 0), (84, .iload 5, 2, 0, 0), (86, .if_icmp .ge 34, 3, 0, 0), (89, .aload_n 0, 1, 0, 0), (90, .getfield 83, 3, 12, 36), (93, .sipush 640, 3, 0, 0), (96, .iload_n 1, 1, 0, 0), (97, .imul, 1, 0, 0), (98, .iload_n 3, 1, 0, 0), (99, .iadd, 1, 0, 0), (100, .iaload, 1, 0, 0), (101, .aload_n 0, 1, 0, 0), (102, .getfield 83, 3, 12, 36), (105, .sipush 640, 3, 0, 0), (108, .iload_n 2, 1, 0, 0), (109, .imul, 1, 0, 0), (110, .iload_n 3, 1, 0, 0), (111, .iadd, 1, 0, 0), (112, .iaload, 1, 0, 0), (113, .if_icmp .ge 7, 3, 0, 0), (116, .iconst 1, 1, 0, 0), (117, .goto 4, 3, 0, 0), (120, .iconst 0, 1, 0, 0), (121, .ireturn, 1, 0, 0)]
def E_m270 : E_MI := (12, ⟨E_R12, "isAhead", "(II)Z"⟩, prog_14_method_98_code, 6, (Option.some FieldType.boolean), false, 2, E_c270)
def E_c271 : List E_C := [(0, .aload_n 0, 1, 0, 0), (1, .aload_n 0, 1, 0, 0), (2, .getfield 76, 3, 12, 34), (5, .iconst 0, 1, 0, 0), (6, .iaload, 1, 0, 0), (7, .putfield 473, 3, 12, 56), (10, .iconst 0, 1, 0, 0), (11, .istore_n 1, 1, 0, 0), (12, .iload_n 1, 1, 0, 0), (13, .aload_n 0, 1, 0, 0), (14, .getfield 473, 3, 12, 56), (17, .if_icmp .ge 98, 3, 0, 0), (20, .iconst 0, 1, 0, 0), (21, .istore_n 2, 1, 0, 0), (22, .iconst 0, 1, 0, 0), (23, .istore_n 3, 1, 0, 0), (24, .iload_n 3, 1, 0, 0), (25, .aload_n 0, 1, 0, 0), (26, .getfield 473, 3, 12, 56), (29, .if_icmp .ge 26, 3, 0, 0), (32, .iload_n 2, 1, 0, 0), (33, .aload_n 0, 1, 0, 0), (34, .iload_n 3, 1, 0, 0), (35, .iload_n 1, 1, 0, 0), (36, .invokevirtual 479, 3, 270, 0), (39, .ifCond .eq 7, 3, 0, 0), (42, .iconst 1, 1, 0, 0), (43, .goto 4, 3, 0, 0), (46, .iconst 0, 1, 0, 0), (47, .iadd, 1, 0, 0), (48, .istore_n 2, 1, 0, 0), (49, .iinc 3 1, 3, 0, 0), (52, .goto (-28), 3, 0, 0), (55, .aload_n 0, 1, 0, 0), (56, .getfield 132, 3, 12, 57), (59, .iload_n 2, 1, 0, 0), (60, .aload_n 0, 1, 0, 0), (61, .getfield 79, 3, 12, 35), (64, .iload_n 1, 1, 0, 0), (65, .iaload, 1, 0, 0), (66, .iastore, 1, 0, 0), (67, .iconst 0, 1, 0, 0), (68, .istore_n 3, 1, 0, 0), (69, .iload_n 3, 1, 0, 0), (70, .aload_n 0, 1, 0, 0), (71, .getfield 79, 3, 12, 35), (74, .iload_n 1, 1, 0, 0), (75, .iaload, 1, 0, 0), (76, .if_icmp .ge 33, 3, 0, 0), (79, .aload_n 0, 1, 0, 0), (80, .getfield 135, 3, 12, 58), (83, .sipush 640, 3, 0, 0), (86, .iload_n 2, 1, 0, 0), (87, .imul, 1, 0, 0), (88, .iload_n 3, 1, 0, 0), (89, .iadd, 1, 0, 0), (90, .aload_n 0, 1, 0, 0), (91, .getfield 83, 3, 12, 36), (94, .sipush 640, 3, 0, 0), (97, .iload_n 1, 1, 0, 0), (98, .imul, 1, 0, 0), (99, .iload_n 3, 1, 0, 0), (100, .iadd, 1, 0, 0), (101, .iaload, 1, 0, 0), (102, .iastore, 1, 0, 0), (103, .iinc 3 1, 3, 0, 0), (106, .goto (-37), 3, 0, 0), (109, .iinc 1 1, 3, 0, 0), (112, .goto (-100), 3, 0, 0), (115, .return_, 1, 0, 0)]
def E_m271 : E_MI := (12, ⟨E_R12, "tellsChoices", "()V"⟩, prog_14_method_99_code, 4, (Option.none : Option FieldType), false, 0, E_c271)
def E_c272 : List E_C := [(0, .iconst 0, 1, 0, 0), (1, .istore_n 3, 1, 0, 0), (2, .iload_n 3, 1, 0, 0), (3, .aload_n 0, 1, 0, 0), (4, .getfield 99, 3, 12, 44), (7, .iload_n 1, 1, 0, 0), (8, .iaload, 1, 0, 0), (9, .if_icmp .ge 44, 3, 0, 0), (12, .iload_n 3, 1, 0, 0), (13, .aload_n 0, 1, 0, 0), (14, .getfield 99, 3, 12, 44), (17, .iload_n 2, 1, 0, 0), (18, .iaload, 1, 0, 0), (19, .if_icmp .ge 34, 3, 0, 0), (22, .aload_n 0, 1, 0, 0), (23, .getfield 102, 3, 12, 45), (26, .bipush 60, 2, 0, 0), (28, .iload_n 1, 1, 0, 0), (29, .imul, 1, 0, 0), (30, .iload_n 3, 1, 0, 0), (31, .iadd, 1, 0, 0), (32, .iaload, 1, 0, 0), (33, .aload_n 0, 1, 0, 0), (34, .getfield 102, 3, 12, 45), (37, .bipush 60, 2, 0, 0), (39, .iload_n 2, 1, 0, 0), (40, .imul, 1, 0, 0), (41, .iload_n 3, 1, 0, 0), (42, .iadd, 1, 0, 0), (43, .iaload, 1, 0, 0), (44, .if_icmp .ne 9, 3, 0, 0), (47, .iinc 3 1, 3, 0, 0), (50, .goto (-48), 3, 0, 0), (53, .iload_n 3, 1, 0, 0), (54, .aload_n 0, 1, 0, 0), (55, .getfield 99, 3, 12, 44), (58, .iload_n 1, 1, 0, 0), (59, .iaload, 1, 0, 0), (60, .if_icmp .ne 21, 3, 0, 0), (63, .iload_n 3, 1, 0, 0), (64, .aload_n 0, 1, 0, 0), (65, .getfield 99, 3, 12, 44), (68, .iload_n 2, 1, 0, 0), (69, .iaload, 1, 0, 0), (70, .if_icmp .ge 7, 3, 0, 0), (73, .iconst 1, 1, 0, 0), (74, .goto 47, 3, 0, 0), (77, .iconst 0, 1, 0, 0), (78, .goto 43, 3, 0, 0), (81, .iload_n 3, 1, 0, 0), (82, .aload_n 0, 1, 0, 0), (83, .getfield 99, 3, 12, 44), (86, .iload_n 2, 1, 0, 0), (87, .iaload, 1, 0, 0), (88, .if_icmp .ge 32, 3, 0, 0), (91, .aload_n 0, 1, 0, 0), (92, .getfield 102, 3, 12, 45), (95, .bipush 60, 2, 0, 0), (97, .iload_n 1, 1, 0, 0), (98, .imul, 1, 0, 0), (99, .iload_n 3, 1, 0, 0), (100, .iadd, 1, 0, 0), (101, .iaload, 1, 0, 0), (102, .aload_n 0, 1, 0, 0), (103, .getfield 102, 3, 12, 45), (106, .bipush 60, 2, 0, 0), (108, .iload_n 2, 1, 0, 0), (109, .imul, 1, 0, 0), (110, .iload_n 3, 1, 0, 0), (111, .iadd, 1, 0, 0), (112, .iaload, 1, 0, 0), (113, .if_icmp .ge 7, 3, 0, 0), (116, .iconst 1, 1, 0, 0), (117, .goto 4, 3, 0, 0), (120, .iconst 0, 1, 0, 0), (121, .ireturn, 1, 0, 0)]
def E_m272 : E_MI := (12, ⟨E_R12, "isTextAhead", "(II)Z"⟩, prog_14_method_100_code, 4, (Option.some FieldType.boolean), false, 2, E_c272)
def E_c273 : List E_C := [(0, .aload_n 0, 1, 0, 0), (1, .getfield 138, 3, 12, 60), (4, .iload_n 1, 1, 0, 0), (5, .aload_n 0, 1, 0, 0), (6, .getfield 336, 3, 12, 43), (9, .iastore, 1, 0, 0), (10, .iconst 0, 1, 0, 0), (11, .istore_n 2, 1, 0, 0), (12, .iload_n 2, 1, 0, 0), (13, .aload_n 0, 1, 0, 0), (14, .getfield 336, 3, 12, 43), (17, .if_icmp .ge 113, 3, 0, 0), (20, .iconst 0, 1, 0, 0), (21, .istore_n 3, 1, 0, 0), (22, .iconst 0, 1, 0, 0), (23, .istore 4, 2, 0, 0), (25, .iload 4, 2, 0, 0), (27, .aload_n 0, 1, 0, 0), (28, .getfield 336, 3, 12, 43), (31, .if_icmp .ge 27, 3, 0, 0), (34, .iload_n 3, 1, 0, 0), (35, .aload_n 0, 1, 0, 0), (36, .iload 4, 2, 0, 0), (38, .iload_n 2, 1, 0, 0), (39, .invokevirtual 482, 3, 272, 0), (42, .ifCond .eq 7, 3, 0, 0), (45, .iconst 1, 1, 0, 0), (46, .goto 4, 3, 0, 0), (49, .iconst 0, 1, 0, 0), (50, .iadd, 1, 0, 0), (51, .istore_n 3, 1, 0, 0), (52, .iinc 4 1, 3, 0, 0), (55, .goto (-30), 3, 0, 0), (58, .aload_n 0, 1, 0, 0), (59, .getfield 141, 3, 12, 61), (62, .bipush 12, 2, 0, 0), (64, .iload_n 1, 1, 0, 0), (65, .imul, 1, 0, 0), (66, .iload_n 3, 1, 0, 0), (67, .iadd, 1, 0, 0), (68, .aload_n 0, 1, 0, 0), (69, .getfield 99, 3, 12, 44), (72, .iload_n 2, 1, 0, 0), (73, .iaload, 1, 0, 0), (74, .iastore, 1, 0, 0), (75, .iconst 0, 1, 0, 0), (76, .istore 4, 2, 0, 0), (78, .iload 4, 2, 0, 0), (80, .aload_n 0, 1, 0, 0), (81, .getfield 99, 3, 12, 44), (84, .iload_n 2, 1, 0, 0), (85, .iaload, 1, 0, 0), (86, .if_icmp .ge 38, 3, 0, 0), (89, .aload_n 0, 1, 0, 0), (90, .getfield 144, 3, 12, 62), (93, .bipush 60, 2, 0, 0), (95, .bipush 12, 2, 0, 0), (97, .iload_n 1, 1, 0, 0), (98, .imul, 1, 0, 0), (99, .iload_n 3, 1, 0, 0), (100, .iadd, 1, 0, 0), (101, .imul, 1, 0, 0), (102, .iload 4, 2, 0, 0), (104, .iadd, 1, 0, 0), (105, .aload_n 0, 1, 0, 0), (106, .getfield 102, 3, 12, 45), (109, .bipush 60, 2, 0, 0), (111, .iload_n 2, 1, 0, 0), (112, .imul, 1, 0, 0), (113, .iload 4, 2, 0, 0), (115, .iadd, 1, 0, 0), (116, .iaload, 1, 0, 0), (117, .iastore, 1, 0, 0), (118, .iinc 4 1, 3, 0, 0), (121, .goto (-43), 3, 0, 0), (124, .iinc 2 1, 3, 0, 0), (127, .goto (-115), 3, 0, 0), (130, .return_, 1, 0, 0)]
def E_m273 : E_MI := (12, ⟨E_R12, "tellsTexts", "(I)V"⟩, prog_14_method_101_code, 5, (Option.none : Option FieldType), false, 1, E_c273)
def E_c274 : List E_C := [(0, .aload_n 0, 1, 0, 0), (1, .getfield 99, 3, 12, 44), (4, .aload_n 0, 1, 0, 0), (5, .getfield 336, 3, 12, 43), (8, .iload_n 1, 1, 0, 0), (9, .invokestatic 281, 3, 213, 0), (12, .iastore, 1, 0, 0), (13, .aload_n 0, 1, 0, 0), (14, .getfield 102, 3, 12, 45), (17, .bipush 60, 2, 0, 0), (19, .aload_n 0, 1, 0, 0), (20, .getfield 336, 3, 12, 43), (23, .imul, 1, 0, 0), (24, .iload_n 1, 1, 0, 0), (25, .invokestatic 284, 3, 214, 0), (28, .iastore, 1, 0, 0), (29, .aload_n 0, 1, 0, 0), (30, .getfield 102, 3, 12, 45), (33, .bipush 60, 2, 0, 0), (35, .aload_n 0, 1, 0, 0), (36, .getfield 336, 3, 12, 43), (39, .imul, 1, 0, 0), (40, .iconst 1, 1, 0, 0), (41, .iadd, 1, 0, 0), (42, .iload_n 1, 1, 0, 0), (43, .invokestatic 287, 3, 215, 0), (46, .iastore, 1, 0, 0), (47, .aload_n 0, 1, 0, 0), (48, .dup, 1, 0, 0), (49, .getfield 336, 3, 12, 43), (52, .iconst 1, 1, 0, 0), (53, .iadd, 1, 0, 0), (54, .putfield 336, 3, 12, 43), (57, .return_, 1, 0, 0)]
def E_m274 : E_MI := (12, ⟨E_R12, "addLong", "(I)V"⟩, prog_14_method_102_code, 2, (Option.none : Option FieldType), false, 1, E_c274)
def E_c275 : List E_C := [(0, .aload_n 0, 1, 0, 0), (1, .aload_n 0, 1, 0, 0), (2, .getfield 52, 3, 12, 26), (5, .iconst 0, 1, 0, 0), (6, .baload, 1, 0, 0), (7, .putfield 485, 3, 12, 59), (10, .aload_n 0, 1, 0, 0), (11, .iconst 0, 1, 0, 0), (12, .invokevirtual 373, 3, 235, 0), (15, .aload_n 0, 1, 0, 0), (16, .invokevirtual 488, 3, 271, 0), (19, .aload_n 0, 1, 0, 0), (20, .iconst 0, 1, 0, 0), (21, .putfield 336, 3, 12, 43), (24, .iconst 0, 1, 0, 0), (25, .istore_n 1, 1, 0, 0), (26, .iload_n 1, 1, 0, 0), (27, .aload_n 0, 1, 0, 0), (28, .getfield 55, 3, 12, 27), (31, .iconst 0, 1, 0, 0), (32, .iaload, 1, 0, 0), (33, .if_icmp .ge 74, 3, 0, 0), (36, .aload_n 0, 1, 0, 0), (37, .getfield 485, 3, 12, 59), (40, .ifCond .eq 67, 3, 0, 0), (43, .aload_n 0, 1, 0, 0), (44, .getfield 99, 3, 12, 44), (47, .iload_n 1, 1, 0, 0), (48, .aload_n 0, 1, 0, 0), (49, .getfield 58, 3, 12, 28), (52, .iload_n 1, 1, 0, 0), (53, .iaload, 1, 0, 0), (54, .iastore, 1, 0, 0), (55, .iconst 0, 1, 0, 0), (56, .istore_n 2, 1, 0, 0), (57, .iload_n 2, 1, 0, 0), (58, .aload_n 0, 1, 0, 0), (59, .getfield 58, 3, 12, 28), (62, .iload_n 1, 1, 0, 0), (63, .iaload, 1, 0, 0), (64, .if_icmp .ge 27, 3, 0, 0), (67, .aload_n 0, 1, 0, 0), (68, .getfield 102, 3, 12, 45), (71, .bipush 60, 2, 0, 0), (73, .iload_n 1, 1, 0, 0), (74, .imul, 1, 0, 0), (75, .iload_n 2, 1, 0, 0), (76, .iadd, 1, 0, 0), (77, .aload_n 0, 1, 0, 0), (78, .iconst 0, 1, 0, 0), (79, .iload_n 1, 1, 0, 0), (80, .iload_n 2, 1, 0, 0), (81, .invokevirtual 308, 3, 222, 0), (84, .iastore, 1, 0, 0), (85, .iinc 2 1, 3, 0, 0), (88, .goto (-31), 3, 0, 0), (91, .aload_n 0, 1, 0, 0), (92, .dup, 1, 0, 0), (93, .getfield 336, 3, 12, 43), (96, .iconst 1, 1, 0, 0), (97, .iadd, 1, 0, 0), (98, .putfield 336, 3, 12, 43), (101, .iinc 1 1, 3, 0, 0), (104, .goto (-78), 3, 0, 0), (107, .aload_n 0, 1, 0, 0), (108, .iconst 0, 1, 0, 0), (109, .invokevirtual 491, 3, 273, 0), (112, .aload_n 0, 1, 0, 0), (113, .iconst 0, 1, 0, 0), (114, .putfield 336, 3, 12, 43), (117, .iconst 0, 1, 0, 0), (118, .istore_n 1, 1, 0, 0), (119, .iload_n 1, 1, 0, 0), (120, .aload_n 0, 1, 0, 0), (121, .getfield 64, 3, 12, 30), (124, .iconst 0, 1, 0, 0), (125, .iaload, 1, 0, 0), (126, .if_icmp .ge 19, 3, 0, 0), (129, .aload_n 0, 1, 0, 0), (130, .aload_n 0, 1, 0, 0), (131, .getfield 67, 3, 12, 31), (134, .iload_n 1, 1, 0, 0), (135, .iaload, 1, 0, 0), (136, .invokevirtual 494, 3, 274, 0), (139, .iinc 1 1, 3, 0, 0), (142, .goto (-23), 3, 0, 0), (145, .aload_n 0, 1, 0, 0), (146, .iconst 1, 1, 0, 0), (147, .invokevirtual 491, 3, 273, 0), (150, .aload_n 0, 1, 0, 0), (151, .iconst 0, 1, 0, 0), (152, .putfield 336, 3, 12, 43), (155, .iconst 0, 1, 0, 0), (156, .istore_n 1, 1, 0, 0), (157, .iload_n 1, 1, 0, 0), (158, .aload_n 0, 1, 0, 0), (159, .getfield 70, 3, 12, 32), (162, .iconst 0, 1, 0, 0), (163, .iaload, 1, 0, 0), (164, .if_icmp .ge 19, 3, 0, 0), (167, .aload_n 0, 1, 0, 0), (168, .aload_n 0, 1, 0, 0), (169, .getfield 73, 3, 12, 33), (172, .iload_n 1, 1, 0, 0), (173, .iaload, 1, 0, 0), (174, .invokevirtual 494, 3, 274, 0), (177, .iinc 1 1, 3, 0, 0), (180, .goto (-23), 3, 0, 0), (183, .aload_n 0, 1, 0, 0), (184, .iconst 2, 1, 0, 0), (185, .invokevirtual 491, 3, 273, 0), (188, .return_, 1, 0, 0)]
def E_m275 : E_MI := (12, ⟨E_R12, "tells", "()V"⟩, prog_14_method_103_code, 3, (Option.none : Option FieldType), false, 0, E_c275)
def E_c276 : List E_C := [(0, .aload_n 0, 1, 0, 0), (1, .iload_n 1, 1, 0, 0), (2, .putfield 214, 3, 12, 17), (5, .aload_n 0, 1, 0, 0), (6, .invokevirtual 497, 3, 203, 0), (9, .aload_n 0, 1, 0, 0), (10, .getfield 190, 3, 12, 18), (13, .ifCond .ne 10, 3, 0, 0), (16, .aload_n 0, 1, 0, 0), (17, .invokevirtual 500, 3, 212, 0), (20, .goto 4, 3, 0, 0), (23, .lconst 0, 1, 0, 0), (24, .lstore_n 2, 1, 0, 0), (25, .lload_n 2, 1, 0, 0), (26, .ldc2_w 504, 3, 0, 0), (29, .lcmp, 1, 0, 0), (30, .ifCond .le 12, 3, 0, 0), (33, .aload_n 0, 1, 0, 0), (34, .iconst 3, 1, 0, 0), (35, .aload_n 0, 1, 0, 0), (36, .getfield 162, 3, 12, 1), (39, .invokevirtual 228, 3, 190, 0), (42, .aload_n 0, 1, 0, 0), (43, .iconst 0, 1, 0, 0), (44, .putfield 162, 3, 12, 1), (47, .aload_n 0, 1, 0, 0), (48, .aload_n 0, 1, 0, 0), (49, .getfield 190, 3, 12, 18), (52, .putfield 506, 3, 12, 20), (55, .aload_n 0, 1, 0, 0), (56, .aload_n 0, 1, 0, 0), (57, .getfield 190, 3, 12, 18), (60, .ifCond .ne 7, 3, 0, 0), (63, .iconst (-1), 1, 0, 0), (64, .goto 7, 3, 0, 0), (67, .aload_n 0, 1, 0, 0), (68, .getfield 193, 3, 12, 19), (71, .putfield 41, 3, 12, 21), (74, .aload_n 0, 1, 0, 0), (75, .getfield 190, 3, 12, 18), (78, .ifCond .eq 5, 3, 0, 0), (81, .iconst (-1), 1, 0, 0), (82, .ireturn, 1, 0, 0), (83, .aload_n 0, 1, 0, 0), (84, .lload_n 2, 1, 0, 0), (85, .putfield 509, 3, 12, 73), (88, .aload_n 0, 1, 0, 0), (89, .invokevirtual 513, 3, 258, 0), (92, .aload_n 0, 1, 0, 0), (93, .invokevirtual 516, 3, 249, 0), (96, .aload_n 0, 1, 0, 0), (97, .invokevirtual 519, 3, 275, 0), (100, .aload_n 0, 1, 0, 0), (101, .iconst 0, 1, 0, 0), (102, .putfield 466, 3, 12, 63), (105, .aload_n 0, 1, 0, 0), (106, .iconst 0, 1, 0, 0), (107, .putfield 451, 3, 12, 68), (110, .iconst 0, 1, 0, 0), (111, .istore 4, 2, 0, 0), (113, .iload 4, 2, 0, 0), (115, .aload_n 0, 1, 0, 0), (116, .getfield 165, 3, 12, 8), (119, .if_icmp .ge 34, 3, 0, 0), (122, .aload_n 0, 1, 0, 0), (123, .getfield 22, 3, 12, 6), (126, .iload 4, 2, 0, 0), (128, .baload, 1, 0, 0), (129, .ifCond .eq 18, 3, 0, 0), (132, .aload_n 0, 1, 0, 0), (133, .iload 4, 2, 0, 0), (135, .invokevirtual 522, 3, 269, 0), (138, .ifCond .eq 9, 3, 0, 0), (141, .aload_n 0, 1, 0, 0), (142, .iload 4, 2, 0, 0), (144, .invokevirtual 525, 3, 268, 0), (147, .iinc 4 1, 3, 0, 0), (150, .goto (-37), 3, 0, 0), (153, .aload_n 0, 1, 0, 0), (154, .dup, 1, 0, 0), (155, .getfield 528, 3, 12, 70), (158, .iconst 1, 1, 0, 0), (159, .iadd, 1, 0, 0), (160, .putfield 528, 3, 12, 70), (163, .aload_n 0, 1, 0, 0), (164, .dup, 1, 0, 0), (165, .getfield 531, 3, 12, 71), (168, .aload_n 0, 1, 0, 0), (169, .getfield 451, 3, 12, 68), (172, .iadd, 1, 0, 0), (173, .putfield 531, 3, 12, 71), (176, .aload_n 0, 1, 0, 0), (177, .dup, 1, 0, 0), (178, .getfield 534, 3, 12, 72), (181, .aload_n 0, 1, 0, 0), (182, .getfield 466, 3, 12, 63), (185, .iadd, 1, 0, 0), (186, .putfield 534, 3, 12, 72), (189, .aload_n 0, 1, 0, 0), (190, .getfield 466, 3, 12, 63), (193, .ireturn, 1, 0, 0)]
def E_m276 : E_MI := (12, ⟨E_R12, "search", "(Z)I"⟩, prog_14_method_104_code, 5, (Option.some FieldType.int), false, 1, E_c276)
def E_c277 : List E_C := [(0, .iload_n 1, 1, 0, 0), (1, .ifCond .ne 10, 3, 0, 0), (4, .aload_n 0, 1, 0, 0), (5, .getfield 506, 3, 12, 20), (8, .goto 16, 3, 0, 0), (11, .iload_n 1, 1, 0, 0), (12, .iconst 1, 1, 0, 0), (13, .if_icmp .ne 10, 3, 0, 0), (16, .aload_n 0, 1, 0, 0), (17, .getfield 41, 3, 12, 21), (20, .goto 4, 3, 0, 0), (23, .iconst (-1), 1, 0, 0), (24, .ireturn, 1, 0, 0)]
def E_m277 : E_MI := (12, ⟨E_R12, "fault", "(I)I"⟩, prog_14_method_105_code, 2, (Option.some FieldType.int), false, 1, E_c277)
def E_c278 : List E_C := [(0, .iload_n 1, 1, 0, 0), (1, .ifCond .lt 11, 3, 0, 0), (4, .iload_n 1, 1, 0, 0), (5, .aload_n 0, 1, 0, 0), (6, .getfield 466, 3, 12, 63), (9, .if_icmp .lt 5, 3, 0, 0), (12, .iconst (-1), 1, 0, 0), (13, .ireturn, 1, 0, 0), (14, .iload_n 2, 1, 0, 0), (15, .tableswitch 57 0 3 #[29, 36, 43, 50], 29, 0, 0), (44, .aload_n 0, 1, 0, 0), (45, .getfield 147, 3, 12, 64), (48, .iload_n 1, 1, 0, 0), (49, .iaload, 1, 0, 0), (50, .ireturn, 1, 0, 0), (51, .aload_n 0, 1, 0, 0), (52, .getfield 150, 3, 12, 65), (55, .iload_n 1, 1, 0, 0), (56, .iaload, 1, 0, 0), (57, .ireturn, 1, 0, 0), (58, .aload_n 0, 1, 0, 0), (59, .getfield 153, 3, 12, 66), (62, .iload_n 1, 1, 0, 0), (63, .iaload, 1, 0, 0), (64, .ireturn, 1, 0, 0), (65, .aload_n 0, 1, 0, 0), (66, .getfield 156, 3, 12, 67), (69, .iload_n 1, 1, 0, 0), (70, .iaload, 1, 0, 0), (71, .ireturn, 1, 0, 0), (72, .iconst (-1), 1, 0, 0), (73, .ireturn, 1, 0, 0)]
def E_m278 : E_MI := (12, ⟨E_R12, "hit", "(II)I"⟩, prog_14_method_106_code, 3, (Option.some FieldType.int), false, 2, E_c278)
def E_c279 : List E_C := [(0, .iload_n 1, 1, 0, 0), (1, .ifCond .lt 20, 3, 0, 0), (4, .iload_n 1, 1, 0, 0), (5, .aload_n 0, 1, 0, 0), (6, .getfield 451, 3, 12, 68), (9, .if_icmp .ge 12, 3, 0, 0), (12, .aload_n 0, 1, 0, 0), (13, .getfield 159, 3, 12, 69), (16, .iload_n 1, 1, 0, 0), (17, .iaload, 1, 0, 0), (18, .goto 4, 3, 0, 0), (21, .iconst (-1), 1, 0, 0), (22, .ireturn, 1, 0, 0)]
def E_m279 : E_MI := (12, ⟨E_R12, "opened", "(I)I"⟩, prog_14_method_107_code, 2, (Option.some FieldType.int), false, 1, E_c279)
def E_c280 : List E_C := [(0, .aload_n 0, 1, 0, 0), (1, .getfield 528, 3, 12, 70), (4, .ifCond .ne 5, 3, 0, 0), (7, .iconst (-1), 1, 0, 0), (8, .ireturn, 1, 0, 0), (9, .iload_n 1, 1, 0, 0), (10, .iconst (-1), 1, 0, 0), (11, .if_icmp .ne 8, 3, 0, 0), (14, .aload_n 0, 1, 0, 0), (15, .getfield 473, 3, 12, 56), (18, .ireturn, 1, 0, 0), (19, .iload_n 1, 1, 0, 0), (20, .ifCond .lt 20, 3, 0, 0), (23, .iload_n 1, 1, 0, 0), (24, .aload_n 0, 1, 0, 0), (25, .getfield 473, 3, 12, 56), (28, .if_icmp .ge 12, 3, 0, 0), (31, .aload_n 0, 1, 0, 0), (32, .getfield 132, 3, 12, 57), (35, .iload_n 1, 1, 0, 0), (36, .iaload, 1, 0, 0), (37, .goto 4, 3, 0, 0), (40, .iconst (-1), 1, 0, 0), (41, .ireturn, 1, 0, 0)]
def E_m280 : E_MI := (12, ⟨E_R12, "choice", "(I)I"⟩, prog_14_method_108_code, 2, (Option.some FieldType.int), false, 1, E_c280)
def E_c281 : List E_C := [(0, .aload_n 0, 1, 0, 0), (1, .getfield 528, 3, 12, 70), (4, .ifCond .le 44, 3, 0, 0), (7, .iload_n 1, 1, 0, 0), (8, .ifCond .lt 40, 3, 0, 0), (11, .iload_n 1, 1, 0, 0), (12, .aload_n 0, 1, 0, 0), (13, .getfield 473, 3, 12, 56), (16, .if_icmp .ge 32, 3, 0, 0), (19, .iload_n 2, 1, 0, 0), (20, .ifCond .lt 28, 3, 0, 0), (23, .iload_n 2, 1, 0, 0), (24, .aload_n 0, 1, 0, 0), (25, .getfield 132, 3, 12, 57), (28, .iload_n 1, 1, 0, 0), (29, .iaload, 1, 0, 0), (30, .if_icmp .ge 18, 3, 0, 0), (33, .aload_n 0, 1, 0, 0), (34, .getfield 135, 3, 12, 58), (37, .sipush 640, 3, 0, 0), (40, .iload_n 1, 1, 0, 0), (41, .imul, 1, 0, 0), (42, .iload_n 2, 1, 0, 0), (43, .iadd, 1, 0, 0), (44, .iaload, 1, 0, 0), (45, .goto 4, 3, 0, 0), (48, .iconst (-1), 1, 0, 0), (49, .ireturn, 1, 0, 0)]
def E_m281 : E_MI := (12, ⟨E_R12, "gram", "(II)I"⟩, prog_14_method_109_code, 3, (Option.some FieldType.int), false, 2, E_c281)
def E_c282 : List E_C := [(0, .aload_n 0, 1, 0, 0), (1, .getfield 528, 3, 12, 70), (4, .ifCond .le 21, 3, 0, 0), (7, .iload_n 1, 1, 0, 0), (8, .ifCond .lt 17, 3, 0, 0), (11, .iload_n 1, 1, 0, 0), (12, .iconst 3, 1, 0, 0), (13, .if_icmp .ge 12, 3, 0, 0), (16, .aload_n 0, 1, 0, 0), (17, .getfield 138, 3, 12, 60), (20, .iload_n 1, 1, 0, 0), (21, .iaload, 1, 0, 0), (22, .goto 4, 3, 0, 0), (25, .iconst (-1), 1, 0, 0), (26, .ireturn, 1, 0, 0)]
def E_m282 : E_MI := (12, ⟨E_R12, "texts", "(I)I"⟩, prog_14_method_110_code, 2, (Option.some FieldType.int), false, 1, E_c282)
def E_c283 : List E_C := [(0, .aload_n 0, 1, 0, 0), (1, .getfield 528, 3, 12, 70), (4, .ifCond .eq 26, 3, 0, 0), (7, .iload_n 1, 1, 0, 0), (8, .ifCond .lt 22, 3, 0, 0), (11, .iload_n 1, 1, 0, 0), (12, .iconst 2, 1, 0, 0), (13, .if_icmp .gt 17, 3, 0, 0), (16, .iload_n 2, 1, 0, 0), (17, .ifCond .lt 13, 3, 0, 0), (20, .iload_n 2, 1, 0, 0), (21, .aload_n 0, 1, 0, 0), (22, .getfield 138, 3, 12, 60), (25, .iload_n 1, 1, 0, 0), (26, .iaload, 1, 0, 0), (27, .if_icmp .lt 5, 3, 0, 0), (30, .iconst (-1), 1, 0, 0), (31, .ireturn, 1, 0, 0), (32, .iload_n 3, 1, 0, 0), (33, .ifCond .lt 37, 3, 0, 0), (36, .iload_n 3, 1, 0, 0), (37, .aload_n 0, 1, 0, 0), (38, .getfield 141, 3, 12, 61), (41, .bipush 12, 2, 0, 0), (43, .iload_n 1, 1, 0, 0), (44, .imul, 1, 0, 0), (45, .iload_n 2, 1, 0, 0), (46, .iadd, 1, 0, 0), (47, .iaload, 1, 0, 0), (48, .if_icmp .ge 22, 3, 0, 0), (51, .aload_n 0, 1, 0, 0), (52, .getfield 144, 3, 12, 62), (55, .bipush 60, 2, 0, 0), (57, .bipush 12, 2, 0, 0), (59, .iload_n 1, 1, 0, 0), (60, .imul, 1, 0, 0), (61, .iload_n 2, 1, 0, 0), (62, .iadd, 1, 0, 0), (63, .imul, 1, 0, 0), (64, .iload_n 3, 1, 0, 0), (65, .iadd, 1, 0, 0), (66, .iaload, 1, 0, 0), (67, .goto 4, 3, 0, 0), (70, .iconst (-1), 1, 0, 0), (71, .ireturn, 1, 0, 0)]
def E_m283 : E_MI := (12, ⟨E_R12, "text", "(III)I"⟩, prog_14_method_111_code, 4, (Option.some FieldType.int), false, 3, E_c283)
def E_c284 : List E_C := [(0, .iload_n 1, 1, 0, 0), (1, .tableswitch 108 0 9 #[55, 60, 65, 70, 76, 82, 87, 92, 97, 102], 55, 0, 0), (56, .aload_n 0, 1, 0, 0), (57, .getfield 171, 3, 12, 7), (60, .ireturn, 1, 0, 0), (61, .aload_n 0, 1, 0, 0), (62, .getfield 168, 3, 12, 3), (65, .ireturn, 1, 0, 0), (66, .aload_n 0, 1, 0, 0), (67, .getfield 165, 3, 12, 8), (70, .ireturn, 1, 0, 0), (71, .aload_n 0, 1, 0, 0), (72, .iconst 0, 1, 0, 0), (73, .invokevirtual 537, 3, 285, 0), (76, .ireturn, 1, 0, 0), (77, .aload_n 0, 1, 0, 0), (78, .iconst 1, 1, 0, 0), (79, .invokevirtual 537, 3, 285, 0), (82, .ireturn, 1, 0, 0), (83, .aload_n 0, 1, 0, 0), (84, .getfield 162, 3, 12, 1), (87, .ireturn, 1, 0, 0), (88, .aload_n 0, 1, 0, 0), (89, .getfield 528, 3, 12, 70), (92, .ireturn, 1, 0, 0), (93, .aload_n 0, 1, 0, 0), (94, .getfield 531, 3, 12, 71), (97, .ireturn, 1, 0, 0), (98, .aload_n 0, 1, 0, 0), (99, .getfield 534, 3, 12, 72), (102, .ireturn, 1, 0, 0), (103, .aload_n 0, 1, 0, 0), (104, .getfield 509, 3, 12, 73), (107, .l2i, 1, 0, 0), (108, .ireturn, 1, 0, 0), (109, .iconst (-1), 1, 0, 0), (110, .ireturn, 1, 0, 0)]
def E_m284 : E_MI := (12, ⟨E_R12, "count", "(I)I"⟩, prog_14_method_112_code, 2, (Option.some FieldType.int), false, 1, E_c284)
def E_c285 : List E_C := [(0, .iconst 0, 1, 0, 0), (1, .istore_n 2, 1, 0, 0), (2, .iconst 0, 1, 0, 0), (3, .istore_n 3, 1, 0, 0), (4, .iconst 0, 1, 0, 0), (5, .istore 4, 2, 0, 0), (7, .iload 4, 2, 0, 0), (9, .aload_n 0, 1, 0, 0), (10, .getfield 165, 3, 12, 8), (13, .if_icmp .ge 51, 3, 0, 0), (16, .aload_n 0, 1, 0, 0), (17, .getfield 22, 3, 12, 6), (20, .iload 4, 2, 0, 0), (22, .baload, 1, 0, 0), (23, .ifCond .ne 6, 3, 0, 0), (26, .goto 32, 3, 0, 0), (29, .iload_n 1, 1, 0, 0), (30, .ifCond .eq 20, 3, 0, 0), (33, .iload_n 3, 1, 0, 0), (34, .aload_n 0, 1, 0, 0), (35, .aload_n 0, 1, 0, 0), (36, .iload 4, 2, 0, 0), (38, .iconst 0, 1, 0, 0), (39, .invokevirtual 469, 3, 188, 0), (42, .invokevirtual 339, 3, 187, 0), (45, .iadd, 1, 0, 0), (46, .istore_n 3, 1, 0, 0), (47, .goto 11, 3, 0, 0), (50, .aload_n 0, 1, 0, 0), (51, .iload 4, 2, 0, 0), (53, .iload_n 2, 1, 0, 0), (54, .invokevirtual 469, 3, 188, 0), (57, .istore_n 2, 1, 0, 0), (58, .iinc 4 1, 3, 0, 0), (61, .goto (-54), 3, 0, 0), (64, .iload_n 1, 1, 0, 0), (65, .ifCond .eq 7, 3, 0, 0), (68, .iload_n 3, 1, 0, 0), (69, .goto 8, 3, 0, 0), (72, .aload_n 0, 1, 0, 0), (73, .iload_n 2, 1, 0, 0), (74, .invokevirtual 339, 3, 187, 0), (77, .ireturn, 1, 0, 0)]
def E_m285 : E_MI := (12, ⟨E_R12, "gramsOf", "(Z)I"⟩, prog_14_method_113_code, 5, (Option.some FieldType.int), false, 1, E_c285)
def E_c286 : List E_C := [(0, .iload_n 0, 1, 0, 0), (1, .iconst (-1), 1, 0, 0), (2, .ixor, 1, 0, 0), (3, .iload_n 0, 1, 0, 0), (4, .iconst 1, 1, 0, 0), (5, .isub, 1, 0, 0), (6, .iand, 1, 0, 0), (7, .istore_n 0, 1, 0, 0), (8, .iload_n 0, 1, 0, 0), (9, .ifCond .gt 8, 3, 0, 0), (12, .iload_n 0, 1, 0, 0), (13, .bipush 32, 2, 0, 0), (15, .iand, 1, 0, 0), (16, .ireturn, 1, 0, 0), (17, .iconst 1, 1, 0, 0), (18, .istore_n 1, 1, 0, 0), (19, .iload_n 0, 1, 0, 0), (20, .ldc_w 264, 3, 0, 0), (23, .if_icmp .le 11, 3, 0, 0), (26, .iinc 1 16, 3, 0, 0), (29, .iload_n 0, 1, 0, 0), (30, .bipush 16, 2, 0, 0), (32, .iushr, 1, 0, 0), (33, .istore_n 0, 1, 0, 0), (34, .iload_n 0, 1, 0, 0), (35, .sipush 256, 3, 0, 0), (38, .if_icmp .le 11, 3, 0, 0), (41, .iinc 1 8, 3, 0, 0), (44, .iload_n 0, 1, 0, 0), (45, .bipush 8, 2, 0, 0), (47, .iushr, 1, 0, 0), (48, .istore_n 0, 1, 0, 0), (49, .iload_n 0, 1, 0, 0), (50, .bipush 16, 2, 0, 0), (52, .if_icmp .le 10, 3, 0, 0), (55, .iinc 1 4, 3, 0, 0), (58, .iload_n 0, 1, 0, 0), (59, .iconst 4, 1, 0, 0), (60, .iushr, 1, 0, 0), (61, .istore_n 0, 1, 0, 0), (62, .iload_n 0, 1, 0, 0), (63, .iconst 4, 1, 0, 0), (64, .if_icmp .le 10, 3, 0, 0), (67, .iinc 1 2, 3, 0, 0), (70, .iload_n 0, 1, 0, 0), (71, .iconst 2, 1, 0, 0), (72, .iushr, 1, 0, 0), (73, .istore_n 0, 1, 0, 0), (74, .iload_n 1, 1, 0, 0), (75, .iload_n 0, 1, 0, 0), (76, .iconst 1, 1, 0, 0), (77, .iushr, 1, 0, 0), (78, .iadd, 1, 0, 0), (79, .ireturn, 1, 0, 0)]
def E_m286 : E_MI := (13, ⟨E_R13, "numberOfTrailingZeros", "(I)I"⟩, prog_16_method_48_code, 2, (Option.some FieldType.int), true, 1, E_c286)
def E_c287 : List E_C := [(0, .lload_n 0, 1, 0, 0), (1, .l2i, 1, 0, 0), (2, .istore_n 2, 1, 0, 0), (3, .iload_n 2, 1, 0, 0), (4, .ifCond .ne 17, 3, 0, 0), (7, .bipush 32, 2, 0, 0), (9, .lload_n 0, 1, 0, 0), (10, .bipush 32, 2, 0, 0), (12, .lushr, 1, 0, 0), (13, .l2i, 1, 0, 0), (14, .invokestatic 311, 3, 286, 0), (17, .iadd, 1, 0, 0), (18, .goto 7, 3, 0, 0), (21, .iload_n 2, 1, 0, 0), (22, .invokestatic 311, 3, 286, 0), (25, .ireturn, 1, 0, 0)]
def E_m287 : E_MI := (14, ⟨E_R14, "numberOfTrailingZeros", "(J)I"⟩, prog_17_method_49_code, 3, (Option.some FieldType.int), true, 1, E_c287)
def E_c288 : List E_C := [(0, .iload_n 0, 1, 0, 0), (1, .iload_n 1, 1, 0, 0), (2, .if_icmp .lt 7, 3, 0, 0), (5, .iload_n 0, 1, 0, 0), (6, .goto 4, 3, 0, 0), (9, .iload_n 1, 1, 0, 0), (10, .ireturn, 1, 0, 0)]
def E_m288 : E_MI := (15, ⟨E_R15, "max", "(II)I"⟩, prog_18_method_65_code, 2, (Option.some FieldType.int), true, 2, E_c288)
def E_c289 : List E_C := [(0, .iload_n 0, 1, 0, 0), (1, .iload_n 1, 1, 0, 0), (2, .if_icmp .gt 7, 3, 0, 0), (5, .iload_n 0, 1, 0, 0), (6, .goto 4, 3, 0, 0), (9, .iload_n 1, 1, 0, 0), (10, .ireturn, 1, 0, 0)]
def E_m289 : E_MI := (15, ⟨E_R15, "min", "(II)I"⟩, prog_18_method_69_code, 2, (Option.some FieldType.int), true, 2, E_c289)
def E_c290 : List E_C := [(0, .iload_n 1, 1, 0, 0), (1, .iload_n 2, 1, 0, 0), (2, .if_icmp .le 44, 3, 0, 0), (5, .new 43, 3, 900, 0), (8, .dup, 1, 0, 0), (9, .new 45, 3, 900, 0), (12, .dup, 1, 0, 0), (13, .invokespecial 47, 3, 900, 0), (16, .ldc 48, 2, 0, 0), (18, .invokevirtual 50, 3, 900, 0), (21, .iload_n 1, 1, 0, 0), (22, .invokevirtual 54, 3, 900, 0), (25, .ldc 57, 2, 0, 0), (27, .invokevirtual 50, 3, 900, 0), (30, .iload_n 2, 1, 0, 0), (31, .invokevirtual 54, 3, 900, 0), (34, .ldc 59, 2, 0, 0), (36, .invokevirtual 50, 3, 900, 0), (39, .invokevirtual 61, 3, 900, 0), (42, .invokespecial 65, 3, 900, 0), (45, .athrow, 1, 0, 0), (46, .iload_n 1, 1, 0, 0), (47, .ifCond .ge 12, 3, 0, 0), (50, .new 68, 3, 900, 0), (53, .dup, 1, 0, 0), (54, .iload_n 1, 1, 0, 0), (55, .invokespecial 70, 3, 900, 0), (58, .athrow, 1, 0, 0), (59, .iload_n 2, 1, 0, 0), (60, .iload_n 0, 1, 0, 0), (61, .if_icmp .le 12, 3, 0, 0), (64, .new 68, 3, 900, 0), (67, .dup, 1, 0, 0), (68, .iload_n 2, 1, 0, 0), (69, .invokespecial 70, 3, 900, 0), (72, .athrow, 1, 0, 0), (73, .return_, 1, 0, 0)]
def E_m290 : E_MI := (16, ⟨E_R16, "rangeCheck", "(III)V"⟩, prog_20_method_30_code, 3, (Option.none : Option FieldType), true, 3, E_c290)
def E_c291 : List E_C := [(0, .aload_n 0, 1, 0, 0), (1, .arraylength, 1, 0, 0), (2, .iload_n 1, 1, 0, 0), (3, .iload_n 2, 1, 0, 0), (4, .invokestatic 13, 3, 290, 0), (7, .iload_n 1, 1, 0, 0), (8, .istore 5, 2, 0, 0), (10, .iload 5, 2, 0, 0), (12, .iload_n 2, 1, 0, 0), (13, .if_icmp .ge 14, 3, 0, 0), (16, .aload_n 0, 1, 0, 0), (17, .iload 5, 2, 0, 0), (19, .lload_n 3, 1, 0, 0), (20, .lastore, 1, 0, 0), (21, .iinc 5 1, 3, 0, 0), (24, .goto (-14), 3, 0, 0), (27, .return_, 1, 0, 0)]
def E_m291 : E_MI := (16, ⟨E_R16, "fill", "([JIIJ)V"⟩, prog_20_method_102_code, 6, (Option.none : Option FieldType), true, 4, E_c291)
def E_c292 : List E_C := [(0, .iconst 0, 1, 0, 0), (1, .istore_n 2, 1, 0, 0), (2, .aload_n 0, 1, 0, 0), (3, .arraylength, 1, 0, 0), (4, .istore_n 3, 1, 0, 0), (5, .iload_n 2, 1, 0, 0), (6, .iload_n 3, 1, 0, 0), (7, .if_icmp .ge 13, 3, 0, 0), (10, .aload_n 0, 1, 0, 0), (11, .iload_n 2, 1, 0, 0), (12, .iload_n 1, 1, 0, 0), (13, .iastore, 1, 0, 0), (14, .iinc 2 1, 3, 0, 0), (17, .goto (-12), 3, 0, 0), (20, .return_, 1, 0, 0)]
def E_m292 : E_MI := (16, ⟨E_R16, "fill", "([II)V"⟩, prog_20_method_103_code, 4, (Option.none : Option FieldType), true, 2, E_c292)
def E_c293 : List E_C := [(0, .iload_n 1, 1, 0, 0), (1, .aload_n 0, 1, 0, 0), (2, .arraylength, 1, 0, 0), (3, .if_icmp .ne 11, 3, 0, 0), (6, .aload_n 0, 1, 0, 0), (7, .invokevirtual 310, 3, 997, 0), (10, .checkcast 311, 3, 0, 0), (13, .areturn, 1, 0, 0), (14, .iload_n 1, 1, 0, 0), (15, .newarray .byte, 2, 1, 0), (17, .astore_n 2, 1, 0, 0), (18, .aload_n 0, 1, 0, 0), (19, .iconst 0, 1, 0, 0), (20, .aload_n 2, 1, 0, 0), (21, .iconst 0, 1, 0, 0), (22, .aload_n 0, 1, 0, 0), (23, .arraylength, 1, 0, 0), (24, .iload_n 1, 1, 0, 0), (25, .invokestatic 304, 3, 289, 0), (28, .invokestatic 150, 3, 998, 0), (31, .aload_n 2, 1, 0, 0), (32, .areturn, 1, 0, 0)]
def E_m293 : E_MI := (16, ⟨E_R16, "copyOf", "([BI)[B"⟩, prog_20_method_121_code, 3, (Option.some (FieldType.array FieldType.byte)), true, 2, E_c293)
def E_c294 : List E_C := [(0, .iload_n 1, 1, 0, 0), (1, .aload_n 0, 1, 0, 0), (2, .arraylength, 1, 0, 0), (3, .if_icmp .ne 11, 3, 0, 0), (6, .aload_n 0, 1, 0, 0), (7, .invokevirtual 316, 3, 996, 0), (10, .checkcast 317, 3, 0, 0), (13, .areturn, 1, 0, 0), (14, .iload_n 1, 1, 0, 0), (15, .newarray .int, 2, 0, 0), (17, .astore_n 2, 1, 0, 0), (18, .aload_n 0, 1, 0, 0), (19, .iconst 0, 1, 0, 0), (20, .aload_n 2, 1, 0, 0), (21, .iconst 0, 1, 0, 0), (22, .aload_n 0, 1, 0, 0), (23, .arraylength, 1, 0, 0), (24, .iload_n 1, 1, 0, 0), (25, .invokestatic 304, 3, 289, 0), (28, .invokestatic 150, 3, 998, 0), (31, .aload_n 2, 1, 0, 0), (32, .areturn, 1, 0, 0)]
def E_m294 : E_MI := (16, ⟨E_R16, "copyOf", "([II)[I"⟩, prog_20_method_123_code, 3, (Option.some (FieldType.array FieldType.int)), true, 2, E_c294)
def E_M : List E_MI := [E_m0, E_m1, E_m2, E_m3, E_m4, E_m5, E_m6, E_m7, E_m8, E_m9, E_m10, E_m11, E_m12, E_m13, E_m14, E_m15, E_m16, E_m17, E_m18, E_m19, E_m20, E_m21, E_m22, E_m23, E_m24, E_m25, E_m26, E_m27, E_m28, E_m29, E_m30, E_m31, E_m32, E_m33, E_m34, E_m35, E_m36, E_m37, E_m38, E_m39, E_m40, E_m41, E_m42, E_m43, E_m44, E_m45, E_m46, E_m47, E_m48, E_m49, E_m50, E_m51, E_m52, E_m53, E_m54, E_m55, E_m56, E_m57, E_m58, E_m59, E_m60, E_m61, E_m62, E_m63, E_m64, E_m65, E_m66, E_m67, E_m68, E_m69, E_m70, E_m71, E_m72, E_m73, E_m74, E_m75, E_m76, E_m77, E_m78, E_m79, E_m80, E_m81, E_m82, E_m83, E_m84, E_m85, E_m86, E_m87, E_m88, E_m89, E_m90, E_m91, E_m92, E_m93, E_m94, E_m95, E_m96, E_m97, E_m98, E_m99, E_m100, E_m101, E_m102, E_m103, E_m104, E_m105, E_m106, E_m107, E_m108, E_m109, E_m110, E_m111, E_m112, E_m113, E_m114, E_m115, E_m116, E_m117, E_m118, E_m119, E_m120, E_m121, E_m122, E_m123, E_m124, E_m125, E_m126, E_m127, E_m128, E_m129, E_m130, E_m131, E_m132, E_m133, E_m134, E_m135, E_m136, E_m137, E_m138, E_m139, E_m140, E_m141, E_m142, E_m143, E_m144, E_m145, E_m146, E_m147, E_m148, E_m149, E_m150, E_m151, E_m152, E_m153, E_m154, E_m155, E_m156, E_m157, E_m158, E_m159, E_m160, E_m161, E_m162, E_m163, E_m164, E_m165, E_m166, E_m167, E_m168, E_m169, E_m170, E_m171, E_m172, E_m173, E_m174, E_m175, E_m176, E_m177, E_m178, E_m179, E_m180, E_m181, E_m182, E_m183, E_m184, E_m185, E_m186, E_m187, E_m188, E_m189, E_m190, E_m191, E_m192, E_m193, E_m194, E_m195, E_m196, E_m197, E_m198, E_m199, E_m200, E_m201, E_m202, E_m203, E_m204, E_m205, E_m206, E_m207, E_m208, E_m209, E_m210, E_m211, E_m212, E_m213, E_m214, E_m215, E_m216, E_m217, E_m218, E_m219, E_m220, E_m221, E_m222, E_m223, E_m224, E_m225, E_m226, E_m227, E_m228, E_m229, E_m230, E_m231, E_m232, E_m233, E_m234, E_m235, E_m236, E_m237, E_m238, E_m239, E_m240, E_m241, E_m242, E_m243, E_m244, E_m245, E_m246, E_m247, E_m248, E_m249, E_m250, E_m251, E_m252, E_m253, E_m254, E_m255, E_m256, E_m257, E_m258, E_m259, E_m260, E_m261, E_m262, E_m263, E_m264, E_m265, E_m266, E_m267, E_m268, E_m269, E_m270, E_m271, E_m272, E_m273, E_m274, E_m275, E_m276, E_m277, E_m278, E_m279, E_m280, E_m281, E_m282, E_m283, E_m284, E_m285, E_m286, E_m287, E_m288, E_m289, E_m290, E_m291, E_m292, E_m293, E_m294]
end
section
theorem E_inGT (ws : List Cond) (ps : List Nat) (hp : ws.map some = ps.map (fun i => lw_tbl[i]?)) (h : ws.all goodWord = true) : ∀ w ∈ ws, w ∈ E_GT := by
  intro w hw
  have h1 := List.all_eq_true.mp h w hw
  have hs : some w ∈ ws.map some := List.mem_map.mpr ⟨w, hw, rfl⟩
  rw [hp] at hs
  obtain ⟨i, -, hi⟩ := List.mem_map.mp hs
  exact List.mem_filter.mpr ⟨List.mem_of_getElem? hi, h1⟩
theorem E_inT (ws : List Cond) (ps : List Nat) (hp : ws.map some = ps.map (fun i => lw_tbl[i]?)) : ∀ w ∈ ws, w ∈ lw_tbl := by
  intro w hw
  have hs : some w ∈ ws.map some := List.mem_map.mpr ⟨w, hw, rfl⟩
  rw [hp] at hs
  obtain ⟨i, -, hi⟩ := List.mem_map.mp hs
  exact List.mem_of_getElem? hi
def E_cn (i : Nat) : String := E_CN.getD i ""
def E_y (mi : Nat) : MethodName := match E_M[mi]? with
  | some M => M.2.1
  | none => ⟨"", "", ""⟩
def E_FLw (q : Nat × Nat × Nat × Nat) : Cond := match E_CL[q.2.2.1]? with
  | some (_, T, _) => .fieldLink (E_cn q.1) q.2.1 (T q.2.2.2).1 (T q.2.2.2).2.1 (T q.2.2.2).2.2.1
  | none => .initialized ""
def E_MLw (q : Nat × Nat × Nat) : Cond := .methodLink (E_cn q.1) q.2.1 (E_y q.2.2)
def E_MNw (q : Nat × Nat × Nat) : Cond := .methodLinkNest (E_cn q.1) q.2.1 (E_y q.2.2) "GramFinder"
theorem E_FL_ok : ∀ w ∈ E_FL.map E_FLw, w ∈ E_GT := E_inGT _ E_FLi (by decide +kernel) (by decide +kernel)
theorem E_ML_ok : ∀ w ∈ E_ML.map E_MLw, w ∈ E_GT := E_inGT _ E_MLi (by decide +kernel) (by decide +kernel)
theorem E_MN_ok : ∀ w ∈ E_MN.map E_MNw, w ∈ lw_tbl := E_inT _ E_MNi (by decide +kernel)
theorem E_OI_ok : ∀ w ∈ E_OI.map (fun q => Cond.methodLink (E_cn q.1) q.2 Lib.objectInit), w ∈ E_GT := E_inGT _ E_OIi (by decide +kernel) (by decide +kernel)
theorem E_AC_ok : ∀ w ∈ E_AC.map (fun q => Cond.methodLink (E_cn q.1) q.2 arraycopyName), w ∈ E_GT := E_inGT _ E_ACi (by decide +kernel) (by decide +kernel)
theorem E_KN_ok : ∀ w ∈ E_KN.map (fun q => Cond.classLink (E_cn q.1) q.2.1 q.2.2), w ∈ E_GT := E_inGT _ E_KNi (by decide +kernel) (by decide +kernel)
theorem E_KI_ok : ∀ w ∈ E_KI.map (fun q => Cond.constant (E_cn q.1) q.2.1 q.2.2), w ∈ E_GT := E_inGT _ E_KIi (by decide +kernel) (by decide +kernel)
theorem E_KL_ok : ∀ w ∈ E_KL.map (fun q => Cond.constantLong (E_cn q.1) q.2.1 q.2.2), w ∈ E_GT := E_inGT _ E_KLi (by decide +kernel) (by decide +kernel)
def E_has4 (t : List (Nat × Nat × Nat × Nat)) (a b c d : Nat) : Bool := t.any (fun q => q.1 == a && (q.2.1 == b && (q.2.2.1 == c && q.2.2.2 == d)))
def E_has3 (t : List (Nat × Nat × Nat)) (a b c : Nat) : Bool := t.any (fun q => q.1 == a && (q.2.1 == b && q.2.2 == c))
def E_has2 (t : List (Nat × Nat)) (a b : Nat) : Bool := t.any (fun q => q.1 == a && q.2 == b)
theorem E_has4_m {t : List (Nat × Nat × Nat × Nat)} {a b c d : Nat} (h : E_has4 t a b c d = true) : (a, b, c, d) ∈ t := by
  obtain ⟨q, hq, h1⟩ := List.any_eq_true.mp h
  simp only [Bool.and_eq_true, beq_iff_eq] at h1
  obtain ⟨e1, e2, e3, e4⟩ := h1
  subst e1; subst e2; subst e3; subst e4
  exact hq
theorem E_has3_m {t : List (Nat × Nat × Nat)} {a b c : Nat} (h : E_has3 t a b c = true) : (a, b, c) ∈ t := by
  obtain ⟨q, hq, h1⟩ := List.any_eq_true.mp h
  simp only [Bool.and_eq_true, beq_iff_eq] at h1
  obtain ⟨e1, e2, e3⟩ := h1
  subst e1; subst e2; subst e3
  exact hq
theorem E_has2_m {t : List (Nat × Nat)} {a b : Nat} (h : E_has2 t a b = true) : (a, b) ∈ t := by
  obtain ⟨q, hq, h1⟩ := List.any_eq_true.mp h
  simp only [Bool.and_eq_true, beq_iff_eq] at h1
  obtain ⟨e1, e2⟩ := h1
  subst e1; subst e2
  exact hq
/-- what a row of code must have in the tables -/
def E_rok (oc : Nat) (ins : Instr) (a b : Nat) : Bool := match ins with
  | .getfield i => E_has4 E_FL oc i a b
  | .putfield i => E_has4 E_FL oc i a b
  | .invokevirtual i => a == 900 || a == 997 || a == 996 || (bif b == 1 then E_has3 E_MN oc i a else E_has3 E_ML oc i a)
  | .invokestatic i => a == 900 || (bif a == 998 then E_has2 E_AC oc i else (bif b == 1 then E_has3 E_MN oc i a else E_has3 E_ML oc i a))
  | .invokespecial i => a == 900 || (bif a == 999 then E_has2 E_OI oc i else (bif b == 1 then E_has3 E_MN oc i a else E_has3 E_ML oc i a))
  | .new i => a == 900 || E_KN.any (fun q => q.1 == oc && (q.2.1 == i && decide (q.2.2 = E_cn a)))
  | .anewarray i => E_KN.any (fun q => q.1 == oc && (q.2.1 == i && decide (E_ATY[a]? = some (.object q.2.2))))
  | .newarray t => decide (E_ATY[a]? = some (newarray.typeOf t))
  | .multianewarray i _ => E_KN.any (fun q => q.1 == oc && (q.2.1 == i && decide (q.2.2 = "[[B")))
  | _ => true
def E_cok (oc : Nat) (bytes : ByteArray) (t : List E_C) : Bool := t.all (fun r => decide (decode bytes r.1 = .ok (r.2.1, r.2.2.1)) && E_rok oc r.2.1 r.2.2.2.1 r.2.2.2.2)
def E_mok (M : E_MI) (ix : Nat × Nat × Nat × Nat) : Bool := match M with
  | (oc, y, bytes, mx, ret, st, na, code) => E_cok oc bytes code && decide (lw_tbl[ix.1]? = some (.code y bytes mx ret)) && goodWord (.code y bytes mx ret) && decide (lw_tbl[ix.2.1]? = some (.initialized y.cls)) && goodWord (.initialized y.cls) &&
    (bif st then decide (lw_tbl[ix.2.2.1]? = some (.static y)) && goodWord (.static y) else decide (lw_tbl[ix.2.2.1]? = some (.instanceMethod y)) && goodWord (.instanceMethod y) && (decide (y.name = "<init>") || (decide (lw_tbl[ix.2.2.2]? = some (.selects y.cls y y)) && goodWord (.selects y.cls y y)))) &&
    decide (y.cls = E_cn oc) && plainName y.cls && decide (y.cls ≠ "java/lang/invoke/MethodHandle" ∧ y.cls ≠ "java/lang/invoke/VarHandle") && decide ((parseMethodDescriptor y.desc).map (fun d => d.parameters.length) = some na) && decide (mx ≤ 29)
theorem E_cn0 : ∀ a, a < 2 → ∀ b, b < 2 → a ≠ b → (E_T0 a).2.1 ≠ (E_T0 b).2.1 := by decide +kernel
theorem E_ct0 : ∀ k, k < 2 → parseFieldDescriptor (E_T0 k).2.2.1 = some (E_t0 k) := by decide +kernel
theorem E_cw0 : ∀ w ∈ u_ws E_R0 E_T0 2, w ∈ E_GT := E_inGT _ [572, 574] (by decide +kernel) (by decide +kernel)
theorem E_ci0 : Cond.instantiable E_R0 2 ∈ E_GT := E_inGT [_] [559] (by decide +kernel) (by decide +kernel) _ List.mem_cons_self
theorem E_cz0 : Cond.initialized E_R0 ∈ E_GT := E_inGT [_] [157] (by decide +kernel) (by decide +kernel) _ List.mem_cons_self
theorem E_cd0 : ∀ k, k < 2 → (E_T0 k).1 = E_R0 := by decide +kernel
theorem E_cn1 : ∀ a, a < 3 → ∀ b, b < 3 → a ≠ b → (E_T1 a).2.1 ≠ (E_T1 b).2.1 := by decide +kernel
theorem E_ct1 : ∀ k, k < 3 → parseFieldDescriptor (E_T1 k).2.2.1 = some (E_t1 k) := by decide +kernel
theorem E_cw1 : ∀ w ∈ u_ws E_R1 E_T1 3, w ∈ E_GT := E_inGT _ [318, 320, 322] (by decide +kernel) (by decide +kernel)
theorem E_ci1 : Cond.instantiable E_R1 3 ∈ E_GT := E_inGT [_] [303] (by decide +kernel) (by decide +kernel) _ List.mem_cons_self
theorem E_cz1 : Cond.initialized E_R1 ∈ E_GT := E_inGT [_] [150] (by decide +kernel) (by decide +kernel) _ List.mem_cons_self
theorem E_cd1 : ∀ k, k < 3 → (E_T1 k).1 = E_R1 := by decide +kernel
theorem E_cn2 : ∀ a, a < 17 → ∀ b, b < 17 → a ≠ b → (E_T2 a).2.1 ≠ (E_T2 b).2.1 := by decide +kernel
theorem E_ct2 : ∀ k, k < 17 → parseFieldDescriptor (E_T2 k).2.2.1 = some (E_t2 k) := by decide +kernel
theorem E_cw2 : ∀ w ∈ u_ws E_R2 E_T2 17, w ∈ E_GT := E_inGT _ [447, 449, 451, 453, 455, 457, 459, 461, 463, 465, 467, 469, 471, 473, 475, 477, 479] (by decide +kernel) (by decide +kernel)
theorem E_ci2 : Cond.instantiable E_R2 17 ∈ E_GT := E_inGT [_] [423] (by decide +kernel) (by decide +kernel) _ List.mem_cons_self
theorem E_cz2 : Cond.initialized E_R2 ∈ E_GT := E_inGT [_] [154] (by decide +kernel) (by decide +kernel) _ List.mem_cons_self
theorem E_cd2 : ∀ k, k < 17 → (E_T2 k).1 = E_R2 := by decide +kernel
theorem E_cn3 : ∀ a, a < 7 → ∀ b, b < 7 → a ≠ b → (E_T3 a).2.1 ≠ (E_T3 b).2.1 := by decide +kernel
theorem E_ct3 : ∀ k, k < 7 → parseFieldDescriptor (E_T3 k).2.2.1 = some (E_t3 k) := by decide +kernel
theorem E_cw3 : ∀ w ∈ u_ws E_R3 E_T3 7, w ∈ E_GT := E_inGT _ [279, 281, 283, 285, 287, 289, 291] (by decide +kernel) (by decide +kernel)
theorem E_ci3 : Cond.instantiable E_R3 7 ∈ E_GT := E_inGT [_] [220] (by decide +kernel) (by decide +kernel) _ List.mem_cons_self
theorem E_cz3 : Cond.initialized E_R3 ∈ E_GT := E_inGT [_] [147] (by decide +kernel) (by decide +kernel) _ List.mem_cons_self
theorem E_cd3 : ∀ k, k < 7 → (E_T3 k).1 = E_R3 := by decide +kernel
theorem E_cn4 : ∀ a, a < 6 → ∀ b, b < 6 → a ≠ b → (E_T4 a).2.1 ≠ (E_T4 b).2.1 := by decide +kernel
theorem E_ct4 : ∀ k, k < 6 → parseFieldDescriptor (E_T4 k).2.2.1 = some (E_t4 k) := by decide +kernel
theorem E_cw4 : ∀ w ∈ u_ws E_R4 E_T4 6, w ∈ E_GT := E_inGT _ [375, 377, 379, 381, 383, 385] (by decide +kernel) (by decide +kernel)
theorem E_ci4 : Cond.instantiable E_R4 6 ∈ E_GT := E_inGT [_] [347] (by decide +kernel) (by decide +kernel) _ List.mem_cons_self
theorem E_cz4 : Cond.initialized E_R4 ∈ E_GT := E_inGT [_] [153] (by decide +kernel) (by decide +kernel) _ List.mem_cons_self
theorem E_cd4 : ∀ k, k < 6 → (E_T4 k).1 = E_R4 := by decide +kernel
theorem E_cn5 : ∀ a, a < 11 → ∀ b, b < 11 → a ≠ b → (E_T5 a).2.1 ≠ (E_T5 b).2.1 := by decide +kernel
theorem E_ct5 : ∀ k, k < 11 → parseFieldDescriptor (E_T5 k).2.2.1 = some (E_t5 k) := by decide +kernel
theorem E_cw5 : ∀ w ∈ u_ws E_R5 E_T5 11, w ∈ E_GT := E_inGT _ [399, 401, 403, 405, 407, 409, 411, 413, 415, 417, 419] (by decide +kernel) (by decide +kernel)
theorem E_ci5 : Cond.instantiable E_R5 11 ∈ E_GT := E_inGT [_] [295] (by decide +kernel) (by decide +kernel) _ List.mem_cons_self
theorem E_cz5 : Cond.initialized E_R5 ∈ E_GT := E_inGT [_] [149] (by decide +kernel) (by decide +kernel) _ List.mem_cons_self
theorem E_cd5 : ∀ k, k < 11 → (E_T5 k).1 = E_R5 := by decide +kernel
theorem E_cn6 : ∀ a, a < 7 → ∀ b, b < 7 → a ≠ b → (E_T6 a).2.1 ≠ (E_T6 b).2.1 := by decide +kernel
theorem E_ct6 : ∀ k, k < 7 → parseFieldDescriptor (E_T6 k).2.2.1 = some (E_t6 k) := by decide +kernel
theorem E_cw6 : ∀ w ∈ u_ws E_R6 E_T6 7, w ∈ E_GT := E_inGT _ [502, 504, 506, 508, 510, 512, 514] (by decide +kernel) (by decide +kernel)
theorem E_ci6 : Cond.instantiable E_R6 7 ∈ E_GT := E_inGT [_] [483] (by decide +kernel) (by decide +kernel) _ List.mem_cons_self
theorem E_cz6 : Cond.initialized E_R6 ∈ E_GT := E_inGT [_] [155] (by decide +kernel) (by decide +kernel) _ List.mem_cons_self
theorem E_cd6 : ∀ k, k < 7 → (E_T6 k).1 = E_R6 := by decide +kernel
theorem E_cn7 : ∀ a, a < 2 → ∀ b, b < 2 → a ≠ b → (E_T7 a).2.1 ≠ (E_T7 b).2.1 := by decide +kernel
theorem E_ct7 : ∀ k, k < 2 → parseFieldDescriptor (E_T7 k).2.2.1 = some (E_t7 k) := by decide +kernel
theorem E_cw7 : ∀ w ∈ u_ws E_R7 E_T7 2, w ∈ E_GT := E_inGT _ [190, 192] (by decide +kernel) (by decide +kernel)
theorem E_ci7 : Cond.instantiable E_R7 2 ∈ E_GT := E_inGT [_] [179] (by decide +kernel) (by decide +kernel) _ List.mem_cons_self
theorem E_cz7 : Cond.initialized E_R7 ∈ E_GT := E_inGT [_] [146] (by decide +kernel) (by decide +kernel) _ List.mem_cons_self
theorem E_cd7 : ∀ k, k < 2 → (E_T7 k).1 = E_R7 := by decide +kernel
theorem E_cn8 : ∀ a, a < 6 → ∀ b, b < 6 → a ≠ b → (E_T8 a).2.1 ≠ (E_T8 b).2.1 := by decide +kernel
theorem E_ct8 : ∀ k, k < 6 → parseFieldDescriptor (E_T8 k).2.2.1 = some (E_t8 k) := by decide +kernel
theorem E_cw8 : ∀ w ∈ u_ws E_R8 E_T8 6, w ∈ E_GT := E_inGT _ [206, 208, 210, 212, 214, 216] (by decide +kernel) (by decide +kernel)
theorem E_ci8 : Cond.instantiable E_R8 6 ∈ E_GT := E_inGT [_] [171] (by decide +kernel) (by decide +kernel) _ List.mem_cons_self
theorem E_cz8 : Cond.initialized E_R8 ∈ E_GT := E_inGT [_] [145] (by decide +kernel) (by decide +kernel) _ List.mem_cons_self
theorem E_cd8 : ∀ k, k < 6 → (E_T8 k).1 = E_R8 := by decide +kernel
theorem E_cn9 : ∀ a, a < 3 → ∀ b, b < 3 → a ≠ b → (E_T9 a).2.1 ≠ (E_T9 b).2.1 := by decide +kernel
theorem E_ct9 : ∀ k, k < 3 → parseFieldDescriptor (E_T9 k).2.2.1 = some (E_t9 k) := by decide +kernel
theorem E_cw9 : ∀ w ∈ u_ws E_R9 E_T9 3, w ∈ E_GT := E_inGT _ [340, 342, 344] (by decide +kernel) (by decide +kernel)
theorem E_ci9 : Cond.instantiable E_R9 3 ∈ E_GT := E_inGT [_] [328] (by decide +kernel) (by decide +kernel) _ List.mem_cons_self
theorem E_cz9 : Cond.initialized E_R9 ∈ E_GT := E_inGT [_] [152] (by decide +kernel) (by decide +kernel) _ List.mem_cons_self
theorem E_cd9 : ∀ k, k < 3 → (E_T9 k).1 = E_R9 := by decide +kernel
theorem E_cn10 : ∀ a, a < 12 → ∀ b, b < 12 → a ≠ b → (E_T10 a).2.1 ≠ (E_T10 b).2.1 := by decide +kernel
theorem E_ct10 : ∀ k, k < 12 → parseFieldDescriptor (E_T10 k).2.2.1 = some (E_t10 k) := by decide +kernel
theorem E_cw10 : ∀ w ∈ u_ws E_R10 E_T10 12, w ∈ E_GT := E_inGT _ [243, 245, 247, 249, 251, 253, 255, 257, 259, 261, 263, 265] (by decide +kernel) (by decide +kernel)
theorem E_ci10 : Cond.instantiable E_R10 12 ∈ E_GT := E_inGT [_] [226] (by decide +kernel) (by decide +kernel) _ List.mem_cons_self
theorem E_cz10 : Cond.initialized E_R10 ∈ E_GT := E_inGT [_] [148] (by decide +kernel) (by decide +kernel) _ List.mem_cons_self
theorem E_cd10 : ∀ k, k < 12 → (E_T10 k).1 = E_R10 := by decide +kernel
theorem E_cn11 : ∀ a, a < 7 → ∀ b, b < 7 → a ≠ b → (E_T11 a).2.1 ≠ (E_T11 b).2.1 := by decide +kernel
theorem E_ct11 : ∀ k, k < 7 → parseFieldDescriptor (E_T11 k).2.2.1 = some (E_t11 k) := by decide +kernel
theorem E_cw11 : ∀ w ∈ u_ws E_R11 E_T11 7, w ∈ E_GT := E_inGT _ [524, 526, 528, 530, 532, 534, 536] (by decide +kernel) (by decide +kernel)
theorem E_ci11 : Cond.instantiable E_R11 7 ∈ E_GT := E_inGT [_] [163] (by decide +kernel) (by decide +kernel) _ List.mem_cons_self
theorem E_cz11 : Cond.initialized E_R11 ∈ E_GT := E_inGT [_] [144] (by decide +kernel) (by decide +kernel) _ List.mem_cons_self
theorem E_cd11 : ∀ k, k < 7 → (E_T11 k).1 = E_R11 := by decide +kernel
theorem E_cn12 : ∀ a, a < 74 → ∀ b, b < 74 → a ≠ b → (E_T12 a).2.1 ≠ (E_T12 b).2.1 := by decide +kernel
theorem E_ct12 : ∀ k, k < 74 → parseFieldDescriptor (E_T12 k).2.2.1 = some (E_t12 k) := by decide +kernel
theorem E_cw12 : ∀ w ∈ u_ws E_R12 E_T12 74, w ∈ E_GT := E_inGT _ [1382, 1384, 1386, 1388, 1390, 1392, 1394, 1396, 1398, 1400, 1402, 1404, 1406, 1408, 1410, 1412, 1414, 1416, 1418, 1420, 1422, 1424, 1426, 1428, 1430, 1432, 1434, 1436, 1438, 1440, 1442, 1444, 1446, 1448, 1450, 1452, 1454, 1456, 1458, 1460, 1462, 1464, 1466, 1468, 1470, 1472, 1474, 1476, 1478, 1480, 1482, 1484, 1486, 1488, 1490, 1492, 1494, 1496, 1498, 1500, 1502, 1504, 1506, 1508, 1510, 1512, 1514, 1516, 1518, 1520, 1522, 1524, 1526, 1528] (by decide +kernel) (by decide +kernel)
theorem E_ci12 : Cond.instantiable E_R12 74 ∈ E_GT := E_inGT [_] [1302] (by decide +kernel) (by decide +kernel) _ List.mem_cons_self
theorem E_cz12 : Cond.initialized E_R12 ∈ E_GT := E_inGT [_] [156] (by decide +kernel) (by decide +kernel) _ List.mem_cons_self
theorem E_cd12 : ∀ k, k < 74 → (E_T12 k).1 = E_R12 := by decide +kernel
end
section
theorem E_k0 : E_mok E_m0 (562, 157, 561, 0) = true := by decide +kernel
theorem E_k1 : E_mok E_m1 (580, 157, 578, 579) = true := by decide +kernel
theorem E_k2 : E_mok E_m2 (1241, 157, 1239, 1240) = true := by decide +kernel
theorem E_k3 : E_mok E_m3 (306, 150, 305, 0) = true := by decide +kernel
theorem E_k4 : E_mok E_m4 (981, 150, 979, 980) = true := by decide +kernel
theorem E_k5 : E_mok E_m5 (1004, 150, 1002, 1003) = true := by decide +kernel
theorem E_k6 : E_mok E_m6 (990, 150, 988, 989) = true := by decide +kernel
theorem E_k7 : E_mok E_m7 (1029, 150, 1027, 1028) = true := by decide +kernel
theorem E_k8 : E_mok E_m8 (1019, 150, 1017, 1018) = true := by decide +kernel
theorem E_k9 : E_mok E_m9 (1081, 150, 1079, 1080) = true := by decide +kernel
theorem E_k10 : E_mok E_m10 (1190, 150, 1188, 1189) = true := by decide +kernel
theorem E_k11 : E_mok E_m11 (1038, 150, 1036, 1037) = true := by decide +kernel
theorem E_k12 : E_mok E_m12 (1137, 150, 1135, 1136) = true := by decide +kernel
theorem E_k13 : E_mok E_m13 (1193, 150, 1192, 0) = true := by decide +kernel
theorem E_k14 : E_mok E_m14 (999, 150, 998, 32) = true := by decide +kernel
theorem E_k15 : E_mok E_m15 (1014, 150, 1013, 33) = true := by decide +kernel
theorem E_k16 : E_mok E_m16 (426, 154, 425, 0) = true := by decide +kernel
theorem E_k17 : E_mok E_m17 (1145, 154, 1143, 1144) = true := by decide +kernel
theorem E_k18 : E_mok E_m18 (1155, 154, 1154, 48) = true := by decide +kernel
theorem E_k19 : E_mok E_m19 (1161, 154, 1160, 49) = true := by decide +kernel
theorem E_k20 : E_mok E_m20 (1170, 154, 1169, 50) = true := by decide +kernel
theorem E_k21 : E_mok E_m21 (1174, 154, 1173, 51) = true := by decide +kernel
theorem E_k22 : E_mok E_m22 (1149, 154, 1148, 47) = true := by decide +kernel
theorem E_k23 : E_mok E_m23 (1202, 154, 1200, 1201) = true := by decide +kernel
theorem E_k24 : E_mok E_m24 (1209, 154, 1208, 52) = true := by decide +kernel
theorem E_k25 : E_mok E_m25 (1214, 154, 1213, 53) = true := by decide +kernel
theorem E_k26 : E_mok E_m26 (1218, 154, 1217, 54) = true := by decide +kernel
theorem E_k27 : E_mok E_m27 (1222, 154, 1221, 55) = true := by decide +kernel
theorem E_k28 : E_mok E_m28 (1226, 154, 1225, 56) = true := by decide +kernel
theorem E_k29 : E_mok E_m29 (1230, 154, 1229, 57) = true := by decide +kernel
theorem E_k30 : E_mok E_m30 (1236, 154, 1235, 58) = true := by decide +kernel
theorem E_k31 : E_mok E_m31 (223, 147, 222, 0) = true := by decide +kernel
theorem E_k32 : E_mok E_m32 (682, 147, 680, 681) = true := by decide +kernel
theorem E_k33 : E_mok E_m33 (690, 147, 689, 3) = true := by decide +kernel
theorem E_k34 : E_mok E_m34 (709, 147, 708, 6) = true := by decide +kernel
theorem E_k35 : E_mok E_m35 (694, 147, 693, 4) = true := by decide +kernel
theorem E_k36 : E_mok E_m36 (705, 147, 704, 5) = true := by decide +kernel
theorem E_k37 : E_mok E_m37 (714, 147, 713, 7) = true := by decide +kernel
theorem E_k38 : E_mok E_m38 (828, 147, 827, 17) = true := by decide +kernel
theorem E_k39 : E_mok E_m39 (836, 147, 835, 19) = true := by decide +kernel
theorem E_k40 : E_mok E_m40 (832, 147, 831, 18) = true := by decide +kernel
theorem E_k41 : E_mok E_m41 (718, 147, 717, 8) = true := by decide +kernel
theorem E_k42 : E_mok E_m42 (722, 147, 721, 9) = true := by decide +kernel
theorem E_k43 : E_mok E_m43 (806, 147, 805, 15) = true := by decide +kernel
theorem E_k44 : E_mok E_m44 (810, 147, 809, 16) = true := by decide +kernel
theorem E_k45 : E_mok E_m45 (801, 147, 800, 14) = true := by decide +kernel
theorem E_k46 : E_mok E_m46 (743, 147, 742, 0) = true := by decide +kernel
theorem E_k47 : E_mok E_m47 (771, 147, 770, 0) = true := by decide +kernel
theorem E_k48 : E_mok E_m48 (726, 147, 725, 10) = true := by decide +kernel
theorem E_k49 : E_mok E_m49 (740, 147, 739, 11) = true := by decide +kernel
theorem E_k50 : E_mok E_m50 (768, 147, 767, 13) = true := by decide +kernel
theorem E_k51 : E_mok E_m51 (350, 153, 349, 0) = true := by decide +kernel
theorem E_k52 : E_mok E_m52 (894, 153, 892, 893) = true := by decide +kernel
theorem E_k53 : E_mok E_m53 (1106, 153, 1104, 1105) = true := by decide +kernel
theorem E_k54 : E_mok E_m54 (298, 149, 297, 0) = true := by decide +kernel
theorem E_k55 : E_mok E_m55 (1133, 149, 1131, 1132) = true := by decide +kernel
theorem E_k56 : E_mok E_m56 (854, 149, 852, 853) = true := by decide +kernel
theorem E_k57 : E_mok E_m57 (930, 149, 929, 26) = true := by decide +kernel
theorem E_k58 : E_mok E_m58 (858, 149, 857, 20) = true := by decide +kernel
theorem E_k59 : E_mok E_m59 (1102, 149, 1101, 45) = true := by decide +kernel
theorem E_k60 : E_mok E_m60 (910, 149, 909, 24) = true := by decide +kernel
theorem E_k61 : E_mok E_m61 (918, 149, 917, 25) = true := by decide +kernel
theorem E_k62 : E_mok E_m62 (1046, 149, 1045, 35) = true := by decide +kernel
theorem E_k63 : E_mok E_m63 (1090, 149, 1089, 44) = true := by decide +kernel
theorem E_k64 : E_mok E_m64 (1118, 149, 1117, 46) = true := by decide +kernel
theorem E_k65 : E_mok E_m65 (1050, 149, 1049, 36) = true := by decide +kernel
theorem E_k66 : E_mok E_m66 (936, 149, 935, 27) = true := by decide +kernel
theorem E_k67 : E_mok E_m67 (1054, 149, 1053, 37) = true := by decide +kernel
theorem E_k68 : E_mok E_m68 (940, 149, 939, 28) = true := by decide +kernel
theorem E_k69 : E_mok E_m69 (946, 149, 945, 29) = true := by decide +kernel
theorem E_k70 : E_mok E_m70 (985, 149, 984, 31) = true := by decide +kernel
theorem E_k71 : E_mok E_m71 (972, 149, 971, 0) = true := by decide +kernel
theorem E_k72 : E_mok E_m72 (1069, 149, 1068, 0) = true := by decide +kernel
theorem E_k73 : E_mok E_m73 (1066, 149, 1065, 40) = true := by decide +kernel
theorem E_k74 : E_mok E_m74 (1073, 149, 1072, 41) = true := by decide +kernel
theorem E_k75 : E_mok E_m75 (956, 149, 955, 30) = true := by decide +kernel
theorem E_k76 : E_mok E_m76 (1058, 149, 1057, 38) = true := by decide +kernel
theorem E_k77 : E_mok E_m77 (1062, 149, 1061, 39) = true := by decide +kernel
theorem E_k78 : E_mok E_m78 (1034, 149, 1033, 34) = true := by decide +kernel
theorem E_k79 : E_mok E_m79 (1077, 149, 1076, 42) = true := by decide +kernel
theorem E_k80 : E_mok E_m80 (1086, 149, 1085, 43) = true := by decide +kernel
theorem E_k81 : E_mok E_m81 (486, 155, 485, 0) = true := by decide +kernel
theorem E_k82 : E_mok E_m82 (1184, 155, 1182, 1183) = true := by decide +kernel
theorem E_k83 : E_mok E_m83 (1197, 155, 1195, 1196) = true := by decide +kernel
theorem E_k84 : E_mok E_m84 (1245, 155, 1243, 1244) = true := by decide +kernel
theorem E_k85 : E_mok E_m85 (1266, 155, 1264, 1265) = true := by decide +kernel
theorem E_k86 : E_mok E_m86 (1257, 155, 1255, 1256) = true := by decide +kernel
theorem E_k87 : E_mok E_m87 (182, 146, 181, 0) = true := by decide +kernel
theorem E_k88 : E_mok E_m88 (618, 146, 616, 617) = true := by decide +kernel
theorem E_k89 : E_mok E_m89 (600, 146, 598, 599) = true := by decide +kernel
theorem E_k90 : E_mok E_m90 (965, 146, 963, 964) = true := by decide +kernel
theorem E_k91 : E_mok E_m91 (610, 146, 608, 609) = true := by decide +kernel
theorem E_k92 : E_mok E_m92 (674, 146, 672, 673) = true := by decide +kernel
theorem E_k93 : E_mok E_m93 (969, 146, 967, 968) = true := by decide +kernel
theorem E_k94 : E_mok E_m94 (1023, 146, 1021, 1022) = true := by decide +kernel
end
section
theorem E_k95 : E_mok E_m95 (1010, 146, 1008, 1009) = true := by decide +kernel
theorem E_k96 : E_mok E_m96 (1141, 146, 1139, 1140) = true := by decide +kernel
theorem E_k97 : E_mok E_m97 (994, 146, 992, 993) = true := by decide +kernel
theorem E_k98 : E_mok E_m98 (614, 146, 613, 1) = true := by decide +kernel
theorem E_k99 : E_mok E_m99 (622, 146, 621, 2) = true := by decide +kernel
theorem E_k100 : E_mok E_m100 (174, 145, 173, 0) = true := by decide +kernel
theorem E_k101 : E_mok E_m101 (644, 145, 642, 643) = true := by decide +kernel
theorem E_k102 : E_mok E_m102 (558, 145, 556, 557) = true := by decide +kernel
theorem E_k103 : E_mok E_m103 (640, 145, 638, 639) = true := by decide +kernel
theorem E_k104 : E_mok E_m104 (652, 145, 650, 651) = true := by decide +kernel
theorem E_k105 : E_mok E_m105 (670, 145, 668, 669) = true := by decide +kernel
theorem E_k106 : E_mok E_m106 (1300, 145, 1298, 1299) = true := by decide +kernel
theorem E_k107 : E_mok E_m107 (1294, 145, 1292, 1293) = true := by decide +kernel
theorem E_k108 : E_mok E_m108 (331, 152, 330, 0) = true := by decide +kernel
theorem E_k109 : E_mok E_m109 (862, 152, 860, 861) = true := by decide +kernel
theorem E_k110 : E_mok E_m110 (874, 152, 872, 873) = true := by decide +kernel
theorem E_k111 : E_mok E_m111 (878, 152, 876, 877) = true := by decide +kernel
theorem E_k112 : E_mok E_m112 (866, 152, 864, 865) = true := by decide +kernel
theorem E_k113 : E_mok E_m113 (902, 152, 900, 901) = true := by decide +kernel
theorem E_k114 : E_mok E_m114 (898, 152, 896, 897) = true := by decide +kernel
theorem E_k115 : E_mok E_m115 (870, 152, 869, 21) = true := by decide +kernel
theorem E_k116 : E_mok E_m116 (883, 152, 882, 22) = true := by decide +kernel
theorem E_k117 : E_mok E_m117 (889, 152, 888, 23) = true := by decide +kernel
theorem E_k118 : E_mok E_m118 (229, 148, 228, 0) = true := by decide +kernel
theorem E_k119 : E_mok E_m119 (686, 148, 684, 685) = true := by decide +kernel
theorem E_k120 : E_mok E_m120 (906, 148, 904, 905) = true := by decide +kernel
theorem E_k121 : E_mok E_m121 (698, 148, 696, 697) = true := by decide +kernel
theorem E_k122 : E_mok E_m122 (822, 148, 820, 821) = true := by decide +kernel
theorem E_k123 : E_mok E_m123 (796, 148, 794, 795) = true := by decide +kernel
theorem E_k124 : E_mok E_m124 (840, 148, 838, 839) = true := by decide +kernel
theorem E_k125 : E_mok E_m125 (849, 148, 847, 848) = true := by decide +kernel
theorem E_k126 : E_mok E_m126 (914, 148, 912, 913) = true := by decide +kernel
theorem E_k127 : E_mok E_m127 (922, 148, 920, 921) = true := by decide +kernel
theorem E_k128 : E_mok E_m128 (844, 148, 842, 843) = true := by decide +kernel
theorem E_k129 : E_mok E_m129 (926, 148, 924, 925) = true := by decide +kernel
theorem E_k130 : E_mok E_m130 (1166, 148, 1164, 1165) = true := by decide +kernel
theorem E_k131 : E_mok E_m131 (1094, 148, 1092, 1093) = true := by decide +kernel
theorem E_k132 : E_mok E_m132 (1098, 148, 1096, 1097) = true := by decide +kernel
theorem E_k133 : E_mok E_m133 (1114, 148, 1112, 1113) = true := by decide +kernel
theorem E_k134 : E_mok E_m134 (814, 148, 812, 813) = true := by decide +kernel
theorem E_k135 : E_mok E_m135 (730, 148, 728, 729) = true := by decide +kernel
theorem E_k136 : E_mok E_m136 (787, 148, 785, 786) = true := by decide +kernel
theorem E_k137 : E_mok E_m137 (1122, 148, 1120, 1121) = true := by decide +kernel
theorem E_k138 : E_mok E_m138 (760, 148, 758, 759) = true := by decide +kernel
theorem E_k139 : E_mok E_m139 (779, 148, 777, 778) = true := by decide +kernel
theorem E_k140 : E_mok E_m140 (747, 148, 745, 746) = true := by decide +kernel
theorem E_k141 : E_mok E_m141 (783, 148, 781, 782) = true := by decide +kernel
theorem E_k142 : E_mok E_m142 (791, 148, 789, 790) = true := by decide +kernel
theorem E_k143 : E_mok E_m143 (764, 148, 763, 12) = true := by decide +kernel
theorem E_k144 : E_mok E_m144 (166, 144, 165, 0) = true := by decide +kernel
theorem E_k145 : E_mok E_m145 (542, 144, 540, 541) = true := by decide +kernel
theorem E_k146 : E_mok E_m146 (550, 144, 548, 549) = true := by decide +kernel
theorem E_k147 : E_mok E_m147 (554, 144, 552, 553) = true := by decide +kernel
theorem E_k148 : E_mok E_m148 (636, 144, 634, 635) = true := by decide +kernel
theorem E_k149 : E_mok E_m149 (648, 144, 646, 647) = true := by decide +kernel
theorem E_k150 : E_mok E_m150 (656, 144, 654, 655) = true := by decide +kernel
theorem E_k151 : E_mok E_m151 (661, 144, 659, 660) = true := by decide +kernel
theorem E_k152 : E_mok E_m152 (666, 144, 664, 665) = true := by decide +kernel
theorem E_k153 : E_mok E_m153 (678, 144, 676, 677) = true := by decide +kernel
theorem E_k154 : E_mok E_m154 (1249, 144, 1247, 1248) = true := by decide +kernel
theorem E_k155 : E_mok E_m155 (1253, 144, 1251, 1252) = true := by decide +kernel
theorem E_k156 : E_mok E_m156 (1262, 144, 1260, 1261) = true := by decide +kernel
theorem E_k157 : E_mok E_m157 (1270, 144, 1268, 1269) = true := by decide +kernel
theorem E_k158 : E_mok E_m158 (1275, 144, 1273, 1274) = true := by decide +kernel
theorem E_k159 : E_mok E_m159 (1280, 144, 1278, 1279) = true := by decide +kernel
theorem E_k160 : E_mok E_m160 (1284, 144, 1282, 1283) = true := by decide +kernel
theorem E_k161 : E_mok E_m161 (1290, 144, 1288, 1289) = true := by decide +kernel
theorem E_k162 : E_mok E_m162 (546, 144, 545, 0) = true := by decide +kernel
theorem E_k163 : E_mok E_m163 (603, 144, 602, 0) = true := by decide +kernel
theorem E_k164 : E_mok E_m164 (817, 144, 816, 0) = true := by decide +kernel
theorem E_k165 : E_mok E_m165 (701, 144, 700, 0) = true := by decide +kernel
theorem E_k166 : E_mok E_m166 (750, 144, 749, 0) = true := by decide +kernel
theorem E_k167 : E_mok E_m167 (774, 144, 773, 0) = true := by decide +kernel
theorem E_k168 : E_mok E_m168 (753, 144, 752, 0) = true := by decide +kernel
theorem E_k169 : E_mok E_m169 (756, 144, 755, 0) = true := by decide +kernel
theorem E_k170 : E_mok E_m170 (606, 144, 605, 0) = true := by decide +kernel
theorem E_k171 : E_mok E_m171 (951, 144, 950, 0) = true := by decide +kernel
theorem E_k172 : E_mok E_m172 (960, 144, 959, 0) = true := by decide +kernel
theorem E_k173 : E_mok E_m173 (976, 144, 975, 0) = true := by decide +kernel
theorem E_k174 : E_mok E_m174 (1305, 156, 1304, 0) = true := by decide +kernel
theorem E_k175 : E_mok E_m175 (1535, 156, 1533, 1534) = true := by decide +kernel
theorem E_k176 : E_mok E_m176 (1539, 156, 1537, 1538) = true := by decide +kernel
theorem E_k177 : E_mok E_m177 (1555, 156, 1554, 60) = true := by decide +kernel
theorem E_k178 : E_mok E_m178 (1547, 156, 1546, 59) = true := by decide +kernel
theorem E_k179 : E_mok E_m179 (1559, 156, 1558, 61) = true := by decide +kernel
theorem E_k180 : E_mok E_m180 (1543, 156, 1541, 1542) = true := by decide +kernel
theorem E_k181 : E_mok E_m181 (1551, 156, 1549, 1550) = true := by decide +kernel
theorem E_k182 : E_mok E_m182 (1563, 156, 1561, 1562) = true := by decide +kernel
theorem E_k183 : E_mok E_m183 (1567, 156, 1565, 1566) = true := by decide +kernel
theorem E_k184 : E_mok E_m184 (1571, 156, 1569, 1570) = true := by decide +kernel
theorem E_k185 : E_mok E_m185 (1579, 156, 1578, 62) = true := by decide +kernel
theorem E_k186 : E_mok E_m186 (1575, 156, 1573, 1574) = true := by decide +kernel
theorem E_k187 : E_mok E_m187 (1772, 156, 1771, 101) = true := by decide +kernel
theorem E_k188 : E_mok E_m188 (1860, 156, 1859, 123) = true := by decide +kernel
theorem E_k189 : E_mok E_m189 (1864, 156, 1863, 124) = true := by decide +kernel
theorem E_k190 : E_mok E_m190 (1592, 156, 1591, 64) = true := by decide +kernel
theorem E_k191 : E_mok E_m191 (1604, 156, 1603, 67) = true := by decide +kernel
theorem E_k192 : E_mok E_m192 (1596, 156, 1595, 65) = true := by decide +kernel
end
section
theorem E_k193 : E_mok E_m193 (1623, 156, 1622, 0) = true := by decide +kernel
theorem E_k194 : E_mok E_m194 (1629, 156, 1628, 0) = true := by decide +kernel
theorem E_k195 : E_mok E_m195 (1626, 156, 1625, 0) = true := by decide +kernel
theorem E_k196 : E_mok E_m196 (1644, 156, 1643, 0) = true := by decide +kernel
theorem E_k197 : E_mok E_m197 (1659, 156, 1658, 0) = true := by decide +kernel
theorem E_k198 : E_mok E_m198 (1616, 156, 1615, 70) = true := by decide +kernel
theorem E_k199 : E_mok E_m199 (1633, 156, 1632, 72) = true := by decide +kernel
theorem E_k200 : E_mok E_m200 (1652, 156, 1651, 76) = true := by decide +kernel
theorem E_k201 : E_mok E_m201 (1620, 156, 1619, 71) = true := by decide +kernel
theorem E_k202 : E_mok E_m202 (1648, 156, 1647, 75) = true := by decide +kernel
theorem E_k203 : E_mok E_m203 (1588, 156, 1587, 63) = true := by decide +kernel
theorem E_k204 : E_mok E_m204 (1600, 156, 1599, 66) = true := by decide +kernel
theorem E_k205 : E_mok E_m205 (1608, 156, 1607, 68) = true := by decide +kernel
theorem E_k206 : E_mok E_m206 (1656, 156, 1655, 77) = true := by decide +kernel
theorem E_k207 : E_mok E_m207 (1612, 156, 1611, 69) = true := by decide +kernel
theorem E_k208 : E_mok E_m208 (1637, 156, 1636, 73) = true := by decide +kernel
theorem E_k209 : E_mok E_m209 (1641, 156, 1640, 74) = true := by decide +kernel
theorem E_k210 : E_mok E_m210 (1663, 156, 1662, 78) = true := by decide +kernel
theorem E_k211 : E_mok E_m211 (1667, 156, 1666, 79) = true := by decide +kernel
theorem E_k212 : E_mok E_m212 (1671, 156, 1670, 80) = true := by decide +kernel
theorem E_k213 : E_mok E_m213 (1731, 156, 1730, 0) = true := by decide +kernel
theorem E_k214 : E_mok E_m214 (1734, 156, 1733, 0) = true := by decide +kernel
theorem E_k215 : E_mok E_m215 (1737, 156, 1736, 0) = true := by decide +kernel
theorem E_k216 : E_mok E_m216 (1740, 156, 1739, 0) = true := by decide +kernel
theorem E_k217 : E_mok E_m217 (1760, 156, 1759, 0) = true := by decide +kernel
theorem E_k218 : E_mok E_m218 (1757, 156, 1756, 98) = true := by decide +kernel
theorem E_k219 : E_mok E_m219 (1753, 156, 1752, 97) = true := by decide +kernel
theorem E_k220 : E_mok E_m220 (1749, 156, 1748, 96) = true := by decide +kernel
theorem E_k221 : E_mok E_m221 (1745, 156, 1744, 95) = true := by decide +kernel
theorem E_k222 : E_mok E_m222 (1708, 156, 1707, 89) = true := by decide +kernel
theorem E_k223 : E_mok E_m223 (1728, 156, 1727, 94) = true := by decide +kernel
theorem E_k224 : E_mok E_m224 (1764, 156, 1763, 99) = true := by decide +kernel
theorem E_k225 : E_mok E_m225 (1784, 156, 1783, 104) = true := by decide +kernel
theorem E_k226 : E_mok E_m226 (1780, 156, 1779, 103) = true := by decide +kernel
theorem E_k227 : E_mok E_m227 (1776, 156, 1775, 102) = true := by decide +kernel
theorem E_k228 : E_mok E_m228 (1788, 156, 1787, 105) = true := by decide +kernel
theorem E_k229 : E_mok E_m229 (1804, 156, 1803, 109) = true := by decide +kernel
theorem E_k230 : E_mok E_m230 (1796, 156, 1795, 107) = true := by decide +kernel
end
section
theorem E_k231 : E_mok E_m231 (1800, 156, 1799, 108) = true := by decide +kernel
theorem E_k232 : E_mok E_m232 (1792, 156, 1791, 106) = true := by decide +kernel
theorem E_k233 : E_mok E_m233 (1816, 156, 1815, 112) = true := by decide +kernel
theorem E_k234 : E_mok E_m234 (1768, 156, 1767, 100) = true := by decide +kernel
theorem E_k235 : E_mok E_m235 (1724, 156, 1723, 93) = true := by decide +kernel
theorem E_k236 : E_mok E_m236 (1696, 156, 1695, 86) = true := by decide +kernel
theorem E_k237 : E_mok E_m237 (1692, 156, 1691, 85) = true := by decide +kernel
theorem E_k238 : E_mok E_m238 (1688, 156, 1687, 84) = true := by decide +kernel
theorem E_k239 : E_mok E_m239 (1720, 156, 1719, 92) = true := by decide +kernel
theorem E_k240 : E_mok E_m240 (1716, 156, 1715, 91) = true := by decide +kernel
theorem E_k241 : E_mok E_m241 (1712, 156, 1711, 90) = true := by decide +kernel
theorem E_k242 : E_mok E_m242 (1704, 156, 1703, 88) = true := by decide +kernel
theorem E_k243 : E_mok E_m243 (1700, 156, 1699, 87) = true := by decide +kernel
theorem E_k244 : E_mok E_m244 (1808, 156, 1807, 110) = true := by decide +kernel
end
section
theorem E_k245 : E_mok E_m245 (1812, 156, 1811, 111) = true := by decide +kernel
theorem E_k246 : E_mok E_m246 (1820, 156, 1819, 113) = true := by decide +kernel
theorem E_k247 : E_mok E_m247 (1824, 156, 1823, 114) = true := by decide +kernel
theorem E_k248 : E_mok E_m248 (1828, 156, 1827, 115) = true := by decide +kernel
theorem E_k249 : E_mok E_m249 (1684, 156, 1683, 83) = true := by decide +kernel
theorem E_k250 : E_mok E_m250 (1888, 156, 1887, 130) = true := by decide +kernel
theorem E_k251 : E_mok E_m251 (1896, 156, 1895, 132) = true := by decide +kernel
theorem E_k252 : E_mok E_m252 (1892, 156, 1891, 131) = true := by decide +kernel
theorem E_k253 : E_mok E_m253 (1900, 156, 1899, 133) = true := by decide +kernel
theorem E_k254 : E_mok E_m254 (1904, 156, 1903, 134) = true := by decide +kernel
theorem E_k255 : E_mok E_m255 (1908, 156, 1907, 135) = true := by decide +kernel
theorem E_k256 : E_mok E_m256 (1912, 156, 1911, 136) = true := by decide +kernel
theorem E_k257 : E_mok E_m257 (1680, 156, 1679, 82) = true := by decide +kernel
theorem E_k258 : E_mok E_m258 (1676, 156, 1675, 81) = true := by decide +kernel
theorem E_k259 : E_mok E_m259 (1884, 156, 1883, 129) = true := by decide +kernel
theorem E_k260 : E_mok E_m260 (1876, 156, 1875, 127) = true := by decide +kernel
theorem E_k261 : E_mok E_m261 (1880, 156, 1879, 128) = true := by decide +kernel
theorem E_k262 : E_mok E_m262 (1872, 156, 1871, 126) = true := by decide +kernel
theorem E_k263 : E_mok E_m263 (1920, 156, 1919, 138) = true := by decide +kernel
end
section
theorem E_k264 : E_mok E_m264 (1928, 156, 1927, 140) = true := by decide +kernel
theorem E_k265 : E_mok E_m265 (1924, 156, 1923, 139) = true := by decide +kernel
theorem E_k266 : E_mok E_m266 (1916, 156, 1915, 137) = true := by decide +kernel
theorem E_k267 : E_mok E_m267 (1933, 156, 1932, 141) = true := by decide +kernel
theorem E_k268 : E_mok E_m268 (1868, 156, 1867, 125) = true := by decide +kernel
theorem E_k269 : E_mok E_m269 (1856, 156, 1855, 122) = true := by decide +kernel
theorem E_k270 : E_mok E_m270 (1840, 156, 1839, 118) = true := by decide +kernel
theorem E_k271 : E_mok E_m271 (1836, 156, 1835, 117) = true := by decide +kernel
theorem E_k272 : E_mok E_m272 (1848, 156, 1847, 120) = true := by decide +kernel
theorem E_k273 : E_mok E_m273 (1844, 156, 1843, 119) = true := by decide +kernel
theorem E_k274 : E_mok E_m274 (1852, 156, 1851, 121) = true := by decide +kernel
theorem E_k275 : E_mok E_m275 (1832, 156, 1831, 116) = true := by decide +kernel
theorem E_k276 : E_mok E_m276 (1584, 156, 1582, 1583) = true := by decide +kernel
theorem E_k277 : E_mok E_m277 (1937, 156, 1935, 1936) = true := by decide +kernel
theorem E_k278 : E_mok E_m278 (1941, 156, 1939, 1940) = true := by decide +kernel
theorem E_k279 : E_mok E_m279 (1945, 156, 1943, 1944) = true := by decide +kernel
theorem E_k280 : E_mok E_m280 (1949, 156, 1947, 1948) = true := by decide +kernel
theorem E_k281 : E_mok E_m281 (1953, 156, 1951, 1952) = true := by decide +kernel
theorem E_k282 : E_mok E_m282 (1957, 156, 1955, 1956) = true := by decide +kernel
theorem E_k283 : E_mok E_m283 (1961, 156, 1959, 1960) = true := by decide +kernel
theorem E_k284 : E_mok E_m284 (1965, 156, 1963, 1964) = true := by decide +kernel
theorem E_k285 : E_mok E_m285 (1969, 156, 1968, 142) = true := by decide +kernel
theorem E_k286 : E_mok E_m286 (1128, 161, 1127, 0) = true := by decide +kernel
theorem E_k287 : E_mok E_m287 (1125, 160, 1124, 0) = true := by decide +kernel
theorem E_k290 : E_mok E_m290 (736, 158, 735, 0) = true := by decide +kernel
theorem E_k291 : E_mok E_m291 (733, 158, 732, 0) = true := by decide +kernel
theorem E_k292 : E_mok E_m292 (1205, 158, 1204, 0) = true := by decide +kernel
theorem E_k293 : E_mok E_m293 (583, 158, 582, 0) = true := by decide +kernel
theorem E_k294 : E_mok E_m294 (626, 158, 625, 0) = true := by decide +kernel
end
section
theorem E_kk0 : ∀ M ∈ ([E_m0, E_m1, E_m2, E_m3, E_m4, E_m5, E_m6, E_m7, E_m8, E_m9, E_m10, E_m11, E_m12, E_m13, E_m14, E_m15, E_m16, E_m17, E_m18, E_m19, E_m20, E_m21, E_m22, E_m23, E_m24, E_m25, E_m26, E_m27, E_m28, E_m29, E_m30, E_m31, E_m32, E_m33, E_m34, E_m35, E_m36, E_m37, E_m38, E_m39] : List E_MI), ∃ ix, E_mok M ix = true := List.forall_mem_cons.mpr ⟨⟨_, E_k0⟩, List.forall_mem_cons.mpr ⟨⟨_, E_k1⟩, List.forall_mem_cons.mpr ⟨⟨_, E_k2⟩, List.forall_mem_cons.mpr ⟨⟨_, E_k3⟩, List.forall_mem_cons.mpr ⟨⟨_, E_k4⟩, List.forall_mem_cons.mpr ⟨⟨_, E_k5⟩, List.forall_mem_cons.mpr ⟨⟨_, E_k6⟩, List.forall_mem_cons.mpr ⟨⟨_, E_k7⟩, List.forall_mem_cons.mpr ⟨⟨_, E_k8⟩, List.forall_mem_cons.mpr ⟨⟨_, E_k9⟩, List.forall_mem_cons.mpr ⟨⟨_, E_k10⟩, List.forall_mem_cons.mpr ⟨⟨_, E_k11⟩, List.forall_mem_cons.mpr ⟨⟨_, E_k12⟩, List.forall_mem_cons.mpr ⟨⟨_, E_k13⟩, List.forall_mem_cons.mpr ⟨⟨_, E_k14⟩, List.forall_mem_cons.mpr ⟨⟨_, E_k15⟩, List.forall_mem_cons.mpr ⟨⟨_, E_k16⟩, List.forall_mem_cons.mpr ⟨⟨_, E_k17⟩, List.forall_mem_cons.mpr ⟨⟨_, E_k18⟩, List.forall_mem_cons.mpr ⟨⟨_, E_k19⟩, List.forall_mem_cons.mpr ⟨⟨_, E_k20⟩, List.forall_mem_cons.mpr ⟨⟨_, E_k21⟩, List.forall_mem_cons.mpr ⟨⟨_, E_k22⟩, List.forall_mem_cons.mpr ⟨⟨_, E_k23⟩, List.forall_mem_cons.mpr ⟨⟨_, E_k24⟩, List.forall_mem_cons.mpr ⟨⟨_, E_k25⟩, List.forall_mem_cons.mpr ⟨⟨_, E_k26⟩, List.forall_mem_cons.mpr ⟨⟨_, E_k27⟩, List.forall_mem_cons.mpr ⟨⟨_, E_k28⟩, List.forall_mem_cons.mpr ⟨⟨_, E_k29⟩, List.forall_mem_cons.mpr ⟨⟨_, E_k30⟩, List.forall_mem_cons.mpr ⟨⟨_, E_k31⟩, List.forall_mem_cons.mpr ⟨⟨_, E_k32⟩, List.forall_mem_cons.mpr ⟨⟨_, E_k33⟩, List.forall_mem_cons.mpr ⟨⟨_, E_k34⟩, List.forall_mem_cons.mpr ⟨⟨_, E_k35⟩, List.forall_mem_cons.mpr ⟨⟨_, E_k36⟩, List.forall_mem_cons.mpr ⟨⟨_, E_k37⟩, List.forall_mem_cons.mpr ⟨⟨_, E_k38⟩, List.forall_mem_cons.mpr ⟨⟨_, E_k39⟩, (fun _ h => absurd h List.not_mem_nil)⟩⟩⟩⟩⟩⟩⟩⟩⟩⟩⟩⟩⟩⟩⟩⟩⟩⟩⟩⟩⟩⟩⟩⟩⟩⟩⟩⟩⟩⟩⟩⟩⟩⟩⟩⟩⟩⟩⟩⟩
theorem E_kk1 : ∀ M ∈ ([E_m40, E_m41, E_m42, E_m43, E_m44, E_m45, E_m46, E_m47, E_m48, E_m49, E_m50, E_m51, E_m52, E_m53, E_m54, E_m55, E_m56, E_m57, E_m58, E_m59, E_m60, E_m61, E_m62, E_m63, E_m64, E_m65, E_m66, E_m67, E_m68, E_m69, E_m70, E_m71, E_m72, E_m73, E_m74, E_m75, E_m76, E_m77, E_m78, E_m79] : List E_MI), ∃ ix, E_mok M ix = true := List.forall_mem_cons.mpr ⟨⟨_, E_k40⟩, List.forall_mem_cons.mpr ⟨⟨_, E_k41⟩, List.forall_mem_cons.mpr ⟨⟨_, E_k42⟩, List.forall_mem_cons.mpr ⟨⟨_, E_k43⟩, List.forall_mem_cons.mpr ⟨⟨_, E_k44⟩, List.forall_mem_cons.mpr ⟨⟨_, E_k45⟩, List.forall_mem_cons.mpr ⟨⟨_, E_k46⟩, List.forall_mem_cons.mpr ⟨⟨_, E_k47⟩, List.forall_mem_cons.mpr ⟨⟨_, E_k48⟩, List.forall_mem_cons.mpr ⟨⟨_, E_k49⟩, List.forall_mem_cons.mpr ⟨⟨_, E_k50⟩, List.forall_mem_cons.mpr ⟨⟨_, E_k51⟩, List.forall_mem_cons.mpr ⟨⟨_, E_k52⟩, List.forall_mem_cons.mpr ⟨⟨_, E_k53⟩, List.forall_mem_cons.mpr ⟨⟨_, E_k54⟩, List.forall_mem_cons.mpr ⟨⟨_, E_k55⟩, List.forall_mem_cons.mpr ⟨⟨_, E_k56⟩, List.forall_mem_cons.mpr ⟨⟨_, E_k57⟩, List.forall_mem_cons.mpr ⟨⟨_, E_k58⟩, List.forall_mem_cons.mpr ⟨⟨_, E_k59⟩, List.forall_mem_cons.mpr ⟨⟨_, E_k60⟩, List.forall_mem_cons.mpr ⟨⟨_, E_k61⟩, List.forall_mem_cons.mpr ⟨⟨_, E_k62⟩, List.forall_mem_cons.mpr ⟨⟨_, E_k63⟩, List.forall_mem_cons.mpr ⟨⟨_, E_k64⟩, List.forall_mem_cons.mpr ⟨⟨_, E_k65⟩, List.forall_mem_cons.mpr ⟨⟨_, E_k66⟩, List.forall_mem_cons.mpr ⟨⟨_, E_k67⟩, List.forall_mem_cons.mpr ⟨⟨_, E_k68⟩, List.forall_mem_cons.mpr ⟨⟨_, E_k69⟩, List.forall_mem_cons.mpr ⟨⟨_, E_k70⟩, List.forall_mem_cons.mpr ⟨⟨_, E_k71⟩, List.forall_mem_cons.mpr ⟨⟨_, E_k72⟩, List.forall_mem_cons.mpr ⟨⟨_, E_k73⟩, List.forall_mem_cons.mpr ⟨⟨_, E_k74⟩, List.forall_mem_cons.mpr ⟨⟨_, E_k75⟩, List.forall_mem_cons.mpr ⟨⟨_, E_k76⟩, List.forall_mem_cons.mpr ⟨⟨_, E_k77⟩, List.forall_mem_cons.mpr ⟨⟨_, E_k78⟩, List.forall_mem_cons.mpr ⟨⟨_, E_k79⟩, (fun _ h => absurd h List.not_mem_nil)⟩⟩⟩⟩⟩⟩⟩⟩⟩⟩⟩⟩⟩⟩⟩⟩⟩⟩⟩⟩⟩⟩⟩⟩⟩⟩⟩⟩⟩⟩⟩⟩⟩⟩⟩⟩⟩⟩⟩⟩
theorem E_kk2 : ∀ M ∈ ([E_m80, E_m81, E_m82, E_m83, E_m84, E_m85, E_m86, E_m87, E_m88, E_m89, E_m90, E_m91, E_m92, E_m93, E_m94, E_m95, E_m96, E_m97, E_m98, E_m99, E_m100, E_m101, E_m102, E_m103, E_m104, E_m105, E_m106, E_m107, E_m108, E_m109, E_m110, E_m111, E_m112, E_m113, E_m114, E_m115, E_m116, E_m117, E_m118, E_m119] : List E_MI), ∃ ix, E_mok M ix = true := List.forall_mem_cons.mpr ⟨⟨_, E_k80⟩, List.forall_mem_cons.mpr ⟨⟨_, E_k81⟩, List.forall_mem_cons.mpr ⟨⟨_, E_k82⟩, List.forall_mem_cons.mpr ⟨⟨_, E_k83⟩, List.forall_mem_cons.mpr ⟨⟨_, E_k84⟩, List.forall_mem_cons.mpr ⟨⟨_, E_k85⟩, List.forall_mem_cons.mpr ⟨⟨_, E_k86⟩, List.forall_mem_cons.mpr ⟨⟨_, E_k87⟩, List.forall_mem_cons.mpr ⟨⟨_, E_k88⟩, List.forall_mem_cons.mpr ⟨⟨_, E_k89⟩, List.forall_mem_cons.mpr ⟨⟨_, E_k90⟩, List.forall_mem_cons.mpr ⟨⟨_, E_k91⟩, List.forall_mem_cons.mpr ⟨⟨_, E_k92⟩, List.forall_mem_cons.mpr ⟨⟨_, E_k93⟩, List.forall_mem_cons.mpr ⟨⟨_, E_k94⟩, List.forall_mem_cons.mpr ⟨⟨_, E_k95⟩, List.forall_mem_cons.mpr ⟨⟨_, E_k96⟩, List.forall_mem_cons.mpr ⟨⟨_, E_k97⟩, List.forall_mem_cons.mpr ⟨⟨_, E_k98⟩, List.forall_mem_cons.mpr ⟨⟨_, E_k99⟩, List.forall_mem_cons.mpr ⟨⟨_, E_k100⟩, List.forall_mem_cons.mpr ⟨⟨_, E_k101⟩, List.forall_mem_cons.mpr ⟨⟨_, E_k102⟩, List.forall_mem_cons.mpr ⟨⟨_, E_k103⟩, List.forall_mem_cons.mpr ⟨⟨_, E_k104⟩, List.forall_mem_cons.mpr ⟨⟨_, E_k105⟩, List.forall_mem_cons.mpr ⟨⟨_, E_k106⟩, List.forall_mem_cons.mpr ⟨⟨_, E_k107⟩, List.forall_mem_cons.mpr ⟨⟨_, E_k108⟩, List.forall_mem_cons.mpr ⟨⟨_, E_k109⟩, List.forall_mem_cons.mpr ⟨⟨_, E_k110⟩, List.forall_mem_cons.mpr ⟨⟨_, E_k111⟩, List.forall_mem_cons.mpr ⟨⟨_, E_k112⟩, List.forall_mem_cons.mpr ⟨⟨_, E_k113⟩, List.forall_mem_cons.mpr ⟨⟨_, E_k114⟩, List.forall_mem_cons.mpr ⟨⟨_, E_k115⟩, List.forall_mem_cons.mpr ⟨⟨_, E_k116⟩, List.forall_mem_cons.mpr ⟨⟨_, E_k117⟩, List.forall_mem_cons.mpr ⟨⟨_, E_k118⟩, List.forall_mem_cons.mpr ⟨⟨_, E_k119⟩, (fun _ h => absurd h List.not_mem_nil)⟩⟩⟩⟩⟩⟩⟩⟩⟩⟩⟩⟩⟩⟩⟩⟩⟩⟩⟩⟩⟩⟩⟩⟩⟩⟩⟩⟩⟩⟩⟩⟩⟩⟩⟩⟩⟩⟩⟩⟩
theorem E_kk3 : ∀ M ∈ ([E_m120, E_m121, E_m122, E_m123, E_m124, E_m125, E_m126, E_m127, E_m128, E_m129, E_m130, E_m131, E_m132, E_m133, E_m134, E_m135, E_m136, E_m137, E_m138, E_m139, E_m140, E_m141, E_m142, E_m143, E_m144, E_m145, E_m146, E_m147, E_m148, E_m149, E_m150, E_m151, E_m152, E_m153, E_m154, E_m155, E_m156, E_m157, E_m158, E_m159] : List E_MI), ∃ ix, E_mok M ix = true := List.forall_mem_cons.mpr ⟨⟨_, E_k120⟩, List.forall_mem_cons.mpr ⟨⟨_, E_k121⟩, List.forall_mem_cons.mpr ⟨⟨_, E_k122⟩, List.forall_mem_cons.mpr ⟨⟨_, E_k123⟩, List.forall_mem_cons.mpr ⟨⟨_, E_k124⟩, List.forall_mem_cons.mpr ⟨⟨_, E_k125⟩, List.forall_mem_cons.mpr ⟨⟨_, E_k126⟩, List.forall_mem_cons.mpr ⟨⟨_, E_k127⟩, List.forall_mem_cons.mpr ⟨⟨_, E_k128⟩, List.forall_mem_cons.mpr ⟨⟨_, E_k129⟩, List.forall_mem_cons.mpr ⟨⟨_, E_k130⟩, List.forall_mem_cons.mpr ⟨⟨_, E_k131⟩, List.forall_mem_cons.mpr ⟨⟨_, E_k132⟩, List.forall_mem_cons.mpr ⟨⟨_, E_k133⟩, List.forall_mem_cons.mpr ⟨⟨_, E_k134⟩, List.forall_mem_cons.mpr ⟨⟨_, E_k135⟩, List.forall_mem_cons.mpr ⟨⟨_, E_k136⟩, List.forall_mem_cons.mpr ⟨⟨_, E_k137⟩, List.forall_mem_cons.mpr ⟨⟨_, E_k138⟩, List.forall_mem_cons.mpr ⟨⟨_, E_k139⟩, List.forall_mem_cons.mpr ⟨⟨_, E_k140⟩, List.forall_mem_cons.mpr ⟨⟨_, E_k141⟩, List.forall_mem_cons.mpr ⟨⟨_, E_k142⟩, List.forall_mem_cons.mpr ⟨⟨_, E_k143⟩, List.forall_mem_cons.mpr ⟨⟨_, E_k144⟩, List.forall_mem_cons.mpr ⟨⟨_, E_k145⟩, List.forall_mem_cons.mpr ⟨⟨_, E_k146⟩, List.forall_mem_cons.mpr ⟨⟨_, E_k147⟩, List.forall_mem_cons.mpr ⟨⟨_, E_k148⟩, List.forall_mem_cons.mpr ⟨⟨_, E_k149⟩, List.forall_mem_cons.mpr ⟨⟨_, E_k150⟩, List.forall_mem_cons.mpr ⟨⟨_, E_k151⟩, List.forall_mem_cons.mpr ⟨⟨_, E_k152⟩, List.forall_mem_cons.mpr ⟨⟨_, E_k153⟩, List.forall_mem_cons.mpr ⟨⟨_, E_k154⟩, List.forall_mem_cons.mpr ⟨⟨_, E_k155⟩, List.forall_mem_cons.mpr ⟨⟨_, E_k156⟩, List.forall_mem_cons.mpr ⟨⟨_, E_k157⟩, List.forall_mem_cons.mpr ⟨⟨_, E_k158⟩, List.forall_mem_cons.mpr ⟨⟨_, E_k159⟩, (fun _ h => absurd h List.not_mem_nil)⟩⟩⟩⟩⟩⟩⟩⟩⟩⟩⟩⟩⟩⟩⟩⟩⟩⟩⟩⟩⟩⟩⟩⟩⟩⟩⟩⟩⟩⟩⟩⟩⟩⟩⟩⟩⟩⟩⟩⟩
theorem E_kk4 : ∀ M ∈ ([E_m160, E_m161, E_m162, E_m163, E_m164, E_m165, E_m166, E_m167, E_m168, E_m169, E_m170, E_m171, E_m172, E_m173, E_m174, E_m175, E_m176, E_m177, E_m178, E_m179, E_m180, E_m181, E_m182, E_m183, E_m184, E_m185, E_m186, E_m187, E_m188, E_m189, E_m190, E_m191, E_m192, E_m193, E_m194, E_m195, E_m196, E_m197, E_m198, E_m199] : List E_MI), ∃ ix, E_mok M ix = true := List.forall_mem_cons.mpr ⟨⟨_, E_k160⟩, List.forall_mem_cons.mpr ⟨⟨_, E_k161⟩, List.forall_mem_cons.mpr ⟨⟨_, E_k162⟩, List.forall_mem_cons.mpr ⟨⟨_, E_k163⟩, List.forall_mem_cons.mpr ⟨⟨_, E_k164⟩, List.forall_mem_cons.mpr ⟨⟨_, E_k165⟩, List.forall_mem_cons.mpr ⟨⟨_, E_k166⟩, List.forall_mem_cons.mpr ⟨⟨_, E_k167⟩, List.forall_mem_cons.mpr ⟨⟨_, E_k168⟩, List.forall_mem_cons.mpr ⟨⟨_, E_k169⟩, List.forall_mem_cons.mpr ⟨⟨_, E_k170⟩, List.forall_mem_cons.mpr ⟨⟨_, E_k171⟩, List.forall_mem_cons.mpr ⟨⟨_, E_k172⟩, List.forall_mem_cons.mpr ⟨⟨_, E_k173⟩, List.forall_mem_cons.mpr ⟨⟨_, E_k174⟩, List.forall_mem_cons.mpr ⟨⟨_, E_k175⟩, List.forall_mem_cons.mpr ⟨⟨_, E_k176⟩, List.forall_mem_cons.mpr ⟨⟨_, E_k177⟩, List.forall_mem_cons.mpr ⟨⟨_, E_k178⟩, List.forall_mem_cons.mpr ⟨⟨_, E_k179⟩, List.forall_mem_cons.mpr ⟨⟨_, E_k180⟩, List.forall_mem_cons.mpr ⟨⟨_, E_k181⟩, List.forall_mem_cons.mpr ⟨⟨_, E_k182⟩, List.forall_mem_cons.mpr ⟨⟨_, E_k183⟩, List.forall_mem_cons.mpr ⟨⟨_, E_k184⟩, List.forall_mem_cons.mpr ⟨⟨_, E_k185⟩, List.forall_mem_cons.mpr ⟨⟨_, E_k186⟩, List.forall_mem_cons.mpr ⟨⟨_, E_k187⟩, List.forall_mem_cons.mpr ⟨⟨_, E_k188⟩, List.forall_mem_cons.mpr ⟨⟨_, E_k189⟩, List.forall_mem_cons.mpr ⟨⟨_, E_k190⟩, List.forall_mem_cons.mpr ⟨⟨_, E_k191⟩, List.forall_mem_cons.mpr ⟨⟨_, E_k192⟩, List.forall_mem_cons.mpr ⟨⟨_, E_k193⟩, List.forall_mem_cons.mpr ⟨⟨_, E_k194⟩, List.forall_mem_cons.mpr ⟨⟨_, E_k195⟩, List.forall_mem_cons.mpr ⟨⟨_, E_k196⟩, List.forall_mem_cons.mpr ⟨⟨_, E_k197⟩, List.forall_mem_cons.mpr ⟨⟨_, E_k198⟩, List.forall_mem_cons.mpr ⟨⟨_, E_k199⟩, (fun _ h => absurd h List.not_mem_nil)⟩⟩⟩⟩⟩⟩⟩⟩⟩⟩⟩⟩⟩⟩⟩⟩⟩⟩⟩⟩⟩⟩⟩⟩⟩⟩⟩⟩⟩⟩⟩⟩⟩⟩⟩⟩⟩⟩⟩⟩
theorem E_kk5 : ∀ M ∈ ([E_m200, E_m201, E_m202, E_m203, E_m204, E_m205, E_m206, E_m207, E_m208, E_m209, E_m210, E_m211, E_m212, E_m213, E_m214, E_m215, E_m216, E_m217, E_m218, E_m219, E_m220, E_m221, E_m222, E_m223, E_m224, E_m225, E_m226, E_m227, E_m228, E_m229, E_m230, E_m231, E_m232, E_m233, E_m234, E_m235, E_m236, E_m237, E_m238, E_m239] : List E_MI), ∃ ix, E_mok M ix = true := List.forall_mem_cons.mpr ⟨⟨_, E_k200⟩, List.forall_mem_cons.mpr ⟨⟨_, E_k201⟩, List.forall_mem_cons.mpr ⟨⟨_, E_k202⟩, List.forall_mem_cons.mpr ⟨⟨_, E_k203⟩, List.forall_mem_cons.mpr ⟨⟨_, E_k204⟩, List.forall_mem_cons.mpr ⟨⟨_, E_k205⟩, List.forall_mem_cons.mpr ⟨⟨_, E_k206⟩, List.forall_mem_cons.mpr ⟨⟨_, E_k207⟩, List.forall_mem_cons.mpr ⟨⟨_, E_k208⟩, List.forall_mem_cons.mpr ⟨⟨_, E_k209⟩, List.forall_mem_cons.mpr ⟨⟨_, E_k210⟩, List.forall_mem_cons.mpr ⟨⟨_, E_k211⟩, List.forall_mem_cons.mpr ⟨⟨_, E_k212⟩, List.forall_mem_cons.mpr ⟨⟨_, E_k213⟩, List.forall_mem_cons.mpr ⟨⟨_, E_k214⟩, List.forall_mem_cons.mpr ⟨⟨_, E_k215⟩, List.forall_mem_cons.mpr ⟨⟨_, E_k216⟩, List.forall_mem_cons.mpr ⟨⟨_, E_k217⟩, List.forall_mem_cons.mpr ⟨⟨_, E_k218⟩, List.forall_mem_cons.mpr ⟨⟨_, E_k219⟩, List.forall_mem_cons.mpr ⟨⟨_, E_k220⟩, List.forall_mem_cons.mpr ⟨⟨_, E_k221⟩, List.forall_mem_cons.mpr ⟨⟨_, E_k222⟩, List.forall_mem_cons.mpr ⟨⟨_, E_k223⟩, List.forall_mem_cons.mpr ⟨⟨_, E_k224⟩, List.forall_mem_cons.mpr ⟨⟨_, E_k225⟩, List.forall_mem_cons.mpr ⟨⟨_, E_k226⟩, List.forall_mem_cons.mpr ⟨⟨_, E_k227⟩, List.forall_mem_cons.mpr ⟨⟨_, E_k228⟩, List.forall_mem_cons.mpr ⟨⟨_, E_k229⟩, List.forall_mem_cons.mpr ⟨⟨_, E_k230⟩, List.forall_mem_cons.mpr ⟨⟨_, E_k231⟩, List.forall_mem_cons.mpr ⟨⟨_, E_k232⟩, List.forall_mem_cons.mpr ⟨⟨_, E_k233⟩, List.forall_mem_cons.mpr ⟨⟨_, E_k234⟩, List.forall_mem_cons.mpr ⟨⟨_, E_k235⟩, List.forall_mem_cons.mpr ⟨⟨_, E_k236⟩, List.forall_mem_cons.mpr ⟨⟨_, E_k237⟩, List.forall_mem_cons.mpr ⟨⟨_, E_k238⟩, List.forall_mem_cons.mpr ⟨⟨_, E_k239⟩, (fun _ h => absurd h List.not_mem_nil)⟩⟩⟩⟩⟩⟩⟩⟩⟩⟩⟩⟩⟩⟩⟩⟩⟩⟩⟩⟩⟩⟩⟩⟩⟩⟩⟩⟩⟩⟩⟩⟩⟩⟩⟩⟩⟩⟩⟩⟩
theorem E_kk6 : ∀ M ∈ ([E_m240, E_m241, E_m242, E_m243, E_m244, E_m245, E_m246, E_m247, E_m248, E_m249, E_m250, E_m251, E_m252, E_m253, E_m254, E_m255, E_m256, E_m257, E_m258, E_m259, E_m260, E_m261, E_m262, E_m263, E_m264, E_m265, E_m266, E_m267, E_m268, E_m269, E_m270, E_m271, E_m272, E_m273, E_m274, E_m275, E_m276, E_m277, E_m278, E_m279] : List E_MI), ∃ ix, E_mok M ix = true := List.forall_mem_cons.mpr ⟨⟨_, E_k240⟩, List.forall_mem_cons.mpr ⟨⟨_, E_k241⟩, List.forall_mem_cons.mpr ⟨⟨_, E_k242⟩, List.forall_mem_cons.mpr ⟨⟨_, E_k243⟩, List.forall_mem_cons.mpr ⟨⟨_, E_k244⟩, List.forall_mem_cons.mpr ⟨⟨_, E_k245⟩, List.forall_mem_cons.mpr ⟨⟨_, E_k246⟩, List.forall_mem_cons.mpr ⟨⟨_, E_k247⟩, List.forall_mem_cons.mpr ⟨⟨_, E_k248⟩, List.forall_mem_cons.mpr ⟨⟨_, E_k249⟩, List.forall_mem_cons.mpr ⟨⟨_, E_k250⟩, List.forall_mem_cons.mpr ⟨⟨_, E_k251⟩, List.forall_mem_cons.mpr ⟨⟨_, E_k252⟩, List.forall_mem_cons.mpr ⟨⟨_, E_k253⟩, List.forall_mem_cons.mpr ⟨⟨_, E_k254⟩, List.forall_mem_cons.mpr ⟨⟨_, E_k255⟩, List.forall_mem_cons.mpr ⟨⟨_, E_k256⟩, List.forall_mem_cons.mpr ⟨⟨_, E_k257⟩, List.forall_mem_cons.mpr ⟨⟨_, E_k258⟩, List.forall_mem_cons.mpr ⟨⟨_, E_k259⟩, List.forall_mem_cons.mpr ⟨⟨_, E_k260⟩, List.forall_mem_cons.mpr ⟨⟨_, E_k261⟩, List.forall_mem_cons.mpr ⟨⟨_, E_k262⟩, List.forall_mem_cons.mpr ⟨⟨_, E_k263⟩, List.forall_mem_cons.mpr ⟨⟨_, E_k264⟩, List.forall_mem_cons.mpr ⟨⟨_, E_k265⟩, List.forall_mem_cons.mpr ⟨⟨_, E_k266⟩, List.forall_mem_cons.mpr ⟨⟨_, E_k267⟩, List.forall_mem_cons.mpr ⟨⟨_, E_k268⟩, List.forall_mem_cons.mpr ⟨⟨_, E_k269⟩, List.forall_mem_cons.mpr ⟨⟨_, E_k270⟩, List.forall_mem_cons.mpr ⟨⟨_, E_k271⟩, List.forall_mem_cons.mpr ⟨⟨_, E_k272⟩, List.forall_mem_cons.mpr ⟨⟨_, E_k273⟩, List.forall_mem_cons.mpr ⟨⟨_, E_k274⟩, List.forall_mem_cons.mpr ⟨⟨_, E_k275⟩, List.forall_mem_cons.mpr ⟨⟨_, E_k276⟩, List.forall_mem_cons.mpr ⟨⟨_, E_k277⟩, List.forall_mem_cons.mpr ⟨⟨_, E_k278⟩, List.forall_mem_cons.mpr ⟨⟨_, E_k279⟩, (fun _ h => absurd h List.not_mem_nil)⟩⟩⟩⟩⟩⟩⟩⟩⟩⟩⟩⟩⟩⟩⟩⟩⟩⟩⟩⟩⟩⟩⟩⟩⟩⟩⟩⟩⟩⟩⟩⟩⟩⟩⟩⟩⟩⟩⟩⟩
theorem E_kk7 : ∀ M ∈ ([E_m280, E_m281, E_m282, E_m283, E_m284, E_m285, E_m286, E_m287] : List E_MI), ∃ ix, E_mok M ix = true := List.forall_mem_cons.mpr ⟨⟨_, E_k280⟩, List.forall_mem_cons.mpr ⟨⟨_, E_k281⟩, List.forall_mem_cons.mpr ⟨⟨_, E_k282⟩, List.forall_mem_cons.mpr ⟨⟨_, E_k283⟩, List.forall_mem_cons.mpr ⟨⟨_, E_k284⟩, List.forall_mem_cons.mpr ⟨⟨_, E_k285⟩, List.forall_mem_cons.mpr ⟨⟨_, E_k286⟩, List.forall_mem_cons.mpr ⟨⟨_, E_k287⟩, (fun _ h => absurd h List.not_mem_nil)⟩⟩⟩⟩⟩⟩⟩⟩
theorem E_kk8 : ∀ M ∈ ([E_m290, E_m291, E_m292, E_m293, E_m294] : List E_MI), ∃ ix, E_mok M ix = true := List.forall_mem_cons.mpr ⟨⟨_, E_k290⟩, List.forall_mem_cons.mpr ⟨⟨_, E_k291⟩, List.forall_mem_cons.mpr ⟨⟨_, E_k292⟩, List.forall_mem_cons.mpr ⟨⟨_, E_k293⟩, List.forall_mem_cons.mpr ⟨⟨_, E_k294⟩, (fun _ h => absurd h List.not_mem_nil)⟩⟩⟩⟩⟩
set_option maxRecDepth 100000 in
theorem E_Ma_ok : ∀ M ∈ E_M.take 288, ∃ ix, E_mok M ix = true := by
  show ∀ M ∈ ([E_m0, E_m1, E_m2, E_m3, E_m4, E_m5, E_m6, E_m7, E_m8, E_m9, E_m10, E_m11, E_m12, E_m13, E_m14, E_m15, E_m16, E_m17, E_m18, E_m19, E_m20, E_m21, E_m22, E_m23, E_m24, E_m25, E_m26, E_m27, E_m28, E_m29, E_m30, E_m31, E_m32, E_m33, E_m34, E_m35, E_m36, E_m37, E_m38, E_m39] : List E_MI) ++ (([E_m40, E_m41, E_m42, E_m43, E_m44, E_m45, E_m46, E_m47, E_m48, E_m49, E_m50, E_m51, E_m52, E_m53, E_m54, E_m55, E_m56, E_m57, E_m58, E_m59, E_m60, E_m61, E_m62, E_m63, E_m64, E_m65, E_m66, E_m67, E_m68, E_m69, E_m70, E_m71, E_m72, E_m73, E_m74, E_m75, E_m76, E_m77, E_m78, E_m79] : List E_MI) ++ (([E_m80, E_m81, E_m82, E_m83, E_m84, E_m85, E_m86, E_m87, E_m88, E_m89, E_m90, E_m91, E_m92, E_m93, E_m94, E_m95, E_m96, E_m97, E_m98, E_m99, E_m100, E_m101, E_m102, E_m103, E_m104, E_m105, E_m106, E_m107, E_m108, E_m109, E_m110, E_m111, E_m112, E_m113, E_m114, E_m115, E_m116, E_m117, E_m118, E_m119] : List E_MI) ++ (([E_m120, E_m121, E_m122, E_m123, E_m124, E_m125, E_m126, E_m127, E_m128, E_m129, E_m130, E_m131, E_m132, E_m133, E_m134, E_m135, E_m136, E_m137, E_m138, E_m139, E_m140, E_m141, E_m142, E_m143, E_m144, E_m145, E_m146, E_m147, E_m148, E_m149, E_m150, E_m151, E_m152, E_m153, E_m154, E_m155, E_m156, E_m157, E_m158, E_m159] : List E_MI) ++ (([E_m160, E_m161, E_m162, E_m163, E_m164, E_m165, E_m166, E_m167, E_m168, E_m169, E_m170, E_m171, E_m172, E_m173, E_m174, E_m175, E_m176, E_m177, E_m178, E_m179, E_m180, E_m181, E_m182, E_m183, E_m184, E_m185, E_m186, E_m187, E_m188, E_m189, E_m190, E_m191, E_m192, E_m193, E_m194, E_m195, E_m196, E_m197, E_m198, E_m199] : List E_MI) ++ (([E_m200, E_m201, E_m202, E_m203, E_m204, E_m205, E_m206, E_m207, E_m208, E_m209, E_m210, E_m211, E_m212, E_m213, E_m214, E_m215, E_m216, E_m217, E_m218, E_m219, E_m220, E_m221, E_m222, E_m223, E_m224, E_m225, E_m226, E_m227, E_m228, E_m229, E_m230, E_m231, E_m232, E_m233, E_m234, E_m235, E_m236, E_m237, E_m238, E_m239] : List E_MI) ++ (([E_m240, E_m241, E_m242, E_m243, E_m244, E_m245, E_m246, E_m247, E_m248, E_m249, E_m250, E_m251, E_m252, E_m253, E_m254, E_m255, E_m256, E_m257, E_m258, E_m259, E_m260, E_m261, E_m262, E_m263, E_m264, E_m265, E_m266, E_m267, E_m268, E_m269, E_m270, E_m271, E_m272, E_m273, E_m274, E_m275, E_m276, E_m277, E_m278, E_m279] : List E_MI) ++ (([E_m280, E_m281, E_m282, E_m283, E_m284, E_m285, E_m286, E_m287] : List E_MI)))))))), ∃ ix, E_mok M ix = true
  exact List.forall_mem_append.mpr ⟨E_kk0, List.forall_mem_append.mpr ⟨E_kk1, List.forall_mem_append.mpr ⟨E_kk2, List.forall_mem_append.mpr ⟨E_kk3, List.forall_mem_append.mpr ⟨E_kk4, List.forall_mem_append.mpr ⟨E_kk5, List.forall_mem_append.mpr ⟨E_kk6, E_kk7⟩⟩⟩⟩⟩⟩⟩
set_option maxRecDepth 100000 in
theorem E_Mb_ok : ∀ M ∈ E_M.drop 290, ∃ ix, E_mok M ix = true := by
  show ∀ M ∈ ([E_m290, E_m291, E_m292, E_m293, E_m294] : List E_MI), ∃ ix, E_mok M ix = true
  exact E_kk8
/-- the methods whose code is walked: Math.max and Math.min (288, 289) have rows of their own -/
def E_mi (a : Nat) : Option E_MI := if a = 288 ∨ a = 289 then none else E_M[a]?
theorem E_mi_get {a : Nat} {M : E_MI} (h : E_mi a = some M) : E_M[a]? = some M := by
  unfold E_mi at h
  split at h
  · cases h
  · exact h
theorem E_M_ok {a : Nat} {M : E_MI} (h : E_mi a = some M) : ∃ ix, E_mok M ix = true := by
  have h2 := E_mi_get h
  unfold E_mi at h
  split at h
  · cases h
  · rename_i hn
    rcases Nat.lt_or_ge a 288 with q | q
    · exact E_Ma_ok M (List.mem_of_getElem? (i := a) (by rw [List.getElem?_take_of_lt q]; exact h2))
    · exact E_Mb_ok M (List.mem_of_getElem? (i := a - 290) (by rw [List.getElem?_drop, show 290 + (a - 290) = a by omega]; exact h2))
end
section
/-! instructions that see the heap: getfield, putfield, arrays, new -/
def E_cty (ci k : Nat) : FieldType := match E_TY[ci]? with
  | some t => t k
  | none => .int
def E_fin (ci k : Nat) : Bool := match E_CL[ci]? with
  | some (_, T, _) => (T k).2.2.2
  | none => false
def E_N (ci : Nat) : Nat := match E_CL[ci]? with
  | some (_, _, N) => N
  | none => 0
def E_inb (i : Int32) (n : Nat) : Bool := decide (¬ (i < 0 ∨ n ≤ i.toNatClampNeg))
def E_getf (len a b : Nat) (f : E_F) (h : E_H) : Option E_F := match f with
  | (pc, L, .ref o :: st) => match h[o]? with
    | some (.inr (ci, fs)) => match fs[b]? with
      | some v => if len = 3 ∧ ci = a ∧ b < E_N a then some (pc + 3, L, v :: st) else none
      | none => none
    | _ => none
  | _ => none
def E_putf (isI : Bool) (oc len a b : Nat) (f : E_F) (h : E_H) : Option (E_F × E_H) := match f with
  | (pc, L, v :: .ref o :: st) => match h[o]? with
    | some (.inr (ci, fs)) => if len = 3 ∧ ci = a ∧ b < E_N a ∧ b < fs.length ∧ (E_fin a b = false ∨ (isI = true ∧ oc = a)) ∧ narrow (E_cty a b) v = v ∧ fits (E_cty a b) v = true then some ((pc + 3, L, st), h.set o (.inr (ci, fs.set b v))) else none
    | _ => none
  | _ => none
def E_ald (len : Nat) (tok : Nat → Bool) (f : E_F) (h : E_H) : Option E_F := match f with
  | (pc, L, .int i :: .ref o :: st) => match h[o]? with
    | some (.inl (t, n, .inl g)) => if len = 1 ∧ tok t = true ∧ E_inb i n = true then some (pc + 1, L, .int (g i.toNatClampNeg) :: st) else none
    | _ => none
  | _ => none
def E_lald (len : Nat) (f : E_F) (h : E_H) : Option E_F := match f with
  | (pc, L, .int i :: .ref o :: st) => match h[o]? with
    | some (.inl (t, n, .inr (.inl g))) => if len = 1 ∧ t = 3 ∧ E_inb i n = true then some (pc + 1, L, .long (g i.toNatClampNeg) :: st) else none
    | _ => none
  | _ => none
def E_aald (len : Nat) (f : E_F) (h : E_H) : Option E_F := match f with
  | (pc, L, .int i :: .ref o :: st) => match h[o]? with
    | some (.inl (t, n, .inr (.inr (.inr (.inr g))))) => if len = 1 ∧ 4 ≤ t ∧ t < 8 ∧ E_inb i n = true then some (pc + 1, L, va_rf (g i.toNatClampNeg) :: st) else none
    | _ => none
  | _ => none
def E_ast (len : Nat) (f : E_F) (h : E_H) : Option (E_F × E_H) := match f with
  | (pc, L, .int x :: .int i :: .ref o :: st) => match h[o]? with
    | some (.inl (t, n, .inl g)) => if len = 1 ∧ t = 0 ∧ E_inb i n = true then some ((pc + 1, L, st), h.set o (.inl (t, n, .inl (upd g i.toNatClampNeg x)))) else none
    | _ => none
  | _ => none
def E_bst (len : Nat) (f : E_F) (h : E_H) : Option (E_F × E_H) := match f with
  | (pc, L, .int x :: .int i :: .ref o :: st) => match h[o]? with
    | some (.inl (t, n, .inl g)) => if len = 1 ∧ E_inb i n = true then
        (if t = 1 then some ((pc + 1, L, st), h.set o (.inl (t, n, .inl (upd g i.toNatClampNeg (vp_nar .byte x)))))
         else if t = 2 then some ((pc + 1, L, st), h.set o (.inl (t, n, .inl (upd g i.toNatClampNeg (vp_nar .boolean x)))))
         else none) else none
    | _ => none
  | _ => none
def E_lst (len : Nat) (f : E_F) (h : E_H) : Option (E_F × E_H) := match f with
  | (pc, L, .long x :: .int i :: .ref o :: st) => match h[o]? with
    | some (.inl (t, n, .inr (.inl g))) => if len = 1 ∧ t = 3 ∧ E_inb i n = true then some ((pc + 1, L, st), h.set o (.inl (t, n, .inr (.inl (vp_updL g i.toNatClampNeg x))))) else none
    | _ => none
  | _ => none
def E_aast (len : Nat) (f : E_F) (h : E_H) : Option (E_F × E_H) := match f with
  | (pc, L, .ref v :: .int i :: .ref o :: st) => match h[o]?, h[v]? with
    | some (.inl (t, n, .inr (.inr (.inr (.inr g))))), some (.inr (ci, _)) => match E_CL[ci]? with
      | some (C, _, _) => if len = 1 ∧ E_ATY[t]? = some (.object C) ∧ E_inb i n = true then some ((pc + 1, L, st), h.set o (.inl (t, n, .inr (.inr (.inr (.inr (va_up g i.toNatClampNeg (some v)))))))) else none
      | none => none
    | _, _ => none
  | (pc, L, .null :: .int i :: .ref o :: st) => match h[o]? with
    | some (.inl (t, n, .inr (.inr (.inr (.inr g))))) => if len = 1 ∧ 4 ≤ t ∧ t < 7 ∧ E_inb i n = true then some ((pc + 1, L, st), h.set o (.inl (t, n, .inr (.inr (.inr (.inr (va_up g i.toNatClampNeg none))))))) else none
    | _ => none
  | _ => none
def E_alen (len : Nat) (f : E_F) (h : E_H) : Option E_F := match f with
  | (pc, L, .ref o :: st) => match h[o]? with
    | some (.inl (t, a)) => if len = 1 ∧ t < 8 then some (pc + 1, L, .int (Int32.ofNat a.1) :: st) else none
    | _ => none
  | _ => none
def E_dfl (ci : Nat) : List Value := (List.range (E_N ci)).map (fun k => defaultValue (E_cty ci k))
def E_new (len a : Nat) (f : E_F) (h : E_H) : Option (E_F × E_H) := if len = 3 ∧ a < 13 then some ((f.1 + 3, f.2.1, .ref h.length :: f.2.2), h ++ [.inr (a, E_dfl a)]) else none
def E_zer (a n : Nat) : vp_A := if a = 3 then (n, .inr (.inl (fun _ => 0))) else (n, .inl (fun _ => 0))
def E_newa (len a : Nat) (f : E_F) (h : E_H) : Option (E_F × E_H × Nat) := match f with
  | (pc, L, .int n :: st) => if len = 2 ∧ a < 4 ∧ ¬ n < 0 ∧ n.toNatClampNeg * 8 ≤ 536870912 then some ((pc + 2, L, .ref h.length :: st), h ++ [.inl (a, E_zer a n.toNatClampNeg)], n.toNatClampNeg) else none
  | _ => none
def E_newq (len a : Nat) (f : E_F) (h : E_H) : Option (E_F × E_H × Nat) := match f with
  | (pc, L, .int n :: st) => if len = 3 ∧ 4 ≤ a ∧ a < 7 ∧ ¬ n < 0 ∧ n.toNatClampNeg * 8 ≤ 536870912 then some ((pc + 3, L, .ref h.length :: st), h ++ [.inl (a, (n.toNatClampNeg, .inr (.inr (.inr (.inr (fun _ => none))))))], n.toNatClampNeg) else none
  | _ => none
def E_mna (len : Nat) (f : E_F) (h : E_H) : Option (E_F × E_H × Nat) := match f with
  | (pc, L, .int k :: .int n :: st) => if len = 4 ∧ ¬ n < 0 ∧ ¬ k < 0 ∧ n.toNatClampNeg * 8 ≤ 536870912 ∧ k.toNatClampNeg * 8 ≤ 536870912 then
      some ((pc + 4, L, .ref h.length :: st), h ++ (.inl (7, (n.toNatClampNeg, .inr (.inr (.inr (.inr (fun i => if i < n.toNatClampNeg then some (h.length + 1 + i) else none)))))) :: List.replicate n.toNatClampNeg (.inl (1, (k.toNatClampNeg, .inl (fun _ => 0))))), n.toNatClampNeg + n.toNatClampNeg * k.toNatClampNeg) else none
  | _ => none
def E_kI (oc i : Nat) : Option Int32 := (E_KI.find? (fun q => q.1 == oc && q.2.1 == i)).map (fun q => q.2.2)
def E_kL (oc i : Nat) : Option Int64 := (E_KL.find? (fun q => q.1 == oc && q.2.1 == i)).map (fun q => q.2.2)
def E_ldc (n oc i len : Nat) (f : E_F) : Option E_F := match E_kI oc i with
  | some v => if len = n then some (f.1 + n, f.2.1, .int v :: f.2.2) else none
  | none => none
def E_ldc2 (oc i len : Nat) (f : E_F) : Option E_F := match E_kL oc i with
  | some v => if len = 3 then some (f.1 + 3, f.2.1, .long v :: f.2.2) else none
  | none => none
/-- System.arraycopy over int or byte arrays -/
def E_copy (len : Nat) (f : E_F) (h : E_H) : Option (E_F × E_H) := match f with
  | (pc, L, .int n :: .int dp :: .ref d :: .int sp :: .ref o :: st) => match h[o]?, h[d]? with
    | some (.inl (t0, n0, .inl g0)), some (.inl (t1, n1, .inl g1)) =>
      if len = 3 ∧ t0 = t1 ∧ t0 < 2 ∧ ¬ sp < 0 ∧ ¬ dp < 0 ∧ ¬ n < 0 ∧ sp.toNatClampNeg + n.toNatClampNeg ≤ n0 ∧ dp.toNatClampNeg + n.toNatClampNeg ≤ n1 ∧ (t0 = 0 ∨ (List.range n.toNatClampNeg).all (fun i => fits .byte (.int (g0 (sp.toNatClampNeg + i)))) = true) then
        some ((pc + 3, L, st), h.set d (.inl (t1, n1, .inl (va_cpy g0 g1 sp.toNatClampNeg dp.toNatClampNeg n.toNatClampNeg)))) else none
    | _, _ => none
  | _ => none
def E_f1 (x : Option E_F) (h : E_H) : Option (E_F × E_H × Nat) := match x with
  | some f => some (f, h, 0)
  | none => none
def E_f2 (x : Option (E_F × E_H)) (n : Nat) : Option (E_F × E_H × Nat) := match x with
  | some (f, h) => some (f, h, n)
  | none => none
/-- all instructions but calls and returns -/
def E_heap (mx oc : Nat) (isI : Bool) (ins : Instr) (len a b : Nat) (f : E_F) (h : E_H) : Option (E_F × E_H × Nat) := match ins with
  | .getfield _ => E_f1 (E_getf len a b f h) h
  | .putfield _ => E_f2 (E_putf isI oc len a b f h) 0
  | .iaload => E_f1 (E_ald len (fun t => t == 0) f h) h
  | .baload => E_f1 (E_ald len (fun t => t == 1 || t == 2) f h) h
  | .laload => E_f1 (E_lald len f h) h
  | .aaload => E_f1 (E_aald len f h) h
  | .iastore => E_f2 (E_ast len f h) 0
  | .bastore => E_f2 (E_bst len f h) 0
  | .lastore => E_f2 (E_lst len f h) 0
  | .aastore => E_f2 (E_aast len f h) 0
  | .arraylength => E_f1 (E_alen len f h) h
  | .new _ => E_f2 (E_new len a f h) (E_N a)
  | .newarray _ => E_newa len a f h
  | .anewarray _ => E_newq len a f h
  | .multianewarray _ d => if d = 2 then E_mna len f h else none
  | .ldc i => E_f1 (E_ldc 2 oc i len f) h
  | .ldc_w i => E_f1 (E_ldc 3 oc i len f) h
  | .ldc2_w i => E_f1 (E_ldc2 oc i len f) h
  | ins => E_f1 (E_pure mx ins len f) h
end
section
/-! the evaluator: calls by an oracle, depth by depth -/
abbrev E_R : Type := Option Value × E_H × Nat
def E_find : List E_C → Nat → Option (Instr × Nat × Nat × Nat)
  | [], _ => none
  | r :: t, pc => if r.1 = pc then some r.2 else E_find t pc
def E_isI (M : E_MI) : Bool := decide (M.2.1.name = "<init>")
/-- a call: which method, its arguments (the receiver first), what stays on the stack -/
def E_pop2 (inst : Bool) (na : Nat) (st : List Value) : Option (List Value × List Value) := bif inst then (match st.drop na with
    | .ref o :: rest => if na ≤ st.length then some (.ref o :: (st.take na).reverse, rest) else none
    | _ => none) else (if na ≤ st.length then some ((st.take na).reverse, st.drop na) else none)
def E_catS (st : List Value) : Nat := (st.map (fun v => v.category)).sum
def E_rcv (M : E_MI) (vs : List Value) (h : E_H) : Bool := match vs with
  | .ref o :: _ => match h[o]? with
    | some (.inr (ci, _)) => ci == M.1 && decide (ci < 13)
    | _ => false
  | _ => false
def E_kok (kind : Nat) (M : E_MI) (vs : List Value) (h : E_H) : Bool := match kind with
  | 0 => M.2.2.2.2.2.1
  | 1 => !M.2.2.2.2.2.1 && !E_isI M && E_rcv M vs h
  | 2 => !M.2.2.2.2.2.1 && E_isI M && decide (M.2.2.2.2.1 = none)
  | _ => false
def E_inv (orc : Nat → List Value → E_H → Option E_R) (kind : Nat) (a : Nat) (f : E_F) (h : E_H) (sl : Nat) : Option (E_F × E_H × Nat) := match E_mi a with
  | none => none
  | some M => match E_pop2 (!M.2.2.2.2.2.1) M.2.2.2.2.2.2.1 f.2.2 with
    | none => none
    | some (vs, rest) =>
      if E_kok kind M vs h = true then
        (if E_catS rest ≤ 8 then (match orc a vs h with
        | none => none
        | some (r, h2, s2) => some ((f.1 + 3, f.2.1, r.toList ++ rest), h2, sl + s2)) else none) else none
/-- Math.max (288), Math.min -/
def E_mm (a : Nat) (f : E_F) : Option E_F := match f with
  | (pc, L, .int y :: .int x :: st) => some (pc + 3, L, .int (if a = 288 then (if x < y then y else x) else (if y < x then y else x)) :: st)
  | _ => none
def E_step (orc : Nat → List Value → E_H → Option E_R) (M : E_MI) (f : E_F) (h : E_H) (sl : Nat) : Option ((E_F × E_H × Nat) ⊕ E_R) := match E_find M.2.2.2.2.2.2.2 f.1 with
  | none => none
  | some (ins, len, a, b) => match ins with
    | .ireturn => match f.2.2, M.2.2.2.2.1 with
      | [.int v], some ty => if len = 1 ∧ narrow ty (.int v) = .int v then some (.inr (some (.int v), h, sl)) else none
      | _, _ => none
    | .lreturn => match f.2.2, M.2.2.2.2.1 with
      | [.long v], some .long => if len = 1 then some (.inr (some (.long v), h, sl)) else none
      | _, _ => none
    | .areturn => match f.2.2, M.2.2.2.2.1 with
      | [.ref v], some (.object _) => if len = 1 then some (.inr (some (.ref v), h, sl)) else none
      | [.ref v], some (.array _) => if len = 1 then some (.inr (some (.ref v), h, sl)) else none
      | [.null], some (.object _) => if len = 1 then some (.inr (some .null, h, sl)) else none
      | _, _ => none
    | .return_ => match f.2.2, M.2.2.2.2.1 with
      | [], none => if len = 1 then some (.inr (none, h, sl)) else none
      | _, _ => none
    | .invokestatic _ => if len = 3 ∧ a ≠ 900 then (if a = 998 then (if E_catS f.2.2 ≤ 16 then (match E_copy len f h with
        | some (f2, h2) => some (.inl (f2, h2, sl))
        | none => none) else none) else (if a = 288 ∨ a = 289 then (if b = 0 ∧ E_catS f.2.2 ≤ 16 then (match E_mm a f with
        | some f2 => some (.inl (f2, h, sl))
        | none => none) else none) else (match E_inv orc 0 a f h sl with
        | some q => some (.inl q)
        | none => none))) else none
    | .invokevirtual _ => if len = 3 ∧ a < 900 then (match E_inv orc 1 a f h sl with
        | some q => some (.inl q)
        | none => none) else none
    | .invokespecial _ => if len = 3 ∧ a ≠ 900 then (if a = 999 then (match f with
        | (pc, L, .ref _ :: st) => if E_catS st ≤ 8 then some (.inl ((pc + 3, L, st), h, sl)) else none
        | _ => none) else (match E_inv orc 2 a f h sl with
        | some q => some (.inl q)
        | none => none)) else none
    | ins => match E_heap M.2.2.2.1 M.1 (E_isI M) ins len a b f h with
      | some (f2, h2, n) => some (.inl (f2, h2, sl + n))
      | none => none
def E_run (orc : Nat → List Value → E_H → Option E_R) (M : E_MI) : Nat → E_F → E_H → Nat → Option E_R
  | 0, _, _, _ => none
  | n + 1, f, h, sl => match E_step orc M f h sl with
    | none => none
    | some (.inr r) => some r
    | some (.inl (f2, h2, s2)) => E_run orc M n f2 h2 s2
def E_call (fuel : Nat) : Nat → Nat → List Value → E_H → Option E_R
  | 0, _, _, _ => none
  | d + 1, a, vs, h => match E_mi a with
    | none => none
    | some M => if (lg_sl vs).length ≤ M.2.2.2.1 then E_run (E_call fuel d) M fuel (0, lv_args 0 vs, []) h 0 else none
end
section
/-! the abstract heap and the machine's -/
def E_aT (TY : List (ClassId × FieldType)) (t : Nat) : ClassId := (TY.getD t (0, .int)).1
def E_dat (sz : Nat) (a : vp_A) : vp_A := (a.1, match a.2 with
  | .inr (.inr (.inr (.inr g))) => .inr (.inr (.inr (.inr (fun j => (g j).map (fun k => sz + k)))))
  | x => x)
def E_e (TY : List (ClassId × FieldType)) (sz : Nat) (x : E_O) : va_E := match x with
  | .inl (t, a) => .inl (E_aT TY t, E_dat sz a)
  | .inr (ci, fs) => .inr (ci, fs.map (E_v sz))
def E_ws (TY : List (ClassId × FieldType)) (sz : Nat) (h : E_H) : va_W := h.mapIdx (fun k x => (sz + k, E_e TY sz x))
theorem E_ws_get {TY : List (ClassId × FieldType)} {sz : Nat} {h : E_H} {k : Nat} {x : E_O} (hk : h[k]? = some x) : (E_ws TY sz h)[k]? = some (sz + k, E_e TY sz x) := by
  unfold E_ws
  rw [List.getElem?_mapIdx, hk]
  rfl
theorem E_ws_inv {TY : List (ClassId × FieldType)} {sz : Nat} {h : E_H} {k : Nat} {q : Nat × va_E} (hk : (E_ws TY sz h)[k]? = some q) : q.1 = sz + k ∧ k < h.length := by
  unfold E_ws at hk
  rw [List.getElem?_mapIdx] at hk
  cases hh : h[k]? with
  | none => rw [hh] at hk; cases hk
  | some x =>
    rw [hh] at hk
    cases hk
    exact ⟨rfl, (List.getElem?_eq_some_iff.mp hh).1⟩
theorem E_ws_len {TY : List (ClassId × FieldType)} {sz : Nat} {h : E_H} : (E_ws TY sz h).length = h.length := by unfold E_ws; simp
theorem E_ws_set {TY : List (ClassId × FieldType)} {sz : Nat} {h : E_H} {k : Nat} {x : E_O} : (E_ws TY sz h).set k (sz + k, E_e TY sz x) = E_ws TY sz (h.set k x) := by
  apply List.ext_getElem?
  intro i
  unfold E_ws
  rw [List.getElem?_mapIdx, List.getElem?_set, List.getElem?_set, List.getElem?_mapIdx, List.length_mapIdx]
  by_cases e : k = i
  · subst e
    simp only [if_true]
    by_cases hk : k < h.length
    · simp [hk]
    · simp [hk]
  · simp [e]
theorem E_ws_app {TY : List (ClassId × FieldType)} {sz : Nat} {h : E_H} {x : E_O} : E_ws TY sz h ++ [(sz + h.length, E_e TY sz x)] = E_ws TY sz (h ++ [x]) := by
  unfold E_ws
  rw [List.mapIdx_append]
  simp
theorem E_ws_D {TY : List (ClassId × FieldType)} {sz : Nat} {h : E_H} : va_D (fun q => sz ≤ q) (E_ws TY sz h) := by
  refine ⟨fun i j x y hi hj hxy => ?_, fun k x hk => ?_⟩
  · have h1 := (E_ws_inv hi).1
    have h2 := (E_ws_inv hj).1
    omega
  · have h1 := (E_ws_inv hk).1
    show sz ≤ x.1
    omega
def E_NW (s : State) : Prop := (∀ q ∈ E_MN, va_Nw (E_MNw q) s) ∧ va_AO "GramFinder$Row" s ∧ va_AO "GramFinder$Part" s ∧ va_AO "GramFinder$Entry" s ∧ (Cond.arrayOver (.array .byte)).before #[] s = true
/-- what stays the same within a method's run -/
def E_X (p : Program) (s : State) (m : MethodId) (args : Array Value) (meth : Method) (c : Code) (cc : ByteArray) (nL oc : Nat) (isI : Bool) (D : va_G) (TY : List (ClassId × FieldType)) (sz n0 : Nat) : Prop :=
  p.tables.exec = Jvm.exec ∧ c.code = cc ∧ c.maxLocals = nL ∧ (∀ w ∈ E_GT, w.before args s = true) ∧ s.vm.findClass (E_cn oc) = some m.cls ∧ va_K D E_CL TY s ∧ TY.map Prod.snd = E_ATY ∧ E_NW s ∧ (isI = true → meth.name = "<init>") ∧ s.heap.size = sz + n0
def E_S (D : va_G) (TY : List (ClassId × FieldType)) (sz n0 : Nat) (s : State) (h : E_H) (H : Heap) (locs : List Loc) : Prop :=
  va_P D E_CL (E_ws TY sz h) H ∧ va_S (fun q => sz ≤ q) s.heap H locs ∧ n0 ≤ h.length
theorem E_ty {TY : List (ClassId × FieldType)} (hT : TY.map Prod.snd = E_ATY) {t : Nat} {ty : FieldType} (ht : E_ATY[t]? = some ty) : TY[t]? = some (E_aT TY t, ty) := by
  rw [← hT, List.getElem?_map] at ht
  unfold E_aT
  cases hq : TY[t]? with
  | none => rw [hq] at ht; cases ht
  | some q =>
    rw [hq] at ht
    cases ht
    rw [List.getD_eq_getElem?_getD, hq]
    rfl
theorem va_RA_one {s : State} {c1 c2 : ClassId} {ty : FieldType} (h1 : va_RA s c1 ty) (h2 : va_RA s c2 ty) : c1 = c2 := by
  cases ty with
  | object C =>
    obtain ⟨_, _, _, _, _, e1⟩ := h1
    obtain ⟨_, _, _, _, _, e2⟩ := h2
    exact Option.some.inj (e1.symm.trans e2)
  | _ => exact Option.some.inj (Eq.trans (Eq.symm h1) h2)
theorem E_K_new {D : va_G} {TY : List (ClassId × FieldType)} {s : State} {cA : ClassId} {ty : FieldType} {t : Nat} (hT : TY.map Prod.snd = E_ATY) (ht : E_ATY[t]? = some ty) (hK : va_K D E_CL TY s) (hK2 : va_K D E_CL (TY ++ [(cA, ty)]) s) : cA = E_aT TY t := by
  have h1 := (hK.2 t _ (E_ty hT ht)).2
  have h2 := (hK2.2 TY.length (cA, ty) (by rw [List.getElem?_append_right (Nat.le_refl _), Nat.sub_self]; rfl)).2
  exact va_RA_one h2 h1
/-- where a new cell lies -/
theorem E_addr {D : va_G} {TY : List (ClassId × FieldType)} {sz : Nat} {h : E_H} {H1 : Heap} {q : Nat} {x : va_E} (hP : va_P D E_CL (E_ws TY sz h ++ [(q, x)]) H1) (hD : va_D (fun q => sz ≤ q) (E_ws TY sz h ++ [(q, x)])) (hz : H1.size ≤ sz + h.length + 1) : q = sz + h.length := by
  have hl : (E_ws TY sz h ++ [(q, x)])[h.length]? = some (q, x) := by
    rw [List.getElem?_append_right (by rw [E_ws_len]; exact Nat.le_refl _), E_ws_len, Nat.sub_self]
    rfl
  have h1 : q < H1.size := (hP _ _ hl).lt
  have h2 : sz ≤ q := hD.2 _ _ hl
  rcases Nat.lt_or_ge q (sz + h.length) with h3 | h3
  · exfalso
    have hk : q - sz < h.length := by omega
    have hg : (E_ws TY sz h ++ [(q, x)])[q - sz]? = some (sz + (q - sz), E_e TY sz h[q - sz]) := by
      rw [List.getElem?_append_left (by rw [E_ws_len]; exact hk)]
      exact E_ws_get (List.getElem?_eq_getElem hk)
    have := hD.1 _ _ _ _ hg hl (by show sz + (q - sz) = q; omega)
    omega
  · omega
section EH
variable {p : Program} {l : Launch} {e : Env} {R : Room} {s : State} {m : MethodId} {args : Array Value} {below : List Frame} {meth : Method} {c : Code} {H : Heap} {locs : List Loc} {cells slots : Nat} {Q : State → Prop} {cc : ByteArray} {sz nL n0 oc : Nat} {D : va_G} {TY : List (ClassId × FieldType)} {isI : Bool}
theorem E_wsz {g : JFrame} (k : H.size ≤ s.heap.size + cells → W p l e R s m args below meth c H locs cells slots Q g) : W p l e R s m args below meth c H locs cells slots Q g := fun T hT X => k (by rw [← hT]; exact X.heapSize) T hT X
theorem E_size {h : E_H} (hS : E_S D TY sz n0 s h H locs) (hz : s.heap.size = sz + n0) (hb : H.size ≤ s.heap.size + (h.length - n0)) : H.size = sz + h.length := by
  obtain ⟨hP, hV, hn⟩ := hS
  have h1 := hV.1
  rcases Nat.eq_or_lt_of_le hn with q | q
  · omega
  · have hk : h.length - 1 < h.length := by omega
    have h2 : sz + (h.length - 1) < H.size := (hP _ _ (E_ws_get (List.getElem?_eq_getElem hk))).lt
    omega
def E_G (p : Program) (l : Launch) (e : Env) (R : Room) (s : State) (m : MethodId) (args : Array Value) (below : List Frame) (meth : Method) (c : Code) (sz nL n0 : Nat) (D : va_G) (TY : List (ClassId × FieldType)) (Q : State → Prop) (f : E_F) (h : E_H) (sl : Nat) : Prop :=
  ∀ (H : Heap) (locs : List Loc), E_S D TY sz n0 s h H locs → E_W p l e R s m args below meth c sz nL Q H locs (h.length - n0) sl f
/-- a store's end -/
theorem E_stored {h : E_H} {o : Nat} {x : E_O} {H1 : Heap} {locs1 : List Loc} (hn : n0 ≤ h.length) (hP : va_P D E_CL ((E_ws TY sz h).set o (sz + o, E_e TY sz x)) H1) (hV : va_S (fun q => sz ≤ q) s.heap H1 locs1) : E_S D TY sz n0 s (h.set o x) H1 locs1 := ⟨by rw [← E_ws_set]; exact hP, hV, by rw [List.length_set]; exact hn⟩
end EH
end
section
theorem E_cl_ok (ci : Nat) (C : String) (T : u_T) (N : Nat) (h : E_CL[ci]? = some (C, T, N)) : (∀ k, k < N → parseFieldDescriptor (T k).2.2.1 = some (E_cty ci k)) ∧ (∀ a, a < N → ∀ b, b < N → a ≠ b → (T a).2.1 ≠ (T b).2.1) ∧ (∀ w ∈ u_ws C T N, w ∈ E_GT) ∧ Cond.instantiable C N ∈ E_GT ∧ Cond.initialized C ∈ E_GT ∧ (∀ k, k < N → (T k).1 = C) ∧ E_cn ci = C ∧ E_N ci = N ∧ (∀ k, E_fin ci k = (T k).2.2.2) := by
  match ci, h with
  | 0, h =>
    have q : (E_R0, E_T0, _) = (C, T, N) := Option.some.inj h
    cases q
    exact ⟨E_ct0, E_cn0, E_cw0, E_ci0, E_cz0, E_cd0, rfl, rfl, fun _ => rfl⟩
  | 1, h =>
    have q : (E_R1, E_T1, _) = (C, T, N) := Option.some.inj h
    cases q
    exact ⟨E_ct1, E_cn1, E_cw1, E_ci1, E_cz1, E_cd1, rfl, rfl, fun _ => rfl⟩
  | 2, h =>
    have q : (E_R2, E_T2, _) = (C, T, N) := Option.some.inj h
    cases q
    exact ⟨E_ct2, E_cn2, E_cw2, E_ci2, E_cz2, E_cd2, rfl, rfl, fun _ => rfl⟩
  | 3, h =>
    have q : (E_R3, E_T3, _) = (C, T, N) := Option.some.inj h
    cases q
    exact ⟨E_ct3, E_cn3, E_cw3, E_ci3, E_cz3, E_cd3, rfl, rfl, fun _ => rfl⟩
  | 4, h =>
    have q : (E_R4, E_T4, _) = (C, T, N) := Option.some.inj h
    cases q
    exact ⟨E_ct4, E_cn4, E_cw4, E_ci4, E_cz4, E_cd4, rfl, rfl, fun _ => rfl⟩
  | 5, h =>
    have q : (E_R5, E_T5, _) = (C, T, N) := Option.some.inj h
    cases q
    exact ⟨E_ct5, E_cn5, E_cw5, E_ci5, E_cz5, E_cd5, rfl, rfl, fun _ => rfl⟩
  | 6, h =>
    have q : (E_R6, E_T6, _) = (C, T, N) := Option.some.inj h
    cases q
    exact ⟨E_ct6, E_cn6, E_cw6, E_ci6, E_cz6, E_cd6, rfl, rfl, fun _ => rfl⟩
  | 7, h =>
    have q : (E_R7, E_T7, _) = (C, T, N) := Option.some.inj h
    cases q
    exact ⟨E_ct7, E_cn7, E_cw7, E_ci7, E_cz7, E_cd7, rfl, rfl, fun _ => rfl⟩
  | 8, h =>
    have q : (E_R8, E_T8, _) = (C, T, N) := Option.some.inj h
    cases q
    exact ⟨E_ct8, E_cn8, E_cw8, E_ci8, E_cz8, E_cd8, rfl, rfl, fun _ => rfl⟩
  | 9, h =>
    have q : (E_R9, E_T9, _) = (C, T, N) := Option.some.inj h
    cases q
    exact ⟨E_ct9, E_cn9, E_cw9, E_ci9, E_cz9, E_cd9, rfl, rfl, fun _ => rfl⟩
  | 10, h =>
    have q : (E_R10, E_T10, _) = (C, T, N) := Option.some.inj h
    cases q
    exact ⟨E_ct10, E_cn10, E_cw10, E_ci10, E_cz10, E_cd10, rfl, rfl, fun _ => rfl⟩
  | 11, h =>
    have q : (E_R11, E_T11, _) = (C, T, N) := Option.some.inj h
    cases q
    exact ⟨E_ct11, E_cn11, E_cw11, E_ci11, E_cz11, E_cd11, rfl, rfl, fun _ => rfl⟩
  | 12, h =>
    have q : (E_R12, E_T12, _) = (C, T, N) := Option.some.inj h
    cases q
    exact ⟨E_ct12, E_cn12, E_cw12, E_ci12, E_cz12, E_cd12, rfl, rfl, fun _ => rfl⟩
  | n + 13, h => exact absurd h (by simp [E_CL])
theorem E_cl_some {ci k : Nat} (h : k < E_N ci) : ∃ C T, E_CL[ci]? = some (C, T, E_N ci) := by
  cases hq : E_CL[ci]? with
  | none =>
    unfold E_N at h
    rw [hq] at h
    exact absurd h (Nat.not_lt_zero _)
  | some q =>
    obtain ⟨C, T, N⟩ := q
    refine ⟨C, T, ?_⟩
    unfold E_N
    rw [hq]
theorem E_cl_13 {ci : Nat} (h : ci < 13) : ∃ C T, E_CL[ci]? = some (C, T, E_N ci) := by
  have hl : ci < E_CL.length := h
  have hq := List.getElem?_eq_getElem hl
  refine ⟨E_CL[ci].1, E_CL[ci].2.1, ?_⟩
  unfold E_N
  rw [hq]
theorem E_aw0 : Cond.arrayClass .int ∈ E_GT := List.mem_filter.mpr ⟨List.mem_of_getElem? (i := 196) (by decide +kernel), rfl⟩
theorem E_aw1 : Cond.arrayClass .byte ∈ E_GT := List.mem_filter.mpr ⟨List.mem_of_getElem? (i := 195) (by decide +kernel), rfl⟩
theorem E_aw2 : Cond.arrayClass .boolean ∈ E_GT := List.mem_filter.mpr ⟨List.mem_of_getElem? (i := 1531) (by decide +kernel), rfl⟩
theorem E_aw3 : Cond.arrayClass .long ∈ E_GT := List.mem_filter.mpr ⟨List.mem_of_getElem? (i := 268) (by decide +kernel), rfl⟩
theorem E_wac1 : Cond.native arraycopyName ∈ E_GT := List.mem_filter.mpr ⟨List.mem_of_getElem? (i := 596) (by decide +kernel), rfl⟩
theorem E_wac2 : Cond.static arraycopyName ∈ E_GT := List.mem_filter.mpr ⟨List.mem_of_getElem? (i := 595) (by decide +kernel), rfl⟩
theorem E_wac3 : Cond.initialized "java/lang/System" ∈ E_GT := List.mem_filter.mpr ⟨List.mem_of_getElem? (i := 159) (by decide +kernel), rfl⟩
theorem E_wo1 : Cond.instanceMethod Lib.objectInit ∈ E_GT := List.mem_filter.mpr ⟨List.mem_of_getElem? (i := 168) (by decide +kernel), rfl⟩
theorem E_wo2 : Cond.code Lib.objectInit ⟨#[0xb1]⟩ 1 none ∈ E_GT := List.mem_filter.mpr ⟨List.mem_of_getElem? (i := 169) (by decide +kernel), rfl⟩
theorem E_wmx0 : Cond.initialized "java/lang/Math" ∈ E_GT := List.mem_filter.mpr ⟨List.mem_of_getElem? (i := 151) (by decide +kernel), rfl⟩
theorem E_wmx1 : Cond.static Lib.Math.max.name ∈ E_GT := List.mem_filter.mpr ⟨List.mem_of_getElem? (i := 309) (by decide +kernel), rfl⟩
theorem E_wmx2 : Cond.code Lib.Math.max.name Lib.Math.max.code 2 (some .int) ∈ E_GT := List.mem_filter.mpr ⟨List.mem_of_getElem? (i := 310) (by decide +kernel), rfl⟩
theorem E_wmn1 : Cond.static Lib.Math.min.name ∈ E_GT := List.mem_filter.mpr ⟨List.mem_of_getElem? (i := 592) (by decide +kernel), rfl⟩
theorem E_wmn2 : Cond.code Lib.Math.min.name Lib.Math.min.code 2 (some .int) ∈ E_GT := List.mem_filter.mpr ⟨List.mem_of_getElem? (i := 593) (by decide +kernel), rfl⟩
end
section
section EHS
variable {p : Program} {l : Launch} {e : Env} {R : Room} {s : State} {m : MethodId} {args : Array Value} {below : List Frame} {meth : Method} {c : Code} {H : Heap} {locs : List Loc} {cells slots : Nat} {Q : State → Prop} {cc : ByteArray} {sz nL n0 oc : Nat} {D : va_G} {TY : List (ClassId × FieldType)} {isI : Bool}
theorem E_f1_i {x : Option E_F} {h h' : E_H} {f' : E_F} {n : Nat} (q : E_f1 x h = some (f', h', n)) : x = some f' ∧ h' = h ∧ n = 0 := by
  cases x with
  | none => cases q
  | some y => cases q; exact ⟨rfl, rfl, rfl⟩
theorem E_f2_i {x : Option (E_F × E_H)} {h' : E_H} {f' : E_F} {n k : Nat} (q : E_f2 x k = some (f', h', n)) : x = some (f', h') ∧ n = k := by
  cases x with
  | none => cases q
  | some y => cases q; exact ⟨rfl, rfl⟩
theorem E_inb_ok {i : Int32} {n : Nat} (h : E_inb i n = true) : vp_in i n := (of_decide_eq_true h : ¬ (i < 0 ∨ n ≤ i.toNatClampNeg))
theorem E_rf_v {sz : Nat} (r : Option Nat) : va_rf (r.map (fun k => sz + k)) = E_v sz (va_rf r) := by cases r <;> rfl
theorem E_getf_ok (X : E_X p s m args meth c cc nL oc isI D TY sz n0) {i len a b : Nat} {f f' : E_F} {h : E_H} {sl : Nat} (hr : E_has4 E_FL oc i a b = true) (q : E_getf len a b f h = some f') (hd : decode cc f.1 = .ok (.getfield i, len)) (kk : E_G p l e R s m args below meth c sz nL n0 D TY Q f' h sl) : E_G p l e R s m args below meth c sz nL n0 D TY Q f h sl := by
  obtain ⟨hx, hb, hml, hts, hown, hK, hT, hN, hI, hz⟩ := X
  unfold E_getf at q
  split at q
  · rename_i pc L o st
    split at q
    · rename_i ci fs ho
      split at q
      · rename_i v hv
        split at q
        · rename_i g
          obtain ⟨rfl, rfl, hN'⟩ := g
          cases q
          intro H locs hS ls hl
          obtain ⟨C, T, hc⟩ := E_cl_some hN'
          obtain ⟨c1, c2, c3, c4, c5, c6, c7, c8, c9⟩ := E_cl_ok _ _ _ _ hc
          have hw := E_FL_ok _ (List.mem_map.mpr ⟨_, E_has4_m hr, rfl⟩)
          unfold E_FLw at hw
          rw [show E_CL[((oc, i, ci, b) : Nat × Nat × Nat × Nat).2.2.1]? = some (C, T, E_N ci) from hc] at hw
          exact va_get hx hb hts c3 hown hK hS.1 o (E_ws_get ho) hc b hN' (hts _ hw) (fun _ z => z) (by show (fs.map (E_v sz))[b]? = some (E_v sz v); rw [List.getElem?_map, hv]; rfl) hd (kk H locs hS ls hl)
        · cases q
      · cases q
    · cases q
  · cases q
theorem E_fits_v (sz : Nat) (ty : FieldType) (v : Value) : fits ty (E_v sz v) = fits ty v := by cases v <;> cases ty <;> rfl
theorem E_nar_v (sz : Nat) (ty : FieldType) (v : Value) (h : narrow ty v = v) : narrow ty (E_v sz v) = E_v sz v := by
  cases v <;> first | exact h | (cases ty <;> rfl)
theorem E_putf_ok (X : E_X p s m args meth c cc nL oc isI D TY sz n0) {i len a b : Nat} {f f' : E_F} {h h' : E_H} {sl : Nat} (hr : E_has4 E_FL oc i a b = true) (q : E_putf isI oc len a b f h = some (f', h')) (hd : decode cc f.1 = .ok (.putfield i, len)) (kk : E_G p l e R s m args below meth c sz nL n0 D TY Q f' h' sl) : E_G p l e R s m args below meth c sz nL n0 D TY Q f h sl := by
  obtain ⟨hx, hb, hml, hts, hown, hK, hT, hN, hI, hz⟩ := X
  unfold E_putf at q
  split at q
  · rename_i pc L v o st
    split at q
    · rename_i ci fs ho
      split at q
      · rename_i g
        obtain ⟨rfl, rfl, hN', hfl, hfin, hnar, hfit⟩ := g
        cases q
        intro H locs hS ls hl
        obtain ⟨C, T, hc⟩ := E_cl_some hN'
        obtain ⟨c1, c2, c3, c4, c5, c6, c7, c8, c9⟩ := E_cl_ok _ _ _ _ hc
        have hw := E_FL_ok _ (List.mem_map.mpr ⟨_, E_has4_m hr, rfl⟩)
        unfold E_FLw at hw
        rw [show E_CL[((oc, i, ci, b) : Nat × Nat × Nat × Nat).2.2.1]? = some (C, T, E_N ci) from hc] at hw
        have hset : (sz + o, (.inr (ci, (fs.map (E_v sz)).set b (E_v sz v)) : va_E)) = (sz + o, E_e TY sz (.inr (ci, fs.set b v))) := by
          show _ = (sz + o, (.inr (ci, (fs.set b v).map (E_v sz)) : va_E))
          rw [List.map_set]
        by_cases hfb : E_fin ci b = false
        · refine va_put hx hb hts c3 (E_cty ci) c1 c2 hown hK hS.1 E_ws_D hS.2.1 o (E_ws_get ho) hc b hN' (hts _ hw) (fun _ z => z) (by rw [← c9]; exact hfb) (c1 b hN') (E_nar_v sz _ _ hnar) (by rw [E_fits_v]; exact hfit) (by rw [List.length_map]; exact hfl) hd (fun H1 locs1 hP hD hV => ?_)
          rw [hset] at hP
          have := kk H1 locs1 (E_stored hS.2.2 hP hV) ls hl
          rw [List.length_set] at this
          exact this
        · obtain ⟨hI1, rfl⟩ := hfin.resolve_left hfb
          refine va_putF hx hb hts c3 (E_cty oc) c1 c2 hown hK hS.1 E_ws_D hS.2.1 o (E_ws_get ho) hc b hN' (hts _ hw) (fun _ z => z) (by rw [← c9]; cases hfz : E_fin oc b <;> first | exact absurd hfz hfb | rfl) (hI hI1) (by rw [c6 b hN', c7]) (c1 b hN') (E_nar_v sz _ _ hnar) (by rw [E_fits_v]; exact hfit) (by rw [List.length_map]; exact hfl) hd (fun H1 locs1 hP hD hV => ?_)
          rw [hset] at hP
          have := kk H1 locs1 (E_stored hS.2.2 hP hV) ls hl
          rw [List.length_set] at this
          exact this
      · cases q
    · cases q
  · cases q
theorem E_ald_ok (X : E_X p s m args meth c cc nL oc isI D TY sz n0) {ins : Instr} {tok : Nat → Bool} {len : Nat} {f f' : E_F} {h : E_H} {sl : Nat} (q : E_ald len tok f h = some f') (hd : decode cc f.1 = .ok (ins, len)) (hi : (ins = .iaload ∧ ∀ t, tok t = true → t = 0) ∨ (ins = .baload ∧ ∀ t, tok t = true → t = 1 ∨ t = 2)) (kk : E_G p l e R s m args below meth c sz nL n0 D TY Q f' h sl) : E_G p l e R s m args below meth c sz nL n0 D TY Q f h sl := by
  obtain ⟨hx, hb, hml, hts, hown, hK, hT, hN, hI, hz⟩ := X
  unfold E_ald at q
  split at q
  · rename_i pc L i o st
    split at q
    · rename_i t n g ho
      split at q
      · rename_i w
        obtain ⟨rfl, ht, hin⟩ := w
        cases q
        intro H locs hS ls hl
        have hg : (E_ws TY sz h)[o]? = some (sz + o, .inl (E_aT TY t, n, .inl g)) := E_ws_get ho
        rcases hi with ⟨rfl, hq⟩ | ⟨rfl, hq⟩
        · have := hq t ht
          subst this
          exact va_iald hx hb hK hS.1 o 0 hg (E_ty hT rfl) (E_inb_ok hin) hd (kk H locs hS ls hl)
        · rcases hq t ht with rfl | rfl
          · exact va_bald hx hb hK hS.1 o 1 hg (E_ty hT rfl) (E_inb_ok hin) hd (kk H locs hS ls hl)
          · exact va_zald hx hb hK hS.1 o 2 hg (E_ty hT rfl) (E_inb_ok hin) hd (kk H locs hS ls hl)
      · cases q
    · cases q
  · cases q
theorem E_lald_ok (X : E_X p s m args meth c cc nL oc isI D TY sz n0) {len : Nat} {f f' : E_F} {h : E_H} {sl : Nat} (q : E_lald len f h = some f') (hd : decode cc f.1 = .ok (.laload, len)) (kk : E_G p l e R s m args below meth c sz nL n0 D TY Q f' h sl) : E_G p l e R s m args below meth c sz nL n0 D TY Q f h sl := by
  obtain ⟨hx, hb, hml, hts, hown, hK, hT, hN, hI, hz⟩ := X
  unfold E_lald at q
  split at q
  · rename_i pc L i o st
    split at q
    · rename_i t n g ho
      split at q
      · rename_i w
        obtain ⟨rfl, rfl, hin⟩ := w
        cases q
        intro H locs hS ls hl
        have hg : (E_ws TY sz h)[o]? = some (sz + o, .inl (E_aT TY 3, n, .inr (.inl g))) := E_ws_get ho
        exact va_lald hx hb hK hS.1 o 3 hg (E_ty hT rfl) (E_inb_ok hin) hd (kk H locs hS ls hl)
      · cases q
    · cases q
  · cases q
theorem E_aty_ref {t : Nat} (h1 : 4 ≤ t) (h2 : t < 8) : ∃ ty, E_ATY[t]? = some ty ∧ ty.isReference = true := by
  rcases (show t = 4 ∨ t = 5 ∨ t = 6 ∨ t = 7 by omega) with rfl | rfl | rfl | rfl <;> exact ⟨_, rfl, rfl⟩
theorem E_aty_obj {t : Nat} (h1 : 4 ≤ t) (h2 : t < 7) : ∃ C, E_ATY[t]? = some (.object C) := by
  rcases (show t = 4 ∨ t = 5 ∨ t = 6 by omega) with rfl | rfl | rfl <;> exact ⟨_, rfl⟩
theorem E_aald_ok (X : E_X p s m args meth c cc nL oc isI D TY sz n0) {len : Nat} {f f' : E_F} {h : E_H} {sl : Nat} (q : E_aald len f h = some f') (hd : decode cc f.1 = .ok (.aaload, len)) (kk : E_G p l e R s m args below meth c sz nL n0 D TY Q f' h sl) : E_G p l e R s m args below meth c sz nL n0 D TY Q f h sl := by
  obtain ⟨hx, hb, hml, hts, hown, hK, hT, hN, hI, hz⟩ := X
  unfold E_aald at q
  split at q
  · rename_i pc L i o st
    split at q
    · rename_i t n g ho
      split at q
      · rename_i w
        obtain ⟨rfl, ht1, ht2, hin⟩ := w
        cases q
        intro H locs hS ls hl
        have hg : (E_ws TY sz h)[o]? = some (sz + o, .inl (E_aT TY t, n, .inr (.inr (.inr (.inr (fun j => (g j).map (fun k => sz + k))))))) := E_ws_get ho
        obtain ⟨ty, e1, e2⟩ := E_aty_ref ht1 ht2
        have hin' := E_inb_ok hin
        have hlt : i.toNatClampNeg < n := Nat.not_le.mp fun z => hin' (Or.inr z)
        have k2 := kk H locs hS ls hl
        rw [show ((pc + 1, L, va_rf (g i.toNatClampNeg) :: st) : E_F).2.2.map (E_v sz) = va_rf ((g i.toNatClampNeg).map (fun k => sz + k)) :: st.map (E_v sz) by rw [E_rf_v]; rfl] at k2
        exact W.aald (v := va_rf ((g i.toNatClampNeg).map (fun k => sz + k))) (ty := ty) hx hb (hS.1 o _ hg) ((hK.2 t _ (E_ty hT e1)).1 n (fun j => va_rf ((g j).map (fun k => sz + k)))) e2 (fun z => by cases z) (by show ¬ (i < 0 ∨ (arrV _ _ _).slots.size ≤ _); rw [arrV_size]; exact hin') (by show (arrV _ _ _).slots[_]? = _; rw [arrV_read _ _ hlt]) rfl rfl hd k2
      · cases q
    · cases q
  · cases q
end EHS
end
section
section EHT
variable {p : Program} {l : Launch} {e : Env} {R : Room} {s : State} {m : MethodId} {args : Array Value} {below : List Frame} {meth : Method} {c : Code} {H : Heap} {locs : List Loc} {cells slots : Nat} {Q : State → Prop} {cc : ByteArray} {sz nL n0 oc : Nat} {D : va_G} {TY : List (ClassId × FieldType)} {isI : Bool}
/-- behind a store: the world has the new cell -/
theorem E_st_k {f' : E_F} {h : E_H} {o : Nat} {x : E_O} {sl : Nat} (kk : E_G p l e R s m args below meth c sz nL n0 D TY Q f' (h.set o x) sl) (hn : n0 ≤ h.length) {ls : Array Slot} (hl : lv_has ls nL (f'.2.1.map (E_q sz))) {y : va_E} (hy : y = E_e TY sz x) (H1 : Heap) (locs1 : List Loc) (hP : va_P D E_CL ((E_ws TY sz h).set o (sz + o, y)) H1) (hV : va_S (fun q => sz ≤ q) s.heap H1 locs1) :
    W p l e R s m args below meth c H1 locs1 (h.length - n0) sl Q (F0 m f'.1 ls (f'.2.2.map (E_v sz))) := by
  subst hy
  have := kk H1 locs1 (E_stored hn hP hV) ls hl
  rw [List.length_set] at this
  exact this
theorem E_ast_ok (X : E_X p s m args meth c cc nL oc isI D TY sz n0) {len : Nat} {f f' : E_F} {h h' : E_H} {sl : Nat} (q : E_ast len f h = some (f', h')) (hd : decode cc f.1 = .ok (.iastore, len)) (kk : E_G p l e R s m args below meth c sz nL n0 D TY Q f' h' sl) : E_G p l e R s m args below meth c sz nL n0 D TY Q f h sl := by
  obtain ⟨hx, hb, hml, hts, hown, hK, hT, hN, hI, hz⟩ := X
  unfold E_ast at q
  split at q
  · rename_i pc L x i o st
    split at q
    · rename_i t n g ho
      split at q
      · rename_i w
        obtain ⟨rfl, rfl, hin⟩ := w
        cases q
        intro H locs hS ls hl
        have hg : (E_ws TY sz h)[o]? = some (sz + o, .inl (E_aT TY 0, n, .inl g)) := E_ws_get ho
        exact va_iast hx hb hK hS.1 E_ws_D hS.2.1 o 0 hg (E_ty hT rfl) (E_inb_ok hin) hd (fun H1 locs1 hP hD hV => E_st_k kk hS.2.2 hl rfl H1 locs1 hP hV)
      · cases q
    · cases q
  · cases q
theorem E_bst_ok (X : E_X p s m args meth c cc nL oc isI D TY sz n0) {len : Nat} {f f' : E_F} {h h' : E_H} {sl : Nat} (q : E_bst len f h = some (f', h')) (hd : decode cc f.1 = .ok (.bastore, len)) (kk : E_G p l e R s m args below meth c sz nL n0 D TY Q f' h' sl) : E_G p l e R s m args below meth c sz nL n0 D TY Q f h sl := by
  obtain ⟨hx, hb, hml, hts, hown, hK, hT, hN, hI, hz⟩ := X
  unfold E_bst at q
  split at q
  · rename_i pc L x i o st
    split at q
    · rename_i t n g ho
      split at q
      · rename_i w
        obtain ⟨rfl, hin⟩ := w
        split at q
        · rename_i w2
          subst w2
          cases q
          intro H locs hS ls hl
          have hg : (E_ws TY sz h)[o]? = some (sz + o, .inl (E_aT TY 1, n, .inl g)) := E_ws_get ho
          exact va_bast hx hb hK hS.1 E_ws_D hS.2.1 o 1 hg (E_ty hT rfl) (E_inb_ok hin) hd (fun H1 locs1 hP hD hV => E_st_k kk hS.2.2 hl rfl H1 locs1 hP hV)
        · split at q
          · rename_i w2
            subst w2
            cases q
            intro H locs hS ls hl
            have hg : (E_ws TY sz h)[o]? = some (sz + o, .inl (E_aT TY 2, n, .inl g)) := E_ws_get ho
            exact va_zast hx hb hK hS.1 E_ws_D hS.2.1 o 2 hg (E_ty hT rfl) (E_inb_ok hin) hd (fun H1 locs1 hP hD hV => E_st_k kk hS.2.2 hl rfl H1 locs1 hP hV)
          · cases q
      · cases q
    · cases q
  · cases q
theorem E_lst_ok (X : E_X p s m args meth c cc nL oc isI D TY sz n0) {len : Nat} {f f' : E_F} {h h' : E_H} {sl : Nat} (q : E_lst len f h = some (f', h')) (hd : decode cc f.1 = .ok (.lastore, len)) (kk : E_G p l e R s m args below meth c sz nL n0 D TY Q f' h' sl) : E_G p l e R s m args below meth c sz nL n0 D TY Q f h sl := by
  obtain ⟨hx, hb, hml, hts, hown, hK, hT, hN, hI, hz⟩ := X
  unfold E_lst at q
  split at q
  · rename_i pc L x i o st
    split at q
    · rename_i t n g ho
      split at q
      · rename_i w
        obtain ⟨rfl, rfl, hin⟩ := w
        cases q
        intro H locs hS ls hl
        have hg : (E_ws TY sz h)[o]? = some (sz + o, .inl (E_aT TY 3, n, .inr (.inl g))) := E_ws_get ho
        exact va_last hx hb hK hS.1 E_ws_D hS.2.1 o 3 hg (E_ty hT rfl) (E_inb_ok hin) hd (fun H1 locs1 hP hD hV => E_st_k kk hS.2.2 hl rfl H1 locs1 hP hV)
      · cases q
    · cases q
  · cases q
theorem E_up_map {sz : Nat} {g : Nat → Option Nat} {i : Nat} {r : Option Nat} : va_up (fun j => (g j).map (fun k => sz + k)) i (r.map (fun k => sz + k)) = fun j => (va_up g i r j).map (fun k => sz + k) := by
  funext j
  unfold va_up
  by_cases hj : j = i
  · simp [hj]
  · simp [hj]
theorem E_aast_ok (X : E_X p s m args meth c cc nL oc isI D TY sz n0) {len : Nat} {f f' : E_F} {h h' : E_H} {sl : Nat} (q : E_aast len f h = some (f', h')) (hd : decode cc f.1 = .ok (.aastore, len)) (kk : E_G p l e R s m args below meth c sz nL n0 D TY Q f' h' sl) : E_G p l e R s m args below meth c sz nL n0 D TY Q f h sl := by
  obtain ⟨hx, hb, hml, hts, hown, hK, hT, hN, hI, hz⟩ := X
  unfold E_aast at q
  split at q
  · rename_i pc L v i o st
    split at q
    · rename_i t n g ci fs ho hv
      split at q
      · rename_i C T N hc
        split at q
        · rename_i w
          obtain ⟨rfl, ht, hin⟩ := w
          cases q
          intro H locs hS ls hl
          have hg : (E_ws TY sz h)[o]? = some (sz + o, .inl (E_aT TY t, n, .inr (.inr (.inr (.inr (fun j => (g j).map (fun k => sz + k))))))) := E_ws_get ho
          have hgv : (E_ws TY sz h)[v]? = some (sz + v, .inr (ci, fs.map (E_v sz))) := E_ws_get hv
          exact va_astq hx hb hK hS.1 E_ws_D hS.2.1 o t v ci hg (E_ty hT ht) hgv hc (E_inb_ok hin) hd (fun H1 locs1 hP hD hV => E_st_k kk hS.2.2 hl (by show (Sum.inl (E_aT TY t, n, _) : va_E) = .inl (E_aT TY t, n, .inr (.inr (.inr (.inr (fun j => (va_up g i.toNatClampNeg (some v) j).map (fun k => sz + k)))))); rw [← E_up_map]; rfl) H1 locs1 hP hV)
        · cases q
      · cases q
    · cases q
  · rename_i pc L i o st
    split at q
    · rename_i t n g ho
      split at q
      · rename_i w
        obtain ⟨rfl, ht1, ht2, hin⟩ := w
        cases q
        intro H locs hS ls hl
        have hg : (E_ws TY sz h)[o]? = some (sz + o, .inl (E_aT TY t, n, .inr (.inr (.inr (.inr (fun j => (g j).map (fun k => sz + k))))))) := E_ws_get ho
        obtain ⟨C, hC⟩ := E_aty_obj ht1 ht2
        exact va_astqN hx hb hK hS.1 E_ws_D hS.2.1 o t hg (E_ty hT hC) (E_inb_ok hin) hd (fun H1 locs1 hP hD hV => E_st_k kk hS.2.2 hl (by show (Sum.inl (E_aT TY t, n, _) : va_E) = .inl (E_aT TY t, n, .inr (.inr (.inr (.inr (fun j => (va_up g i.toNatClampNeg none j).map (fun k => sz + k)))))); rw [← E_up_map]; rfl) H1 locs1 hP hV)
      · cases q
    · cases q
  · cases q
theorem E_aty_some {t : Nat} (h : t < 8) : ∃ ty, E_ATY[t]? = some ty := ⟨_, List.getElem?_eq_getElem (show t < E_ATY.length from h)⟩
theorem E_alen_ok (X : E_X p s m args meth c cc nL oc isI D TY sz n0) {len : Nat} {f f' : E_F} {h : E_H} {sl : Nat} (q : E_alen len f h = some f') (hd : decode cc f.1 = .ok (.arraylength, len)) (kk : E_G p l e R s m args below meth c sz nL n0 D TY Q f' h sl) : E_G p l e R s m args below meth c sz nL n0 D TY Q f h sl := by
  obtain ⟨hx, hb, hml, hts, hown, hK, hT, hN, hI, hz⟩ := X
  unfold E_alen at q
  split at q
  · rename_i pc L o st
    split at q
    · rename_i t a ho
      split at q
      · rename_i w
        obtain ⟨rfl, ht⟩ := w
        cases q
        intro H locs hS ls hl
        obtain ⟨ty, hty⟩ := E_aty_some ht
        exact va_alen (x := E_dat sz a) hx hb hK hS.1 o t (E_ws_get ho) (E_ty hT hty) rfl hd (kk H locs hS ls hl)
      · cases q
    · cases q
  · cases q
theorem E_kI_m {oc i : Nat} {v : Int32} (h : E_kI oc i = some v) : (oc, i, v) ∈ E_KI := by
  unfold E_kI at h
  cases hf : E_KI.find? (fun q => q.1 == oc && q.2.1 == i) with
  | none => rw [hf] at h; cases h
  | some q =>
    rw [hf] at h
    cases h
    have h1 := List.find?_some hf
    simp only [Bool.and_eq_true, beq_iff_eq] at h1
    obtain ⟨e1, e2⟩ := h1
    subst e1; subst e2
    exact List.mem_of_find?_eq_some hf
theorem E_kL_m {oc i : Nat} {v : Int64} (h : E_kL oc i = some v) : (oc, i, v) ∈ E_KL := by
  unfold E_kL at h
  cases hf : E_KL.find? (fun q => q.1 == oc && q.2.1 == i) with
  | none => rw [hf] at h; cases h
  | some q =>
    rw [hf] at h
    cases h
    have h1 := List.find?_some hf
    simp only [Bool.and_eq_true, beq_iff_eq] at h1
    obtain ⟨e1, e2⟩ := h1
    subst e1; subst e2
    exact List.mem_of_find?_eq_some hf
theorem E_ldc_ok (X : E_X p s m args meth c cc nL oc isI D TY sz n0) {n i len : Nat} {f f' : E_F} {h : E_H} {sl : Nat} {ins : Instr} (q : E_ldc n oc i len f = some f') (hd : decode cc f.1 = .ok (ins, len)) (hi : (ins = .ldc i ∧ n = 2) ∨ (ins = .ldc_w i ∧ n = 3)) (kk : E_G p l e R s m args below meth c sz nL n0 D TY Q f' h sl) : E_G p l e R s m args below meth c sz nL n0 D TY Q f h sl := by
  obtain ⟨hx, hb, hml, hts, hown, hK, hT, hN, hI, hz⟩ := X
  unfold E_ldc at q
  split at q
  · rename_i v hv
    split at q
    · rename_i w
      subst w
      cases q
      intro H locs hS ls hl
      have hw := hts _ (E_KI_ok _ (List.mem_map.mpr ⟨_, E_kI_m hv, rfl⟩))
      rcases hi with ⟨rfl, rfl⟩ | ⟨rfl, rfl⟩
      · exact lv_ldc hx hb hown hw hd (kk H locs hS ls hl)
      · exact lv_ldcw hx hb hown hw hd (kk H locs hS ls hl)
    · cases q
  · cases q
theorem E_ldc2_ok (X : E_X p s m args meth c cc nL oc isI D TY sz n0) {i len : Nat} {f f' : E_F} {h : E_H} {sl : Nat} (q : E_ldc2 oc i len f = some f') (hd : decode cc f.1 = .ok (.ldc2_w i, len)) (kk : E_G p l e R s m args below meth c sz nL n0 D TY Q f' h sl) : E_G p l e R s m args below meth c sz nL n0 D TY Q f h sl := by
  obtain ⟨hx, hb, hml, hts, hown, hK, hT, hN, hI, hz⟩ := X
  unfold E_ldc2 at q
  split at q
  · rename_i v hv
    split at q
    · rename_i w
      subst w
      cases q
      intro H locs hS ls hl
      have hw := hts _ (E_KL_ok _ (List.mem_map.mpr ⟨_, E_kL_m hv, rfl⟩))
      exact lv_ldc2 hx hb hown hw hd (kk H locs hS ls hl)
    · cases q
  · cases q
/-- behind an allocation of one cell -/
theorem E_new_k (hz : s.heap.size = sz + n0) {f' : E_F} {h : E_H} {x : E_O} {sl : Nat} (kk : E_G p l e R s m args below meth c sz nL n0 D TY Q f' (h ++ [x]) sl) (hn : n0 ≤ h.length) {ls : Array Slot} (hl : lv_has ls nL (f'.2.1.map (E_q sz))) {st : List Value} (hf : f'.2.2 = .ref h.length :: st) {y : va_E} (hy : y = E_e TY sz x) (q : Nat) (H1 : Heap) (hP : va_P D E_CL (E_ws TY sz h ++ [(q, y)]) H1) (hD : va_D (fun q => sz ≤ q) (E_ws TY sz h ++ [(q, y)])) (hV : va_S (fun q => sz ≤ q) s.heap H1 locs) :
    W p l e R s m args below meth c H1 locs (h.length - n0 + 1) sl Q (F0 m f'.1 ls (.ref q :: st.map (E_v sz))) := by
  subst hy
  refine E_wsz (fun hb => ?_)
  have hq := E_addr hP hD (by omega)
  subst hq
  rw [E_ws_app] at hP
  have := kk H1 locs ⟨hP, hV, by rw [List.length_append]; omega⟩ ls hl
  rw [hf, List.length_append, show h.length + ([x] : List E_O).length - n0 = h.length - n0 + 1 by simp; omega] at this
  exact this
theorem E_dfl_v (sz ci : Nat) (h : ∀ k, E_v sz (defaultValue (E_cty ci k)) = defaultValue (E_cty ci k)) : (E_dfl ci).map (E_v sz) = E_dfl ci := by
  unfold E_dfl
  rw [List.map_map]
  apply List.map_congr_left
  intro k _
  exact h k
theorem E_dv_v (sz : Nat) (ty : FieldType) : E_v sz (defaultValue ty) = defaultValue ty := by cases ty <;> rfl
theorem E_dfl_V {ci j : Nat} (h : j < E_N ci) : defaultValue (E_cty ci j) = vp_V (E_dfl ci) j := by
  unfold vp_V E_dfl
  rw [List.getD_eq_getElem?_getD, List.getElem?_map, List.getElem?_range h]
  rfl
theorem E_new_ok (X : E_X p s m args meth c cc nL oc isI D TY sz n0) {i len a b : Nat} {f f' : E_F} {h h' : E_H} {sl : Nat} (hr : E_rok oc (.new i) a b = true) (q : E_new len a f h = some (f', h')) (hd : decode cc f.1 = .ok (.new i, len)) (hR : h'.length - n0 ≤ R.cells ∧ sl + E_N a ≤ R.slots) (kk : E_G p l e R s m args below meth c sz nL n0 D TY Q f' h' (sl + E_N a)) : E_G p l e R s m args below meth c sz nL n0 D TY Q f h sl := by
  obtain ⟨hx, hb, hml, hts, hown, hK, hT, hN, hI, hz⟩ := X
  unfold E_new at q
  split at q
  · rename_i w
    obtain ⟨rfl, ha⟩ := w
    cases q
    intro H locs hS ls hl
    obtain ⟨C, T, hc⟩ := E_cl_13 ha
    obtain ⟨c1, c2, c3, c4, c5, c6, c7, c8, c9⟩ := E_cl_ok _ _ _ _ hc
    have hk : Cond.classLink (E_cn oc) i C ∈ E_GT := by
      have hr' : (a == 900 || E_KN.any (fun q => q.1 == oc && (q.2.1 == i && decide (q.2.2 = E_cn a)))) = true := hr
      rw [Bool.or_eq_true] at hr'
      rcases hr' with z | z
      · rw [beq_iff_eq] at z
        omega
      · obtain ⟨w, hw, h1⟩ := List.any_eq_true.mp z
        simp only [Bool.and_eq_true, beq_iff_eq, decide_eq_true_eq] at h1
        obtain ⟨e1, e2, e3⟩ := h1
        have := E_KN_ok _ (List.mem_map.mpr ⟨w, hw, rfl⟩)
        rw [e1, e2, e3, c7] at this
        exact this
    rw [List.length_append] at hR
    refine va_new hx hb hts c3 (E_cty a) c1 hown (hts _ hk) (hts _ c4) (hts _ c5) hK hS.1 E_ws_D hS.2.1 (fun q hq => by show sz ≤ q; omega) hc (fs := E_dfl a) (fun j hj => E_dfl_V hj) (by have := hR.1; have := hS.2.2; simp at *; omega) hR.2 hd (fun q H1 hP hD hV => ?_)
    exact E_new_k hz kk hS.2.2 hl rfl (by show (Sum.inr (a, E_dfl a) : va_E) = .inr (a, (E_dfl a).map (E_v sz)); rw [E_dfl_v sz a (fun k => E_dv_v sz _)]) q H1 hP hD hV
  · cases q
theorem E_newa_ok (X : E_X p s m args meth c cc nL oc isI D TY sz n0) {t : ArrayType} {len a b n : Nat} {f f' : E_F} {h h' : E_H} {sl : Nat} (hr : E_rok oc (.newarray t) a b = true) (q : E_newa len a f h = some (f', h', n)) (hd : decode cc f.1 = .ok (.newarray t, len)) (hR : h'.length - n0 ≤ R.cells ∧ sl + n ≤ R.slots) (kk : E_G p l e R s m args below meth c sz nL n0 D TY Q f' h' (sl + n)) : E_G p l e R s m args below meth c sz nL n0 D TY Q f h sl := by
  obtain ⟨hx, hb, hml, hts, hown, hK, hT, hN, hI, hz⟩ := X
  unfold E_newa at q
  split at q
  · rename_i pc L k st
    split at q
    · rename_i w
      obtain ⟨rfl, ha, hk, hbt⟩ := w
      cases q
      intro H locs hS ls hl
      have hty : E_ATY[a]? = some (newarray.typeOf t) := of_decide_eq_true hr
      have hsm : ∀ cA : ClassId, vp_cell cA (E_zer a k.toNatClampNeg) = arrV cA k.toNatClampNeg (fun _ => defaultValue (newarray.typeOf t)) ∧ componentBytes (newarray.typeOf t) ≤ 8 ∧ Cond.arrayClass (newarray.typeOf t) ∈ E_GT ∧ E_dat sz (E_zer a k.toNatClampNeg) = E_zer a k.toNatClampNeg := by
        intro cA
        rcases (show a = 0 ∨ a = 1 ∨ a = 2 ∨ a = 3 by omega) with rfl | rfl | rfl | rfl
        · have ht : newarray.typeOf t = .int := (Option.some.inj hty).symm
          rw [ht]
          exact ⟨rfl, by decide, E_aw0, rfl⟩
        · have ht : newarray.typeOf t = .byte := (Option.some.inj hty).symm
          rw [ht]
          exact ⟨rfl, by decide, E_aw1, rfl⟩
        · have ht : newarray.typeOf t = .boolean := (Option.some.inj hty).symm
          rw [ht]
          exact ⟨rfl, by decide, E_aw2, rfl⟩
        · have ht : newarray.typeOf t = .long := (Option.some.inj hty).symm
          rw [ht]
          exact ⟨rfl, by decide, E_aw3, rfl⟩
      rw [List.length_append] at hR
      refine va_newa hx hb (hts _ (hsm 0).2.2.1) rfl hK hS.1 E_ws_D hS.2.1 (fun q hq => by show sz ≤ q; omega) (fun cA => (hsm cA).1) hk rfl (Nat.le_trans (Nat.mul_le_mul_left _ (hsm 0).2.1) hbt) (by have := hR.1; have := hS.2.2; simp at *; omega) hR.2 hd (fun q cA H1 hK2 hP hD hV => ?_)
      have hc := E_K_new hT hty hK hK2
      exact E_new_k hz kk hS.2.2 hl rfl (by rw [hc]; show (Sum.inl (E_aT TY a, E_zer a k.toNatClampNeg) : va_E) = .inl (E_aT TY a, E_dat sz (E_zer a k.toNatClampNeg)); rw [(hsm 0).2.2.2]) q H1 hP hD hV
    · cases q
  · cases q
theorem E_newq_ok (X : E_X p s m args meth c cc nL oc isI D TY sz n0) {i len a b n : Nat} {f f' : E_F} {h h' : E_H} {sl : Nat} (hr : E_rok oc (.anewarray i) a b = true) (q : E_newq len a f h = some (f', h', n)) (hd : decode cc f.1 = .ok (.anewarray i, len)) (hR : h'.length - n0 ≤ R.cells ∧ sl + n ≤ R.slots) (kk : E_G p l e R s m args below meth c sz nL n0 D TY Q f' h' (sl + n)) : E_G p l e R s m args below meth c sz nL n0 D TY Q f h sl := by
  obtain ⟨hx, hb, hml, hts, hown, hK, hT, hN, hI, hz⟩ := X
  unfold E_newq at q
  split at q
  · rename_i pc L k st
    split at q
    · rename_i w
      obtain ⟨rfl, ha1, ha2, hk, hbt⟩ := w
      cases q
      intro H locs hS ls hl
      obtain ⟨C, hC, hov⟩ : ∃ C, E_ATY[a]? = some (.object C) ∧ va_AO C s := by
        rcases (show a = 4 ∨ a = 5 ∨ a = 6 by omega) with rfl | rfl | rfl
        · exact ⟨_, rfl, hN.2.1⟩
        · exact ⟨_, rfl, hN.2.2.1⟩
        · exact ⟨_, rfl, hN.2.2.2.1⟩
      have hkw : Cond.classLink (E_cn oc) i C ∈ E_GT := by
        have hr' : E_KN.any (fun q => q.1 == oc && (q.2.1 == i && decide (E_ATY[a]? = some (.object q.2.2)))) = true := hr
        obtain ⟨w, hw, h1⟩ := List.any_eq_true.mp hr'
        simp only [Bool.and_eq_true, beq_iff_eq, decide_eq_true_eq] at h1
        obtain ⟨e1, e2, e3⟩ := h1
        have := E_KN_ok _ (List.mem_map.mpr ⟨w, hw, rfl⟩)
        have e4 : C = w.2.2 := by
          have := hC.symm.trans e3
          cases this
          rfl
        rw [e1, e2, ← e4] at this
        exact this
      rw [List.length_append] at hR
      refine va_newq hx hb hown (hts _ hkw) hov hK hS.1 E_ws_D hS.2.1 (fun q hq => by show sz ≤ q; omega) hk rfl (by omega) (by have := hR.1; have := hS.2.2; simp at *; omega) hR.2 hd (fun q cA H1 hK2 hP hD hV => ?_)
      have hc := E_K_new hT hC hK hK2
      exact E_new_k hz kk hS.2.2 hl rfl (by rw [hc]; rfl) q H1 hP hD hV
    · cases q
  · cases q
end EHT
end
section
theorem E_AOA_moved {u U : State} (hvm : u.vm.Alike U.vm) (h : (Cond.arrayOver (.array .byte)).before #[] u = true) : (Cond.arrayOver (.array .byte)).before #[] U = true := by
  have h0 := h
  unfold Cond.before at h0
  simp only [Cond.holds, Cond.value, beq_iff_eq] at h0
  cases hc : u.vm.findClass (FieldType.array .byte).toString with
  | none => simp [hc] at h0
  | some comp =>
    simp only [hc, Option.bind_some, Option.bind_eq_some_iff, Option.map_eq_some_iff] at h0
    obtain ⟨c, hi, k, hk, hb⟩ := h0
    obtain ⟨k', hk', he⟩ := hvm.2.2 _ _ hk
    have hi' : (U.vm.classes.findIdx? fun (x : Class) => match x.kind with | .array component _ => component == comp | _ => false) = some c := by
      have e1 := va_idx_bare U.vm comp
      have e2 := va_idx_bare u.vm comp
      have hb9 := hvm.bare_eq
      first | rw [hb9] at e2 | rw [← hb9] at e2
      exact e1.symm.trans (e2.trans hi)
    have hkind : k'.kind = k.kind := by rw [he]
    have f1 : U.vm.findClass (FieldType.array .byte).toString = some comp := by rw [hvm.findClass]; exact hc
    unfold Cond.before
    simp only [Cond.holds, Cond.value, beq_iff_eq]
    simp only [f1, Option.bind_some, Option.bind_eq_some_iff, Option.map_eq_some_iff]
    refine ⟨c, hi', k', hk', ?_⟩
    rw [hkind, hvm.findClass]
    exact hb
theorem E_NW_moved {s U : State} (hW : s.WarmedH U.vm) (h : E_NW s) : E_NW U := by
  obtain ⟨h1, h2, h3, h4, h5⟩ := h
  exact ⟨fun q hq => va_Nw.warmM hW (h1 q hq), h2.moved hW.alike, h3.moved hW.alike, h4.moved hW.alike, E_AOA_moved hW.alike h5⟩
theorem E_outer (c : ClassId) (N h0 : Nat) : ∀ i : Nat, Jvm.Free.Multi.outerC c N h0 i = arrV c N (fun j => va_rf (if j < i then some (h0 + 1 + j) else none))
  | 0 => by
    show ({ cls := c, slots := Array.replicate N .null, vm := .none } : Cell) = _
    rw [arrV_new]
    refine congrArg (arrV c N) (funext fun j => ?_)
    simp [va_rf]
  | i + 1 => by
    show (Jvm.Free.Multi.outerC c N h0 i).setSlot i (.ref (h0 + 1 + i)) = _
    rw [E_outer c N h0 i, arrV_store]
    refine congrArg (arrV c N) (funext fun j => ?_)
    by_cases e : j = i
    · subst e
      simp [updV, va_rf]
    · by_cases h : j < i
      · simp [updV, e, h, Nat.lt_succ_of_lt h]
      · simp [updV, e, h, show ¬ j < i + 1 by omega]
theorem E_P_of {D : va_G} {TY : List (ClassId × FieldType)} {sz : Nat} {h : E_H} {H : Heap} (k : ∀ (i : Nat) (x : E_O), h[i]? = some x → va_at D E_CL (sz + i, E_e TY sz x) H) : va_P D E_CL (E_ws TY sz h) H := by
  intro i q hq
  obtain ⟨h1, h2⟩ := E_ws_inv hq
  have h3 := E_ws_get (TY := TY) (sz := sz) (List.getElem?_eq_getElem h2)
  rw [h3] at hq
  cases hq
  exact k i _ (List.getElem?_eq_getElem h2)
section EHM
variable {p : Program} {l : Launch} {e : Env} {R : Room} {s : State} {m : MethodId} {args : Array Value} {below : List Frame} {meth : Method} {c : Code} {H : Heap} {locs : List Loc} {cells slots : Nat} {Q : State → Prop} {cc : ByteArray} {sz nL n0 oc : Nat} {D : va_G} {TY : List (ClassId × FieldType)} {isI : Bool}
theorem E_mna_ok (X : E_X p s m args meth c cc nL oc isI D TY sz n0) {i len a b n : Nat} {f f' : E_F} {h h' : E_H} {sl : Nat} (hr : E_rok oc (.multianewarray i 2) a b = true) (q : E_mna len f h = some (f', h', n)) (hd : decode cc f.1 = .ok (.multianewarray i 2, len)) (hR : h'.length - n0 ≤ R.cells ∧ sl + n ≤ R.slots) (kk : E_G p l e R s m args below meth c sz nL n0 D TY Q f' h' (sl + n)) : E_G p l e R s m args below meth c sz nL n0 D TY Q f h sl := by
  obtain ⟨hx, hb, hml, hts, hown, hK, hT, hN, hI, hz⟩ := X
  have hkw : Cond.classLink (E_cn oc) i "[[B" ∈ E_GT := by
    have hr' : E_KN.any (fun q => q.1 == oc && (q.2.1 == i && decide (q.2.2 = "[[B"))) = true := hr
    obtain ⟨w, hw, h1⟩ := List.any_eq_true.mp hr'
    simp only [Bool.and_eq_true, beq_iff_eq, decide_eq_true_eq] at h1
    obtain ⟨e1, e2, e3⟩ := h1
    have := E_KN_ok _ (List.mem_map.mpr ⟨w, hw, rfl⟩)
    rw [e1, e2, e3] at this
    exact this
  unfold E_mna at q
  split at q
  · rename_i pc L k k2 st
    split at q
    · rename_i w
      obtain ⟨rfl, hn, hk, hb1, hb2⟩ := w
      cases q
      intro H locs hS ls hl
      refine E_wsz (fun hbd => ?_)
      have hsz := E_size hS hz hbd
      have hS2 := hS
      obtain ⟨hP, hV, hn0⟩ := hS2
      rw [List.length_append, List.length_cons, List.length_replicate] at hR
      intro T hTH Xs
      obtain ⟨vm₁, cA, comp, -, fA, fC, hO, hI9, X', step⟩ := Xs.multianewarray2F hx (own := E_cn oc) (ty := .byte) hown (show (Cond.classLink (E_cn oc) i ("[" ++ (FieldType.array .byte).toString)).before args s = true from hts _ hkw) (show (Cond.arrayOver (.array .byte)).before args s = true from hN.2.2.2.2) (hts _ E_aw1) (g := F0 m pc ls (.int k :: .int k2 :: st.map (E_v sz))) rfl (by rw [hb]; exact hd) rfl hn hk (by omega) (by show k.toNatClampNeg * 1 ≤ _; omega) (by omega) rfl rfl (by have := hR.1; omega) hR.2
      generalize hF : Jvm.Free.Multi.fill (T.setVm vm₁) cA comp k2.toNatClampNeg k.toNatClampNeg (defaultValue .byte) k2.toNatClampNeg = F at X' step
      have hTh : (T.setVm vm₁).heap = H := hTH
      obtain ⟨f1, f2, -, -⟩ := Jvm.Free.Multi.fill_facts (T.setVm vm₁) cA comp k2.toNatClampNeg k.toNatClampNeg (defaultValue .byte) k2.toNatClampNeg
      rw [hF, hTh] at f1 f2
      have hold : ∀ x : Nat, x < H.size → F.heap[x]? = H[x]? := fun x hx => by
        have := Jvm.Free.Multi.fill_old (T.setVm vm₁) cA comp k2.toNatClampNeg k.toNatClampNeg (defaultValue .byte) (a := x) (by rw [hTh]; exact hx) k2.toNatClampNeg
        rw [hF, hTh] at this
        exact this
      have hrow : ∀ j : Nat, j < k2.toNatClampNeg → F.heap[H.size + 1 + j]? = some (Jvm.Free.Multi.innerC comp k.toNatClampNeg (defaultValue .byte)) := fun j hj => by
        have := Jvm.Free.Multi.fill_inner (T.setVm vm₁) cA comp k2.toNatClampNeg k.toNatClampNeg (defaultValue .byte) k2.toNatClampNeg j hj
        rw [hF, hTh] at this
        exact this
      have ec1 : cA = E_aT TY 7 := va_RA_one (ty := .array .byte) fA (hK.2 7 _ (E_ty hT rfl)).2
      have ec2 : comp = E_aT TY 1 := va_RA_one (ty := .byte) (show s.vm.findClass ("[" ++ FieldType.byte.toString) = some comp from fC) (hK.2 1 _ (E_ty hT rfl)).2
      have hP' : va_P D E_CL (E_ws TY sz (h ++ (.inl (7, (k2.toNatClampNeg, .inr (.inr (.inr (.inr (fun i => if i < k2.toNatClampNeg then some (h.length + 1 + i) else none)))))) :: List.replicate k2.toNatClampNeg (.inl (1, (k.toNatClampNeg, .inl (fun _ => 0))))))) F.heap := by
        refine E_P_of (fun j x hj => ?_)
        rcases Nat.lt_trichotomy j h.length with q1 | q1 | q1
        · rw [List.getElem?_append_left q1] at hj
          exact (hP j _ (E_ws_get hj)).kept (hold _ (by show sz + j < _; omega))
        · subst q1
          rw [List.getElem?_append_right (Nat.le_refl _), Nat.sub_self] at hj
          cases hj
          show F.heap[sz + h.length]? = some (vp_cell _ _)
          rw [← hsz, f2, E_outer, ec1]
          show some (arrV (E_aT TY 7) k2.toNatClampNeg _) = some (arrV (E_aT TY 7) k2.toNatClampNeg (fun j => va_rf ((if j < k2.toNatClampNeg then some (h.length + 1 + j) else none).map (fun k => sz + k))))
          congr 2
          funext y
          by_cases hy : y < k2.toNatClampNeg
          · rw [if_pos hy, if_pos hy]
            exact congrArg Value.ref (show (H.size + 1 + y : Nat) = sz + (h.length + 1 + y) by omega)
          · rw [if_neg hy, if_neg hy]
            rfl
        · rw [List.getElem?_append_right (by omega)] at hj
          obtain ⟨y, hy⟩ : ∃ y, j - h.length = y + 1 := ⟨j - h.length - 1, by omega⟩
          rw [hy, List.getElem?_cons_succ] at hj
          have hyl : y < k2.toNatClampNeg := by
            have := (List.getElem?_eq_some_iff.mp hj).1
            rwa [List.length_replicate] at this
          rw [List.getElem?_replicate_of_lt hyl] at hj
          cases hj
          show F.heap[sz + j]? = some (vp_cell _ _)
          rw [show sz + j = H.size + 1 + y by omega, hrow y hyl, ec2]
          show some ({ cls := E_aT TY 1, slots := Array.replicate k.toNatClampNeg (defaultValue .byte), vm := .none } : Cell) = _
          rw [arrV_new]
          rfl
      have hV' : va_S (fun q => sz ≤ q) s.heap F.heap locs := ⟨by have := hV.1; omega, fun x h1 h2 => (hold x (Nat.lt_of_lt_of_le h1 hV.1)).trans (hV.2.1 x h1 h2), hV.2.2⟩
      have k9 := kk F.heap locs ⟨hP', hV', by rw [List.length_append]; omega⟩ ls hl
      rw [List.length_append, List.length_cons, List.length_replicate, show h.length + (k2.toNatClampNeg + 1) - n0 = h.length - n0 + 1 + k2.toNatClampNeg by omega, ← Nat.add_assoc] at k9
      obtain ⟨t, a1, b1⟩ := k9 F rfl X'
      refine ⟨t, step t ?_, b1⟩
      rw [show T.heap.size = sz + h.length by rw [hTH]; exact hsz]
      exact a1
    · cases q
  · cases q
theorem E_copy_ok (X : E_X p s m args meth c cc nL oc isI D TY sz n0) {i len : Nat} {f f' : E_F} {h h' : E_H} {sl : Nat} (hr : E_has2 E_AC oc i = true) (q : E_copy len f h = some (f', h')) (hcat : E_catS f.2.2 ≤ 16) (hd : decode cc f.1 = .ok (.invokestatic i, len)) (hRf : 1 ≤ R.frames) (hRl : 48 ≤ R.locals) (kk : E_G p l e R s m args below meth c sz nL n0 D TY Q f' h' sl) : E_G p l e R s m args below meth c sz nL n0 D TY Q f h sl := by
  obtain ⟨hx, hb, hml, hts, hown, hK, hT, hN, hI, hz⟩ := X
  have hw := hts _ (E_AC_ok _ (List.mem_map.mpr ⟨_, E_has2_m hr, rfl⟩))
  unfold E_copy at q
  split at q
  · rename_i pc L n dp d sp o st
    split at q
    · rename_i t0 n0' g0 t1 n1 g1 ho hd1
      split at q
      · rename_i w
        obtain ⟨rfl, rfl, ht, hsp, hdp, hn, h4, h5, hfit⟩ := w
        cases q
        intro H locs hS ls hl
        have hg0 : (E_ws TY sz h)[o]? = some (sz + o, .inl (E_aT TY t0, n0', .inl g0)) := E_ws_get ho
        have hg1 : (E_ws TY sz h)[d]? = some (sz + d, .inl (E_aT TY t0, n1, .inl g1)) := E_ws_get hd1
        have hls : (((st.map (E_v sz)).map fun v => v.category).sum) ≤ 16 := by
          have h1 : ((st.map (E_v sz)).map fun v => v.category) = st.map (fun v => v.category) := by
            rw [List.map_map]
            exact List.map_congr_left (fun v _ => E_v_cat sz v)
          rw [h1]
          have h2 : E_catS st ≤ 16 := by
            unfold E_catS at hcat ⊢
            simp only [List.map_cons, List.sum_cons] at hcat
            omega
          exact h2
        have hnf : nativeFrameWords "java/lang/System" "arraycopy" 5 + 11 ≤ 32 := by decide +kernel
        rcases (show t0 = 0 ∨ t0 = 1 by omega) with rfl | rfl
        · exact va_copyi (ty := .int) hx hb (hml.trans hl.1.symm) hown hw (hts _ E_wac1) (hts _ E_wac2) (hts _ E_wac3) hK hS.1 E_ws_D hS.2.1 o d 0 0 hg0 hg1 (E_ty hT rfl) (E_ty hT rfl) rfl hsp hdp hn h4 h5 (fun _ _ => rfl) hRf (by omega) hd (fun H1 locs1 hP hD hV => E_st_k kk hS.2.2 hl rfl H1 locs1 hP hV)
        · exact va_copyi (ty := .byte) hx hb (hml.trans hl.1.symm) hown hw (hts _ E_wac1) (hts _ E_wac2) (hts _ E_wac3) hK hS.1 E_ws_D hS.2.1 o d 1 1 hg0 hg1 (E_ty hT rfl) (E_ty hT rfl) rfl hsp hdp hn h4 h5 (fun j hj => List.all_eq_true.mp (hfit.resolve_left (by omega)) j (List.mem_range.mpr hj)) hRf (by omega) hd (fun H1 locs1 hP hD hV => E_st_k kk hS.2.2 hl rfl H1 locs1 hP hV)
      · cases q
    · cases q
  · cases q
end EHM
end
section
/-! calls: what one method computes is its contract -/
def E_w (M : E_MI) : List Cond := .code M.2.1 M.2.2.1 M.2.2.2.1 M.2.2.2.2.1 :: E_GT
def E_rm (d k n : Nat) : Room := { frames := d, cells := k, slots := n, locals := 48 * d }
def E_Pc (D : va_G) (TY : List (ClassId × FieldType)) (sz : Nat) (vs : List Value) (h : E_H) : Array Value → State → Prop :=
  va_Pc (vs.map (E_v sz)) (fun U => U.heap.size = sz + h.length ∧ va_P D E_CL (E_ws TY sz h) U.heap ∧ va_K D E_CL TY U ∧ E_NW U)
def E_Qc (D : va_G) (TY : List (ClassId × FieldType)) (sz : Nat) (r : Option Value) (h : E_H) : Array Value → State → Outcome → State → Prop := fun _ st oc t =>
  (oc = .returned (r.map (E_v sz)) ∧ va_P D E_CL (E_ws TY sz h) t.heap) ∧ va_F (fun q => sz ≤ q) st t
def E_Met (l : Launch) (D : va_G) (TY : List (ClassId × FieldType)) (sz d : Nat) (M : E_MI) (vs : List Value) (h : E_H) (r : E_R) : Prop :=
  Met l M.2.1 (E_w M) (E_rm d (r.2.1.length - h.length) r.2.2) (E_Pc D TY sz vs h) (E_Qc D TY sz r.1 r.2.1) (r.2.1.length - h.length) r.2.2 (fun q => sz ≤ q)
theorem E_pop2_i {inst : Bool} {na : Nat} {st vs rest : List Value} (h : E_pop2 inst na st = some (vs, rest)) : (inst = false ∧ vs.length = na ∧ st = vs.reverse ++ rest) ∨ (inst = true ∧ ∃ o As, vs = .ref o :: As ∧ As.length = na ∧ st = As.reverse ++ .ref o :: rest) := by
  unfold E_pop2 at h
  cases inst
  · left
    dsimp only [cond_false] at h
    split at h
    · rename_i hn
      cases h
      refine ⟨rfl, ?_, ?_⟩
      · rw [List.length_reverse, List.length_take]; omega
      · rw [List.reverse_reverse, List.take_append_drop]
    · cases h
  · right
    dsimp only [cond_true] at h
    split at h
    · rename_i o rst hd
      split at h
      · rename_i hn
        cases h
        refine ⟨rfl, o, _, rfl, ?_, ?_⟩
        · rw [List.length_reverse, List.length_take]; omega
        · rw [List.reverse_reverse, ← hd, List.take_append_drop]
      · cases h
    · cases h
theorem E_lg_sl (sz : Nat) (vs : List Value) : (lg_sl (vs.map (E_v sz))).length = (lg_sl vs).length := by
  induction vs with
  | nil => rfl
  | cons v t ih => cases v <;> simp_all [lg_sl, E_v, Value.category]
theorem E_args_map (sz : Nat) (vs : List Value) : ∀ i, lv_args i (vs.map (E_v sz)) = (lv_args i vs).map (E_q sz) := by
  induction vs with
  | nil => intro i; rfl
  | cons v t ih =>
    intro i
    rw [List.map_cons]
    unfold lv_args
    rw [E_v_cat, ih, List.map_cons]
    rfl
end
section
section EHA
variable {p : Program} {l : Launch} {e : Env} {R : Room} {s : State} {m : MethodId} {args : Array Value} {below : List Frame} {meth : Method} {c : Code} {Q : State → Prop} {cc : ByteArray} {sz nL n0 oc : Nat} {D : va_G} {TY : List (ClassId × FieldType)} {isI : Bool}
set_option maxHeartbeats 4000000 in
theorem E_heap_ok (X : E_X p s m args meth c cc nL oc isI D TY sz n0) {ins : Instr} {len a b n : Nat} {f f' : E_F} {h h' : E_H} {sl : Nat} (hr : E_rok oc ins a b = true) (q : E_heap nL oc isI ins len a b f h = some (f', h', n)) (hd : decode cc f.1 = .ok (ins, len)) (hR : h'.length - n0 ≤ R.cells ∧ sl + n ≤ R.slots) (kk : E_G p l e R s m args below meth c sz nL n0 D TY Q f' h' (sl + n)) : E_G p l e R s m args below meth c sz nL n0 D TY Q f h sl := by
  cases ins
  case getfield i => obtain ⟨q2, rfl, rfl⟩ := E_f1_i q; exact E_getf_ok X hr q2 hd kk
  case putfield i => obtain ⟨q2, rfl⟩ := E_f2_i q; exact E_putf_ok X hr q2 hd kk
  case iaload => obtain ⟨q2, rfl, rfl⟩ := E_f1_i q; exact E_ald_ok X q2 hd (Or.inl ⟨rfl, fun t ht => by simpa using ht⟩) kk
  case baload => obtain ⟨q2, rfl, rfl⟩ := E_f1_i q; exact E_ald_ok X q2 hd (Or.inr ⟨rfl, fun t ht => by simpa using ht⟩) kk
  case laload => obtain ⟨q2, rfl, rfl⟩ := E_f1_i q; exact E_lald_ok X q2 hd kk
  case aaload => obtain ⟨q2, rfl, rfl⟩ := E_f1_i q; exact E_aald_ok X q2 hd kk
  case iastore => obtain ⟨q2, rfl⟩ := E_f2_i q; exact E_ast_ok X q2 hd kk
  case bastore => obtain ⟨q2, rfl⟩ := E_f2_i q; exact E_bst_ok X q2 hd kk
  case lastore => obtain ⟨q2, rfl⟩ := E_f2_i q; exact E_lst_ok X q2 hd kk
  case aastore => obtain ⟨q2, rfl⟩ := E_f2_i q; exact E_aast_ok X q2 hd kk
  case arraylength => obtain ⟨q2, rfl, rfl⟩ := E_f1_i q; exact E_alen_ok X q2 hd kk
  case new i => obtain ⟨q2, rfl⟩ := E_f2_i q; exact E_new_ok X hr q2 hd hR kk
  case newarray t => exact E_newa_ok X hr q hd hR kk
  case anewarray i => exact E_newq_ok X hr q hd hR kk
  case multianewarray i d =>
    have q : (if d = 2 then E_mna len f h else none) = some (f', h', n) := q
    split at q
    · rename_i hd2
      subst hd2
      exact E_mna_ok X hr q hd hR kk
    · cases q
  case ldc i => obtain ⟨q2, rfl, rfl⟩ := E_f1_i q; exact E_ldc_ok X q2 hd (Or.inl ⟨rfl, rfl⟩) kk
  case ldc_w i => obtain ⟨q2, rfl, rfl⟩ := E_f1_i q; exact E_ldc_ok X q2 hd (Or.inr ⟨rfl, rfl⟩) kk
  case ldc2_w i => obtain ⟨q2, rfl, rfl⟩ := E_f1_i q; exact E_ldc2_ok X q2 hd kk
  all_goals
    unfold E_heap at q
    dsimp only at q
    obtain ⟨q2, rfl, rfl⟩ := E_f1_i q
    exact fun H locs hS => E_pure_ok X.1 X.2.1 q2 hd (kk H locs hS)
end EHA
theorem E_l_i {x : Option E_F} {h h' : E_H} {f' : E_F} {n : Nat} (q : E_f1 x h = some (f', h', n)) : h.length ≤ h'.length := by
  obtain ⟨-, rfl, -⟩ := E_f1_i q
  exact Nat.le_refl _
theorem E_len_put {isI : Bool} {oc len a b : Nat} {f f' : E_F} {h h' : E_H} (q : E_putf isI oc len a b f h = some (f', h')) : h.length ≤ h'.length := by
  unfold E_putf at q
  repeat' split at q
  all_goals first | (cases q; done) | (cases q; rw [List.length_set]; exact Nat.le_refl _)
theorem E_len_ast {len : Nat} {f f' : E_F} {h h' : E_H} (q : E_ast len f h = some (f', h')) : h.length ≤ h'.length := by
  unfold E_ast at q
  repeat' split at q
  all_goals first | (cases q; done) | (cases q; rw [List.length_set]; exact Nat.le_refl _)
theorem E_len_bst {len : Nat} {f f' : E_F} {h h' : E_H} (q : E_bst len f h = some (f', h')) : h.length ≤ h'.length := by
  unfold E_bst at q
  repeat' split at q
  all_goals first | (cases q; done) | (cases q; rw [List.length_set]; exact Nat.le_refl _)
theorem E_len_lst {len : Nat} {f f' : E_F} {h h' : E_H} (q : E_lst len f h = some (f', h')) : h.length ≤ h'.length := by
  unfold E_lst at q
  repeat' split at q
  all_goals first | (cases q; done) | (cases q; rw [List.length_set]; exact Nat.le_refl _)
theorem E_len_aast {len : Nat} {f f' : E_F} {h h' : E_H} (q : E_aast len f h = some (f', h')) : h.length ≤ h'.length := by
  unfold E_aast at q
  repeat' split at q
  all_goals first | (cases q; done) | (cases q; rw [List.length_set]; exact Nat.le_refl _)
theorem E_len_copy {len : Nat} {f f' : E_F} {h h' : E_H} (q : E_copy len f h = some (f', h')) : h.length ≤ h'.length := by
  unfold E_copy at q
  repeat' split at q
  all_goals first | (cases q; done) | (cases q; rw [List.length_set]; exact Nat.le_refl _)
theorem E_len_heap {mx oc : Nat} {isI : Bool} {ins : Instr} {len a b n : Nat} {f f' : E_F} {h h' : E_H} (q : E_heap mx oc isI ins len a b f h = some (f', h', n)) : h.length ≤ h'.length := by
  cases ins
  case putfield i => obtain ⟨q2, -⟩ := E_f2_i q; exact E_len_put q2
  case iastore => obtain ⟨q2, -⟩ := E_f2_i q; exact E_len_ast q2
  case bastore => obtain ⟨q2, -⟩ := E_f2_i q; exact E_len_bst q2
  case lastore => obtain ⟨q2, -⟩ := E_f2_i q; exact E_len_lst q2
  case aastore => obtain ⟨q2, -⟩ := E_f2_i q; exact E_len_aast q2
  case new i =>
    obtain ⟨q2, -⟩ := E_f2_i q
    unfold E_new at q2
    split at q2
    · cases q2; rw [List.length_append]; omega
    · cases q2
  case newarray t =>
    have q : E_newa len a f h = some (f', h', n) := q
    unfold E_newa at q
    repeat' split at q
    all_goals first | (cases q; done) | (cases q; rw [List.length_append]; omega)
  case anewarray i =>
    have q : E_newq len a f h = some (f', h', n) := q
    unfold E_newq at q
    repeat' split at q
    all_goals first | (cases q; done) | (cases q; rw [List.length_append]; omega)
  case multianewarray i d =>
    have q : (if d = 2 then E_mna len f h else none) = some (f', h', n) := q
    unfold E_mna at q
    repeat' split at q
    all_goals first | (cases q; done) | (cases q; rw [List.length_append]; omega)
  all_goals
    unfold E_heap at q
    dsimp only at q
    exact E_l_i q
end
section
theorem E_gt_m {i : Nat} {w : Cond} (h : decide (lw_tbl[i]? = some w) = true) (g : goodWord w = true) : w ∈ E_GT := List.mem_filter.mpr ⟨List.mem_of_getElem? (of_decide_eq_true h), g⟩
/-- what the tables say of a method -/
def E_mf (M : E_MI) : Prop := (∀ r ∈ M.2.2.2.2.2.2.2, decode M.2.2.1 r.1 = .ok (r.2.1, r.2.2.1) ∧ E_rok M.1 r.2.1 r.2.2.2.1 r.2.2.2.2 = true) ∧ Cond.code M.2.1 M.2.2.1 M.2.2.2.1 M.2.2.2.2.1 ∈ E_GT ∧ Cond.initialized M.2.1.cls ∈ E_GT ∧ (M.2.2.2.2.2.1 = true → Cond.static M.2.1 ∈ E_GT) ∧ (M.2.2.2.2.2.1 = false → Cond.instanceMethod M.2.1 ∈ E_GT ∧ (M.2.1.name = "<init>" ∨ Cond.selects M.2.1.cls M.2.1 M.2.1 ∈ E_GT)) ∧ M.2.1.cls = E_cn M.1 ∧ plainName M.2.1.cls = true ∧ (M.2.1.cls ≠ "java/lang/invoke/MethodHandle" ∧ M.2.1.cls ≠ "java/lang/invoke/VarHandle") ∧ (parseMethodDescriptor M.2.1.desc).map (fun d => d.parameters.length) = some M.2.2.2.2.2.2.1 ∧ M.2.2.2.1 ≤ 29
theorem E_mf_ok {a : Nat} {M : E_MI} (hM : E_mi a = some M) : E_mf M := by
  obtain ⟨ix, h⟩ := E_M_ok hM
  obtain ⟨oc, y, bytes, mx, ret, st, na, code⟩ := M
  unfold E_mok at h
  dsimp only at h
  simp only [Bool.and_eq_true] at h
  obtain ⟨⟨⟨⟨⟨⟨⟨⟨⟨⟨h1, h2⟩, h3⟩, h4⟩, h5⟩, h6⟩, h7⟩, h8⟩, h9⟩, h10⟩, h11⟩ := h
  refine ⟨fun r hr => ?_, E_gt_m h2 h3, E_gt_m h4 h5, fun hs => ?_, fun hs => ?_, of_decide_eq_true h7, h8, of_decide_eq_true h9, of_decide_eq_true h10, of_decide_eq_true h11⟩
  · have := List.all_eq_true.mp h1 r hr
    rw [Bool.and_eq_true] at this
    exact ⟨of_decide_eq_true this.1, this.2⟩
  · have hs : st = true := hs
    subst hs
    rw [cond_true, Bool.and_eq_true] at h6
    exact E_gt_m h6.1 h6.2
  · have hs : st = false := hs
    subst hs
    rw [cond_false, Bool.and_eq_true, Bool.and_eq_true, Bool.or_eq_true] at h6
    refine ⟨E_gt_m h6.1.1 h6.1.2, h6.2.elim (fun z => Or.inl (of_decide_eq_true z)) (fun z => ?_)⟩
    rw [Bool.and_eq_true] at z
    exact Or.inr (E_gt_m z.1 z.2)
theorem E_find_m {t : List E_C} {pc : Nat} {z : Instr × Nat × Nat × Nat} : E_find t pc = some z → (pc, z) ∈ t := by
  induction t with
  | nil => intro h; cases h
  | cons r t ih =>
    intro h
    unfold E_find at h
    split at h
    · rename_i hr
      cases h
      rw [← hr]
      exact List.mem_cons_self
    · exact List.mem_cons_of_mem _ (ih h)
theorem E_good (M : E_MI) (h : Cond.code M.2.1 M.2.2.1 M.2.2.2.1 M.2.2.2.2.1 ∈ E_GT) : GoodIn E_GT (E_w M) := by
  intro w hw
  unfold E_w at hw
  have hm : w ∈ E_GT := (List.mem_cons.mp hw).elim (fun q => by rw [q]; exact h) (fun q => q)
  exact ⟨hm, good_of_word (List.mem_filter.mp hm).2⟩
section EC
variable {p : Program} {l : Launch} {e : Env} {R : Room} {s : State} {m : MethodId} {args : Array Value} {below : List Frame} {meth : Method} {c : Code} {H : Heap} {locs : List Loc} {cells slots : Nat} {Q : State → Prop} {cc : ByteArray} {sz nL n0 oc : Nat} {D : va_G} {TY : List (ClassId × FieldType)} {isI : Bool}
theorem E_call_k {mc ms pc : Nat} {ls : Array Slot} {st0 rest : List Value} {r : Option Value} {h2 : E_H} {a : Array Value} (hr : va_Run p l e R s m args below meth c H locs cells slots mc ms (F0 m pc ls st0) rest (E_Qc D TY sz r h2 a) (fun q => sz ≤ q)) (hV : va_S (fun q => sz ≤ q) s.heap H locs)
    (kk : ∀ (H1 : Heap) (locs1 : List Loc), va_P D E_CL (E_ws TY sz h2) H1 → va_S (fun q => sz ≤ q) s.heap H1 locs1 → W p l e R s m args below meth c H1 locs1 (cells + mc) (slots + ms) Q (F0 m (pc + 3) ls ((r.map (E_v sz)).toList ++ rest))) : W p l e R s m args below meth c H locs cells slots Q (F0 m pc ls st0) := by
  intro T hT X
  obtain ⟨v, st₀, t, T', L, h0, X', hL, e1, e2, ⟨⟨hv, hb⟩, hz, hk⟩, st⟩ := hr T hT X
  cases hv
  rw [h0] at hz hk
  obtain ⟨t2, a1, b1⟩ := kk T'.heap (locs ++ L) (by rw [e1]; exact hb)
    ⟨Nat.le_trans hV.1 (by rw [e1]; exact hz), fun q h1 h2 => by rw [e1, hk q (Nat.lt_of_lt_of_le h1 hV.1) h2]; exact hV.2.1 q h1 h2, fun q hq => by
      rcases List.mem_append.mp hq with h | h
      · exact hV.2.2 q h
      · exact hL q h⟩ T' rfl X'
  exact ⟨t2, st t2 a1, b1⟩
theorem E_blind {vs : List Value} {h : E_H} : FrameBlind (E_Pc D TY sz vs h) := by
  intro a U g mk q
  obtain ⟨q0, q1, q2, q3, q4⟩ := q
  exact ⟨q0, q1, q2, va_K.moved (u := U) (U := U.calling g mk a) (Vm.Alike.refl U.vm) q3, E_NW_moved (s := U) (U := U.calling g mk a) (State.WarmedH.refl U) q4⟩
theorem E_cat_map (st : List Value) : (((st.map (E_v sz)).map fun v => v.category).sum) = E_catS st := by
  unfold E_catS
  rw [List.map_map]
  exact congrArg List.sum (List.map_congr_left (fun v _ => E_v_cat sz v))
/-- a call -/
theorem E_inv_ok (X : E_X p s m args meth c cc nL oc isI D TY sz n0) {d kind i a b : Nat} {orc : Nat → List Value → E_H → Option E_R}
    (hO : ∀ (a : Nat) (M : E_MI) (vs : List Value) (h : E_H) (r : E_R), E_mi a = some M → orc a vs h = some r → E_Met l D TY sz d M vs h r ∧ h.length ≤ r.2.1.length)
    (hRf : d + 1 ≤ R.frames) (hRl : 48 * (d + 1) ≤ R.locals) {ins : Instr} (hi : (kind = 0 ∧ ins = .invokestatic i) ∨ (kind = 1 ∧ ins = .invokevirtual i) ∨ (kind = 2 ∧ ins = .invokespecial i))
    (hr : (bif b == 1 then E_has3 E_MN oc i a else E_has3 E_ML oc i a) = true) {f f' : E_F} {h h' : E_H} {sl sl' : Nat} (q : E_inv orc kind a f h sl = some (f', h', sl')) (hd : decode cc f.1 = .ok (ins, 3)) (hR : h'.length - n0 ≤ R.cells ∧ sl' ≤ R.slots) (kk : E_G p l e R s m args below meth c sz nL n0 D TY Q f' h' sl') : E_G p l e R s m args below meth c sz nL n0 D TY Q f h sl := by
  obtain ⟨hx, hb, hml, hts, hown, hK, hT, hN, hI, hz⟩ := X
  unfold E_inv at q
  split at q
  · cases q
  · rename_i M hM
    split at q
    · cases q
    · rename_i vs rest hp
      split at q
      · rename_i hk
        split at q
        · rename_i hc
          split at q
          · cases q
          · rename_i r h2 s2 ho
            cases q
            obtain ⟨g1, g2, g3, g4, g5, g6, g7, g8, g9, g10⟩ := E_mf_ok hM
            obtain ⟨hMet, hlen⟩ := hO a M vs h _ hM ho
            have hlen : h.length ≤ h'.length := hlen
            have hey : E_y a = M.2.1 := by unfold E_y; rw [E_mi_get hM]
            have hG := E_good M g2
            intro H locs hS ls hl
            refine E_wsz (fun hbd => ?_)
            have hsz := E_size hS hz hbd
            obtain ⟨hP, hV, hn0⟩ := hS
            have hpre : ∀ U : State, U.heap = H → s.WarmedH U.vm → E_Pc D TY sz vs h (vs.map (E_v sz)).toArray U := fun U hU hW => ⟨rfl, by rw [hU]; exact hsz, by rw [hU]; exact hP, va_K.moved hW.alike hK, E_NW_moved hW hN⟩
            have hroom : (E_rm d (h'.length - h.length) s2).frames + 1 ≤ R.frames ∧ 8 + (M.2.2.2.1 + 11) + (E_rm d (h'.length - h.length) s2).locals ≤ R.locals := ⟨hRf, by show 8 + (M.2.2.2.1 + 11) + 48 * d ≤ R.locals; omega⟩
            have hlinkL : b ≠ 1 → (Cond.methodLink (E_cn oc) i M.2.1).before args s = true := fun hb1 => by
              have h1 : E_has3 E_ML oc i a = true := by
                have : (b == 1) = false := by simpa using hb1
                rw [this] at hr
                exact hr
              have := hts _ (E_ML_ok _ (List.mem_map.mpr ⟨_, E_has3_m h1, rfl⟩))
              unfold E_MLw at this
              rw [hey] at this
              exact this
            have hlinkN : b = 1 → va_Nw (.methodLinkNest (E_cn oc) i M.2.1 "GramFinder") s := fun hb1 => by
              subst hb1
              have := hN.1 _ (E_has3_m hr)
              unfold E_MNw at this
              rw [hey] at this
              exact this
            have hf : h.length - n0 + (h'.length - h.length) ≤ R.cells ∧ sl + s2 ≤ R.slots := ⟨by have := hR.1; omega, hR.2⟩
            have hk2 : ∀ (H1 : Heap) (locs1 : List Loc), va_P D E_CL (E_ws TY sz h') H1 → va_S (fun q => sz ≤ q) s.heap H1 locs1 → W p l e R s m args below meth c H1 locs1 (h.length - n0 + (h'.length - h.length)) (sl + s2) Q (F0 m (f.1 + 3) ls ((r.map (E_v sz)).toList ++ rest.map (E_v sz))) := fun H1 locs1 hP1 hV1 => by
              have k9 := kk H1 locs1 ⟨hP1, hV1, Nat.le_trans hn0 hlen⟩ ls hl
              rw [show h'.length - n0 = h.length - n0 + (h'.length - h.length) by omega] at k9
              have e9 : ((f.1 + 3, f.2.1, r.toList ++ rest) : E_F).2.2.map (E_v sz) = (r.map (E_v sz)).toList ++ rest.map (E_v sz) := by
                rw [show ((f.1 + 3, f.2.1, r.toList ++ rest) : E_F).2.2 = r.toList ++ rest from rfl, List.map_append]
                cases r <;> rfl
              rw [e9] at k9
              exact k9
            have hcat : ((rest.map (E_v sz)).map fun v => v.category).sum ≤ 8 := by rw [E_cat_map]; exact hc
            have hnL : ls.size = nL := hl.1
            rcases E_pop2_i hp with ⟨hst, hvl, hstk⟩ | ⟨hst, o, As, rfl, hvl, hstk⟩
            · -- static
              have hst1 : M.2.2.2.2.2.1 = true := by simpa using hst
              have hkind : kind = 0 := by
                unfold E_kok at hk
                split at hk
                · rfl
                · rw [hst1] at hk; simp at hk
                · rw [hst1] at hk; simp at hk
                · cases hk
              have hins : ins = .invokestatic i := by
                rcases hi with ⟨-, z⟩ | ⟨z, -⟩ | ⟨z, -⟩
                · exact z
                · omega
                · omega
              subst hins
              have hstack : (F0 m f.1 ls (f.2.2.map (E_v sz))).stack = (vs.map (E_v sz)).reverse ++ rest.map (E_v sz) := by
                show f.2.2.map (E_v sz) = _
                rw [hstk, List.map_append, List.map_reverse]
              have hPS : PreS s H (E_Pc D TY sz vs h) (vs.map (E_v sz)) := ⟨E_blind, fun U hU hW => hpre U hU hW⟩
              by_cases hb1 : b = 1
              · exact E_call_k (va_runSN (Ts := E_GT) ⟨hx, hb, hml, hown, hts⟩ hMet ⟨va_cnB M.2.2.2.2.2.2.1 hts hG rfl rfl rfl (hlinkN hb1) (hts _ g3) ⟨g8.1, g8.2, g9⟩ hroom, hts _ (g4 hst1), trivial⟩ hPS rfl (by rw [List.length_map]; exact hvl) hnL hstack (lv_room hcat) hd hf) hV hk2
              · exact E_call_k (va_runS (Ts := E_GT) ⟨hx, hb, hml, hown, hts⟩ hMet ⟨callB_of M.2.2.2.2.2.2.1 hts hG rfl rfl rfl (hts _ g3) (hlinkL hb1) ⟨g8.1, g8.2, g9⟩ hroom, hts _ (g4 hst1)⟩ hPS rfl (by rw [List.length_map]; exact hvl) hnL hstack (lv_room hcat) hd hf) hV hk2
            · have hst0 : M.2.2.2.2.2.1 = false := by simpa using hst
              have hstack : (F0 m f.1 ls (f.2.2.map (E_v sz))).stack = (As.map (E_v sz)).reverse ++ .ref (sz + o) :: rest.map (E_v sz) := by
                show f.2.2.map (E_v sz) = _
                rw [hstk, List.map_append, List.map_reverse]
                rfl
              have hk0 : kind ≠ 0 := by
                intro hz0
                subst hz0
                unfold E_kok at hk
                rw [hst0] at hk
                cases hk
              rcases hi with ⟨z, -⟩ | ⟨hkk, rfl⟩ | ⟨hkk, rfl⟩
              · exact absurd z hk0
              · -- virtual
                subst hkk
                unfold E_kok at hk
                simp only [Bool.and_eq_true] at hk
                obtain ⟨⟨-, hnI⟩, hrc⟩ := hk
                have hnI : M.2.1.name ≠ "<init>" := by
                  intro z
                  unfold E_isI at hnI
                  rw [z] at hnI
                  simp at hnI
                have hsel := (g5 hst0).2.resolve_left hnI
                have hrcv : ∃ cell : Cell, H[sz + o]? = some cell ∧ cell.vm.isStatics = false ∧ s.vm.findClass M.2.1.cls = some cell.cls := by
                  unfold E_rcv at hrc
                  dsimp only at hrc
                  split at hrc
                  · rename_i ci fs ho9
                    rw [Bool.and_eq_true, beq_iff_eq, decide_eq_true_eq] at hrc
                    obtain ⟨C, T, hcl⟩ := E_cl_13 hrc.2
                    have := va_recv hK hP hcl (q0 := o) (E_ws_get ho9)
                    rw [g6, ← hrc.1, (E_cl_ok _ _ _ _ hcl).2.2.2.2.2.2.1]
                    exact this
                  · cases hrc
                have hPV : PreV s H M.2.1.cls (sz + o) (E_Pc D TY sz (.ref o :: As) h) (As.map (E_v sz)) := ⟨E_blind, hrcv, fun U hU hW => hpre U hU hW⟩
                by_cases hb1 : b = 1
                · exact E_call_k (va_runVN (Ts := E_GT) ⟨hx, hb, hml, hown, hts⟩ hMet ⟨va_cnB M.2.2.2.2.2.2.1 hts hG rfl rfl rfl (hlinkN hb1) (hts _ g3) ⟨g8.1, g8.2, g9⟩ hroom, hts _ (g5 hst0).1, hts _ hsel⟩ hPV rfl (by rw [List.length_map]; exact hvl) hnL hstack (lv_room hcat) hd hf) hV hk2
                · exact E_call_k (va_runV (Ts := E_GT) ⟨hx, hb, hml, hown, hts⟩ hMet ⟨callB_of M.2.2.2.2.2.2.1 hts hG rfl rfl rfl (hts _ g3) (hlinkL hb1) ⟨g8.1, g8.2, g9⟩ hroom, hts _ (g5 hst0).1, hts _ hsel⟩ hPV rfl (by rw [List.length_map]; exact hvl) hnL hstack (lv_room hcat) hd hf) hV hk2
              · -- a constructor
                subst hkk
                unfold E_kok at hk
                simp only [Bool.and_eq_true] at hk
                obtain ⟨⟨-, hnI⟩, hret⟩ := hk
                have hnm : M.2.1.name = "<init>" := of_decide_eq_true hnI
                have hret : M.2.2.2.2.1 = none := of_decide_eq_true hret
                unfold E_Met at hMet
                have hG' := hG
                unfold E_w at hMet hG'
                rw [hret] at hMet hG'
                have hPS : PreS s H (E_Pc D TY sz (.ref o :: As) h) (.ref (sz + o) :: As.map (E_v sz)) := ⟨E_blind, fun U hU hW => hpre U hU hW⟩
                by_cases hb1 : b = 1
                · exact E_call_k (va_runIN (Ts := E_GT) ⟨hx, hb, hml, hown, hts⟩ hMet ⟨va_cnB M.2.2.2.2.2.2.1 hts hG' rfl rfl rfl (hlinkN hb1) (hts _ g3) ⟨g8.1, g8.2, g9⟩ hroom, hnm, hts _ (g5 hst0).1⟩ hPS rfl (by rw [List.length_map]; exact hvl) hnL hstack (lv_room hcat) hd hf) hV hk2
                · exact E_call_k (va_runI (Ts := E_GT) ⟨hx, hb, hml, hown, hts⟩ hMet ⟨callB_of M.2.2.2.2.2.2.1 hts hG' rfl rfl rfl (hts _ g3) (hlinkL hb1) ⟨g8.1, g8.2, g9⟩ hroom, hnm, hts _ (g5 hst0).1⟩ hPS rfl (by rw [List.length_map]; exact hvl) hnL hstack (lv_room hcat) hd hf) hV hk2
        · cases q
      · cases q
end EC
end
section
section ER
variable {p : Program} {l : Launch} {e : Env} {R : Room} {s : State} {m : MethodId} {args : Array Value} {below : List Frame} {meth : Method} {c : Code} {Q : State → Prop} {sz n0 : Nat} {D : va_G} {TY : List (ClassId × FieldType)}
theorem E_rk1 {oc i a b : Nat} (h : E_rok oc (.invokestatic i) a b = true) (h1 : a ≠ 900) (h2 : a ≠ 998) : (bif b == 1 then E_has3 E_MN oc i a else E_has3 E_ML oc i a) = true := by
  have h : (a == 900 || (bif a == 998 then E_has2 E_AC oc i else (bif b == 1 then E_has3 E_MN oc i a else E_has3 E_ML oc i a))) = true := h
  rw [show (a == 900) = false by simpa using h1, show (a == 998) = false by simpa using h2] at h
  exact h
theorem E_rk1c {oc i b : Nat} (h : E_rok oc (.invokestatic i) 998 b = true) : E_has2 E_AC oc i = true := h
theorem E_rk2 {oc i a b : Nat} (h : E_rok oc (.invokevirtual i) a b = true) (h1 : a < 900) : (bif b == 1 then E_has3 E_MN oc i a else E_has3 E_ML oc i a) = true := by
  have h : (a == 900 || a == 997 || a == 996 || (bif b == 1 then E_has3 E_MN oc i a else E_has3 E_ML oc i a)) = true := h
  rw [show (a == 900) = false by simp; omega, show (a == 997) = false by simp; omega, show (a == 996) = false by simp; omega] at h
  exact h
theorem E_rk3 {oc i a b : Nat} (h : E_rok oc (.invokespecial i) a b = true) (h1 : a ≠ 900) (h2 : a ≠ 999) : (bif b == 1 then E_has3 E_MN oc i a else E_has3 E_ML oc i a) = true := by
  have h : (a == 900 || (bif a == 999 then E_has2 E_OI oc i else (bif b == 1 then E_has3 E_MN oc i a else E_has3 E_ML oc i a))) = true := h
  rw [show (a == 900) = false by simpa using h1, show (a == 999) = false by simpa using h2] at h
  exact h
theorem E_rk3c {oc i b : Nat} (h : E_rok oc (.invokespecial i) 999 b = true) : E_has2 E_OI oc i = true := h
theorem E_mm_ok {cc : ByteArray} {nL oc : Nat} {isI : Bool} (X : E_X p s m args meth c cc nL oc isI D TY sz n0) {i a b : Nat} {f f' : E_F} {h : E_H} {sl : Nat} (ham : a = 288 ∨ a = 289) (hb0 : b = 0) (hr : (bif b == 1 then E_has3 E_MN oc i a else E_has3 E_ML oc i a) = true) (q : E_mm a f = some f') (hcat : E_catS f.2.2 ≤ 16) (hd : decode cc f.1 = .ok (.invokestatic i, 3)) (hRf : 1 ≤ R.frames) (hRl : 48 ≤ R.locals) (hR : h.length - n0 ≤ R.cells ∧ sl ≤ R.slots) (kk : E_G p l e R s m args below meth c sz nL n0 D TY Q f' h sl) : E_G p l e R s m args below meth c sz nL n0 D TY Q f h sl := by
  obtain ⟨hx, hb, hml, hts, hown, hK, hT, hN, hI, hz⟩ := X
  subst hb0
  have hw := hts _ (E_ML_ok _ (List.mem_map.mpr ⟨_, E_has3_m hr, rfl⟩))
  unfold E_mm at q
  split at q
  · rename_i pc L y x st
    cases q
    intro H locs hS ls hl
    have hc2 : (((st.map (E_v sz)).map fun v => v.category).sum) + 13 ≤ R.locals := by
      rw [E_cat_map]
      unfold E_catS at hcat ⊢
      simp only [List.map_cons, List.sum_cons] at hcat
      omega
    rcases ham with rfl | rfl
    · exact va_mmax hx hb (hml.trans hl.1.symm) hown hw (hts _ E_wmx1) (hts _ E_wmx0) (hts _ E_wmx2) hRf hc2 hR.1 hR.2 hd (kk H locs hS ls hl)
    · exact va_mmin hx hb (hml.trans hl.1.symm) hown hw (hts _ E_wmn1) (hts _ E_wmx0) (hts _ E_wmn2) hRf hc2 hR.1 hR.2 hd (kk H locs hS ls hl)
  · cases q
set_option maxHeartbeats 4000000 in
theorem E_stepL {M : E_MI} (hM : E_mf M) (X : E_X p s m args meth c M.2.2.1 M.2.2.2.1 M.1 (E_isI M) D TY sz n0) {d : Nat} {orc : Nat → List Value → E_H → Option E_R}
    (hO : ∀ (a : Nat) (M : E_MI) (vs : List Value) (h : E_H) (r : E_R), E_mi a = some M → orc a vs h = some r → E_Met l D TY sz d M vs h r ∧ h.length ≤ r.2.1.length)
    (hRf : d + 1 ≤ R.frames) (hRl : 48 * (d + 1) ≤ R.locals) {f f' : E_F} {h h' : E_H} {sl sl' : Nat} (q : E_step orc M f h sl = some (.inl (f', h', sl'))) (hR : h'.length - n0 ≤ R.cells ∧ sl' ≤ R.slots) (kk : E_G p l e R s m args below meth c sz M.2.2.2.1 n0 D TY Q f' h' sl') : E_G p l e R s m args below meth c sz M.2.2.2.1 n0 D TY Q f h sl := by
  obtain ⟨g1, -⟩ := hM
  unfold E_step at q
  split at q
  · cases q
  · rename_i ins len a b hf
    obtain ⟨hd, hrk⟩ := g1 _ (E_find_m hf)
    have hd : decode M.2.2.1 f.1 = .ok (ins, len) := hd
    have hrk : E_rok M.1 ins a b = true := hrk
    cases ins
    case ireturn => dsimp only at q; repeat' split at q
                    all_goals cases q
    case lreturn => dsimp only at q; repeat' split at q
                    all_goals cases q
    case areturn => dsimp only at q; repeat' split at q
                    all_goals cases q
    case return_ => dsimp only at q; repeat' split at q
                    all_goals cases q
    case invokestatic i =>
      dsimp only at q
      split at q
      · rename_i w
        obtain ⟨rfl, ha⟩ := w
        split at q
        · rename_i ha2
          subst ha2
          split at q
          · rename_i hc
            split at q
            · rename_i f2 h2 hq
              cases q
              exact E_copy_ok X (E_rk1c hrk) hq hc hd (by omega) (by omega) kk
            · cases q
          · cases q
        · rename_i ha2
          split at q
          · rename_i ham
            split at q
            · rename_i hbc
              split at q
              · rename_i f2 hq
                cases q
                exact E_mm_ok X ham hbc.1 (E_rk1 hrk ha ha2) hq hbc.2 hd (by omega) (by omega) hR kk
              · cases q
            · cases q
          · split at q
            · rename_i z hq
              obtain ⟨f2, h2, s2⟩ := z
              cases q
              exact E_inv_ok X hO hRf hRl (Or.inl ⟨rfl, rfl⟩) (E_rk1 hrk ha ha2) hq hd hR kk
            · cases q
      · cases q
    case invokevirtual i =>
      dsimp only at q
      split at q
      · rename_i w
        obtain ⟨rfl, ha⟩ := w
        split at q
        · rename_i z hq
          obtain ⟨f2, h2, s2⟩ := z
          cases q
          exact E_inv_ok X hO hRf hRl (Or.inr (Or.inl ⟨rfl, rfl⟩)) (E_rk2 hrk ha) hq hd hR kk
        · cases q
      · cases q
    case invokespecial i =>
      dsimp only at q
      split at q
      · rename_i w
        obtain ⟨rfl, ha⟩ := w
        split at q
        · rename_i ha2
          subst ha2
          split at q
          · rename_i pc L o st hd9
            split at q
            · rename_i hc
              cases q
              obtain ⟨hx, hb, hml, hts, hown, hK, hT, hN, hI, hz⟩ := X
              intro H locs hS ls hl
              have hw := hts _ (E_OI_ok _ (List.mem_map.mpr ⟨_, E_has2_m (E_rk3c hrk), rfl⟩))
              refine W.objInit hx hb hown hw (hts _ E_wo1) (hts _ E_wo2) (g := F0 m pc ls (.ref (sz + o) :: st.map (E_v sz))) rfl (by rw [hml]; exact hl.1) rfl hd (by omega) (by show 2 * 0 + _ + 12 ≤ _; rw [E_cat_map]; omega) ?_
              exact kk H locs hS ls hl
            · cases q
          · cases q
        · rename_i ha2
          split at q
          · rename_i z hq
            obtain ⟨f2, h2, s2⟩ := z
            cases q
            exact E_inv_ok X hO hRf hRl (Or.inr (Or.inr ⟨rfl, rfl⟩)) (E_rk3 hrk ha ha2) hq hd hR kk
          · cases q
      · cases q
    all_goals
      dsimp only at q
      split at q
      · rename_i f2 h2 n hq
        cases q
        exact E_heap_ok X hrk hq hd hR kk
      · cases q
set_option maxHeartbeats 4000000 in
/-- a return -/
theorem E_stepR {M : E_MI} (hM : E_mf M) (X : E_X p s m args meth c M.2.2.1 M.2.2.2.1 M.1 (E_isI M) D TY sz n0) (hret : meth.sig.returnType = M.2.2.2.2.1) (hlk : meth.locks = false) {orc : Nat → List Value → E_H → Option E_R} {f : E_F} {h : E_H} {sl : Nat} {r : E_R} (q : E_step orc M f h sl = some (.inr r)) :
    r.2.1 = h ∧ r.2.2 = sl ∧ E_G p l e R s m args below meth c sz M.2.2.2.1 n0 D TY (MQ below (E_Qc D TY sz r.1 h) args s (h.length - n0) sl (fun q => sz ≤ q)) f h sl := by
  obtain ⟨g1, -⟩ := hM
  obtain ⟨hx, hb, hml, hts, hown, hK, hT, hN, hI, hz⟩ := X
  unfold E_step at q
  split at q
  · cases q
  · rename_i ins len a b hf
    obtain ⟨hd, hrk⟩ := g1 _ (E_find_m hf)
    have hd : decode M.2.2.1 f.1 = .ok (ins, len) := hd
    obtain ⟨pc, L, st⟩ := f
    have hd : decode M.2.2.1 pc = .ok (ins, len) := hd
    cases ins
    case ireturn =>
      dsimp only at q
      split at q
      · rename_i v ty h1 h2
        split at q
        · rename_i w
          obtain ⟨rfl, hn⟩ := w
          cases q
          refine ⟨rfl, rfl, fun H locs hS ls hl => ?_⟩
          exact W.zret (v := v) hx hb (hret.trans h1) hn (fun t ht hW => ⟨⟨rfl, by rw [ht]; exact hS.1⟩, hS.2.1.F ht⟩) hS.2.1.2.2 hd hlk
        · cases q
      · cases q
    case lreturn =>
      dsimp only at q
      split at q
      · rename_i v h1 h2
        split at q
        · rename_i w
          subst w
          cases q
          refine ⟨rfl, rfl, fun H locs hS ls hl => ?_⟩
          exact W.lret (v := v) hx hb (hret.trans h1) (fun t ht hW => ⟨⟨rfl, by rw [ht]; exact hS.1⟩, hS.2.1.F ht⟩) hS.2.1.2.2 hd hlk
        · cases q
      · cases q
    case areturn =>
      dsimp only at q
      split at q
      · rename_i v C h1 h2
        split at q
        · rename_i w
          subst w
          cases q
          refine ⟨rfl, rfl, fun H locs hS ls hl => ?_⟩
          exact W.aret (v := .ref (sz + v)) hx hb (hret.trans h1) (Or.inl ⟨_, rfl⟩) (Or.inr ⟨_, rfl⟩) (fun t ht hW => ⟨⟨rfl, by rw [ht]; exact hS.1⟩, hS.2.1.F ht⟩) hS.2.1.2.2 hd hlk
        · cases q
      · rename_i v C h1 h2
        split at q
        · rename_i w
          subst w
          cases q
          refine ⟨rfl, rfl, fun H locs hS ls hl => ?_⟩
          exact W.aret (v := .ref (sz + v)) hx hb (hret.trans h1) (Or.inr ⟨_, rfl⟩) (Or.inr ⟨_, rfl⟩) (fun t ht hW => ⟨⟨rfl, by rw [ht]; exact hS.1⟩, hS.2.1.F ht⟩) hS.2.1.2.2 hd hlk
        · cases q
      · rename_i C h1 h2
        split at q
        · rename_i w
          subst w
          cases q
          refine ⟨rfl, rfl, fun H locs hS ls hl => ?_⟩
          exact W.aret (v := .null) hx hb (hret.trans h1) (Or.inl ⟨_, rfl⟩) (Or.inl rfl) (fun t ht hW => ⟨⟨rfl, by rw [ht]; exact hS.1⟩, hS.2.1.F ht⟩) hS.2.1.2.2 hd hlk
        · cases q
      · cases q
    case return_ =>
      dsimp only at q
      split at q
      · rename_i h1 h2
        split at q
        · rename_i w
          subst w
          cases q
          refine ⟨rfl, rfl, fun H locs hS ls hl => ?_⟩
          exact W.vret hx hb (hret.trans h1) (fun t ht hW => ⟨⟨rfl, by rw [ht]; exact hS.1⟩, hS.2.1.F ht⟩) hS.2.1.2.2 hd hlk
        · cases q
      · cases q
    case invokestatic i => dsimp only at q; repeat' split at q
                           all_goals cases q
    case invokevirtual i => dsimp only at q; repeat' split at q
                            all_goals cases q
    case invokespecial i => dsimp only at q; repeat' split at q
                            all_goals cases q
    all_goals
      dsimp only at q
      split at q
      · cases q
      · cases q
end ER
end
section
theorem E_len_inv {orc : Nat → List Value → E_H → Option E_R} (hO : ∀ (a : Nat) (M : E_MI) (vs : List Value) (h : E_H) (r : E_R), E_mi a = some M → orc a vs h = some r → h.length ≤ r.2.1.length) {kind a : Nat} {f f' : E_F} {h h' : E_H} {sl sl' : Nat} (q : E_inv orc kind a f h sl = some (f', h', sl')) : h.length ≤ h'.length ∧ sl ≤ sl' := by
  unfold E_inv at q
  split at q
  · cases q
  · rename_i M hM
    split at q
    · cases q
    · split at q
      · split at q
        · split at q
          · cases q
          · rename_i r h2 s2 ho
            cases q
            exact ⟨hO a M _ h _ hM ho, Nat.le_add_right _ _⟩
        · cases q
      · cases q
set_option maxHeartbeats 4000000 in
theorem E_len_step {orc : Nat → List Value → E_H → Option E_R} (hO : ∀ (a : Nat) (M : E_MI) (vs : List Value) (h : E_H) (r : E_R), E_mi a = some M → orc a vs h = some r → h.length ≤ r.2.1.length) {M : E_MI} {f f' : E_F} {h h' : E_H} {sl sl' : Nat} (q : E_step orc M f h sl = some (.inl (f', h', sl'))) : h.length ≤ h'.length ∧ sl ≤ sl' := by
  unfold E_step at q
  split at q
  · cases q
  · rename_i ins len a b hf
    cases ins
    case ireturn => dsimp only at q; repeat' split at q
                    all_goals cases q
    case lreturn => dsimp only at q; repeat' split at q
                    all_goals cases q
    case areturn => dsimp only at q; repeat' split at q
                    all_goals cases q
    case return_ => dsimp only at q; repeat' split at q
                    all_goals cases q
    case invokestatic i =>
      dsimp only at q
      split at q
      · split at q
        · split at q
          · split at q
            · rename_i f2 h2 hq
              cases q
              exact ⟨E_len_copy hq, Nat.le_refl _⟩
            · cases q
          · cases q
        · split at q
          · split at q
            · split at q
              · cases q
                exact ⟨Nat.le_refl _, Nat.le_refl _⟩
              · cases q
            · cases q
          · split at q
            · rename_i z hq
              obtain ⟨f2, h2, s2⟩ := z
              cases q
              exact E_len_inv hO hq
            · cases q
      · cases q
    case invokevirtual i =>
      dsimp only at q
      split at q
      · split at q
        · rename_i z hq
          obtain ⟨f2, h2, s2⟩ := z
          cases q
          exact E_len_inv hO hq
        · cases q
      · cases q
    case invokespecial i =>
      dsimp only at q
      split at q
      · split at q
        · split at q
          · split at q
            · cases q
              exact ⟨Nat.le_refl _, Nat.le_refl _⟩
            · cases q
          · cases q
        · split at q
          · rename_i z hq
            obtain ⟨f2, h2, s2⟩ := z
            cases q
            exact E_len_inv hO hq
          · cases q
      · cases q
    all_goals
      dsimp only at q
      split at q
      · rename_i f2 h2 n hq
        cases q
        exact ⟨E_len_heap hq, Nat.le_add_right _ _⟩
      · cases q
theorem E_len_ret {orc : Nat → List Value → E_H → Option E_R} {M : E_MI} {f : E_F} {h : E_H} {sl : Nat} {r : E_R} (q : E_step orc M f h sl = some (.inr r)) : r.2.1 = h ∧ r.2.2 = sl := by
  unfold E_step at q
  split at q
  · cases q
  · rename_i ins len a b hf
    cases ins
    case ireturn => dsimp only at q; repeat' split at q
                    all_goals first | (cases q; done) | (cases q; exact ⟨rfl, rfl⟩)
    case lreturn => dsimp only at q; repeat' split at q
                    all_goals first | (cases q; done) | (cases q; exact ⟨rfl, rfl⟩)
    case areturn => dsimp only at q; repeat' split at q
                    all_goals first | (cases q; done) | (cases q; exact ⟨rfl, rfl⟩)
    case return_ => dsimp only at q; repeat' split at q
                    all_goals first | (cases q; done) | (cases q; exact ⟨rfl, rfl⟩)
    all_goals
      dsimp only at q
      repeat' split at q
      all_goals cases q
theorem E_run_len {orc : Nat → List Value → E_H → Option E_R} (hO : ∀ (a : Nat) (M : E_MI) (vs : List Value) (h : E_H) (r : E_R), E_mi a = some M → orc a vs h = some r → h.length ≤ r.2.1.length) {M : E_MI} : ∀ (n : Nat) (f : E_F) (h : E_H) (sl : Nat) (r : E_R), E_run orc M n f h sl = some r → h.length ≤ r.2.1.length ∧ sl ≤ r.2.2 := by
  intro n
  induction n with
  | zero => intro f h sl r q; cases q
  | succ n ih =>
    intro f h sl r q
    unfold E_run at q
    split at q
    · cases q
    · rename_i r2 hs
      cases q
      obtain ⟨e1, e2⟩ := E_len_ret hs
      exact ⟨by rw [e1]; exact Nat.le_refl _, by rw [e2]; exact Nat.le_refl _⟩
    · rename_i f2 h2 s2 hs
      obtain ⟨a1, a2⟩ := E_len_step hO hs
      obtain ⟨b1, b2⟩ := ih _ _ _ _ q
      exact ⟨Nat.le_trans a1 b1, Nat.le_trans a2 b2⟩
theorem E_call_len (fuel : Nat) : ∀ (d a : Nat) (M : E_MI) (vs : List Value) (h : E_H) (r : E_R), E_mi a = some M → E_call fuel d a vs h = some r → h.length ≤ r.2.1.length := by
  intro d
  induction d with
  | zero => intro a M vs h r hM q; cases q
  | succ d ih =>
    intro a M vs h r hM q
    unfold E_call at q
    rw [hM] at q
    dsimp only at q
    split at q
    · exact (E_run_len ih _ _ _ _ _ q).1
    · cases q
section EM
variable {p : Program} {l : Launch} {e : Env} {R : Room} {s : State} {m : MethodId} {args : Array Value} {below : List Frame} {meth : Method} {c : Code} {sz n0 : Nat} {D : va_G} {TY : List (ClassId × FieldType)}
theorem E_run_ok {M : E_MI} (hM : E_mf M) (X : E_X p s m args meth c M.2.2.1 M.2.2.2.1 M.1 (E_isI M) D TY sz n0) (hret : meth.sig.returnType = M.2.2.2.2.1) (hlk : meth.locks = false) {d : Nat} {orc : Nat → List Value → E_H → Option E_R}
    (hO : ∀ (a : Nat) (M : E_MI) (vs : List Value) (h : E_H) (r : E_R), E_mi a = some M → orc a vs h = some r → E_Met l D TY sz d M vs h r ∧ h.length ≤ r.2.1.length) (hRf : d + 1 ≤ R.frames) (hRl : 48 * (d + 1) ≤ R.locals) :
    ∀ (n : Nat) (f : E_F) (h : E_H) (sl : Nat) (r : E_R), E_run orc M n f h sl = some r → r.2.1.length - n0 ≤ R.cells → r.2.2 ≤ R.slots → E_G p l e R s m args below meth c sz M.2.2.2.1 n0 D TY (MQ below (E_Qc D TY sz r.1 r.2.1) args s (r.2.1.length - n0) r.2.2 (fun q => sz ≤ q)) f h sl := by
  intro n
  induction n with
  | zero => intro f h sl r q; cases q
  | succ n ih =>
    intro f h sl r q hc hs
    unfold E_run at q
    split at q
    · cases q
    · rename_i r2 hs2
      cases q
      obtain ⟨e1, e2, k⟩ := E_stepR hM X hret hlk (R := R) (l := l) (e := e) (below := below) hs2
      obtain ⟨rv, rh, rs⟩ := r
      cases e1
      cases e2
      exact k
    · rename_i f2 h2 s2 hs2
      obtain ⟨b1, b2⟩ := E_run_len (fun a M vs h r x y => (hO a M vs h r x y).2) _ _ _ _ _ q
      exact E_stepL hM X hO hRf hRl hs2 ⟨by omega, by omega⟩ (ih _ _ _ _ q hc hs)
/-- WHAT THE EVALUATOR COMPUTES IS THE METHOD'S CONTRACT -/
theorem E_call_met (l : Launch) (D : va_G) (TY : List (ClassId × FieldType)) (hT : TY.map Prod.snd = E_ATY) (sz fuel : Nat) : ∀ (d a : Nat) (M : E_MI) (vs : List Value) (h : E_H) (r : E_R), E_mi a = some M → E_call fuel d a vs h = some r → E_Met l D TY sz d M vs h r ∧ h.length ≤ r.2.1.length := by
  intro d
  induction d with
  | zero => intro a M vs h r hM q; cases q
  | succ d ih =>
    intro a M vs h r hM q
    refine ⟨?_, E_call_len fuel _ _ _ _ _ _ hM q⟩
    unfold E_call at q
    rw [hM] at q
    dsimp only at q
    split at q
    · rename_i hls
      have hmem := E_mf_ok hM
      obtain ⟨g1, g2, g3, g4, g5, g6, g7, g8, g9, g10⟩ := id hmem
      unfold E_Met
      refine Met.ofW (cc := M.2.2.1) (maxL := M.2.2.2.1) (ret := M.2.2.2.2.1) g7 rfl ?_
      intro p e s m args below meth c s₁ B hml hv
      obtain ⟨rfl, hsz, hP, hK, hN⟩ := hv
      have hts := atoms_spec (ws := E_w M) B.pre
      have hown0 : s.vm.findClass M.2.1.cls = some m.cls := findClass_of_methodNamed B.named
      have X : E_X p s m (vs.map (E_v sz)).toArray meth c M.2.2.1 M.2.2.2.1 M.1 (E_isI M) D TY sz h.length := ⟨B.exec, B.bytes, hml, fun w hw => hts w (List.mem_cons_of_mem _ hw), by rw [← g6]; exact hown0, hK, hT, hN, fun hI => by
        have := (name_of_methodNamed B.named B.method).1
        rw [this]
        exact of_decide_eq_true hI, hsz⟩
      have k := E_run_ok (l := l) (e := e) (below := below) (R := (headSpec (E_w M) (E_rm (d + 1) (r.2.1.length - h.length) r.2.2)).room) hmem X B.returns B.notSynchronized ih (Nat.le_refl _) (Nat.le_refl _) fuel _ _ _ _ q (Nat.le_refl _) (Nat.le_refl _)
      have hl := lv_entry (vs.map (E_v sz)) (n := M.2.2.2.1) (by rw [E_lg_sl]; exact hls)
      rw [lg_entry_eq]
      generalize (lg_sl (vs.map (E_v sz)) ++ List.replicate (M.2.2.2.1 - (lg_sl (vs.map (E_v sz))).length) Slot.unset).toArray = ls at hl ⊢
      have k2 := k s.heap [] ⟨hP, va_S.rf, Nat.le_refl _⟩ ls (by rw [E_args_map] at hl; exact hl)
      rw [Nat.sub_self] at k2
      exact k2
    · cases q
end EM
end
section
/-! the law's own steps -/
def R_law : String := "GramFinderLaw"
section LW
variable {p : Program} {l : Launch} {e : Env} {R : Room} {s : State} {m : MethodId} {args : Array Value} {below : List Frame} {meth : Method} {c : Code} {H : Heap} {locs : List Loc} {cells sl : Nat} {Q : State → Prop} {sz : Nat} {D : va_G} {TY : List (ClassId × FieldType)}
/-- what holds throughout the law's run -/
def L_X (p : Program) (s : State) (m : MethodId) (args : Array Value) (c : Code) (D : va_G) (TY : List (ClassId × FieldType)) (b L : Nat) (xs : Nat → Int32) (sz : Nat) : Prop :=
  p.tables.exec = Jvm.exec ∧ c.code = code ∧ c.maxLocals = 4 ∧ s.vm.findClass R_law = some m.cls ∧ (∀ w ∈ lw_tbl, w.before args s = true) ∧ va_X b L xs s s.heap ∧ b < s.heap.size ∧ s.heap.size = sz ∧ va_K D E_CL TY s ∧ TY.map Prod.snd = E_ATY ∧ E_NW s ∧ L < 2 ^ 30
theorem L_arg {b L i k pc x y : Nat} {xs : Nat → Int32} {ls : Array Slot} {rest : List Value} {n : Int} (X : L_X p s m args c D TY b L xs sz) (hl : lv_has ls 4 [(0, .ref b), (1, .ref x), (2, .ref y), (3, .int (nI i))]) (hV : va_S (fun q => sz ≤ q) s.heap H locs) (hik : i + k < L) (hn : Int32.ofInt n = nI k)
    (d0 : decode code pc = .ok (.aload_n 0, 1)) (d1 : decode code (pc + 1) = .ok (.iload_n 3, 1)) (d2 : decode code (pc + 2) = .ok (.iconst n, 1)) (d3 : decode code (pc + 3) = .ok (.iadd, 1)) (d4 : decode code (pc + 4) = .ok (.iaload, 1))
    (kk : W p l e R s m args below meth c H locs cells sl Q (F0 m (pc + 5) ls (.int (xs (i + k)) :: rest))) : W p l e R s m args below meth c H locs cells sl Q (F0 m pc ls rest) := by
  obtain ⟨hx, hb, hml, hown, hts, hX, hbl, hz, hK, hT, hN, hL⟩ := X
  refine lv_aload_n hx hb d0 rfl (lv_at hl 0 rfl) ?_
  refine lv_iload_n hx hb d1 rfl (lv_at hl 3 rfl) ?_
  refine lv_iconst hx hb d2 hn ?_
  refine lv_iadd hx hb d3 ?_
  rw [nI_add]
  refine va_sld hx hb hX hbl (by show ¬ sz ≤ b; omega) hV (vp_in_nI hik (by omega)) d4 ?_
  rw [nI_clamp (show i + k < 2 ^ 31 by omega)]
  exact kk
theorem L_arg0 {b L i pc x y : Nat} {xs : Nat → Int32} {ls : Array Slot} {rest : List Value} (X : L_X p s m args c D TY b L xs sz) (hl : lv_has ls 4 [(0, .ref b), (1, .ref x), (2, .ref y), (3, .int (nI i))]) (hV : va_S (fun q => sz ≤ q) s.heap H locs) (hik : i < L)
    (d0 : decode code pc = .ok (.aload_n 0, 1)) (d1 : decode code (pc + 1) = .ok (.iload_n 3, 1)) (d4 : decode code (pc + 2) = .ok (.iaload, 1))
    (kk : W p l e R s m args below meth c H locs cells sl Q (F0 m (pc + 3) ls (.int (xs i) :: rest))) : W p l e R s m args below meth c H locs cells sl Q (F0 m pc ls rest) := by
  obtain ⟨hx, hb, hml, hown, hts, hX, hbl, hz, hK, hT, hN, hL⟩ := X
  refine lv_aload_n hx hb d0 rfl (lv_at hl 0 rfl) ?_
  refine lv_iload_n hx hb d1 rfl (lv_at hl 3 rfl) ?_
  refine va_sld hx hb hX hbl (by show ¬ sz ≤ b; omega) hV (vp_in_nI hik (by omega)) d4 ?_
  rw [nI_clamp (show i < 2 ^ 31 by omega)]
  exact kk
theorem L_good (M : E_MI) (h : Cond.code M.2.1 M.2.2.1 M.2.2.2.1 M.2.2.2.2.1 ∈ E_GT) : GoodIn lw_tbl (E_w M) := fun w hw => ⟨(List.mem_filter.mp (E_good M h w hw).1).1, (E_good M h w hw).2⟩
theorem L_gt {s : State} {args : Array Value} (hts : ∀ w ∈ lw_tbl, w.before args s = true) : ∀ w ∈ E_GT, w.before args s = true := fun w hw => hts w (List.mem_filter.mp hw).1
/-- a call out of the law on an object -/
theorem L_call {b L pc o a idx fuel d s2 : Nat} {xs : Nat → Int32} {ls : Array Slot} {rest : List Value} {M : E_MI} {is : List Int32} {v : Int32} {h h2 : E_H} {fs : List Value} (X : L_X p s m args c D TY b L xs sz) (hls : ls.size = 4) (hS : E_S D TY sz 0 s h H locs)
    (hM : E_mi a = some M) (hq : E_call fuel d a (.ref o :: is.map Value.int) h = some (some (.int v), h2, s2)) (ho : h[o]? = some (.inr (M.1, fs))) (h13 : M.1 < 13) (hst : M.2.2.2.2.2.1 = false) (hnI : M.2.1.name ≠ "<init>") (hna : is.length = M.2.2.2.2.2.2.1)
    (hlink : Cond.methodLink R_law idx M.2.1 ∈ lw_tbl) (hdg : decode code pc = .ok (.invokevirtual idx, 3)) (hRf : d + 1 ≤ R.frames) (hRl : 48 * (d + 1) ≤ R.locals) (hcat : (rest.map fun v => v.category).sum ≤ 8) (hR : h2.length ≤ R.cells ∧ sl + s2 ≤ R.slots)
    (kk : ∀ (H1 : Heap) (locs1 : List Loc), E_S D TY sz 0 s h2 H1 locs1 → W p l e R s m args below meth c H1 locs1 h2.length (sl + s2) Q (F0 m (pc + 3) ls (.int v :: rest))) : W p l e R s m args below meth c H locs h.length sl Q (F0 m pc ls ((is.map Value.int).reverse ++ .ref (sz + o) :: rest)) := by
  obtain ⟨hx, hb, hml, hown, hts, hX, hbl, hz, hK, hT, hN, hL⟩ := X
  obtain ⟨hMet, hlen⟩ := E_call_met l D TY hT sz fuel d a M _ h _ hM hq
  have hlen : h.length ≤ h2.length := hlen
  obtain ⟨g1, g2, g3, g4, g5, g6, g7, g8, g9, g10⟩ := E_mf_ok hM
  have hts2 := L_gt hts
  refine E_wsz (fun hbd => ?_)
  have hsz := E_size hS hz (by omega)
  obtain ⟨hP, hV, hn0⟩ := hS
  have hei : (is.map Value.int).map (E_v sz) = is.map Value.int := by
    rw [List.map_map]
    rfl
  have hrcv : ∃ cell : Cell, H[sz + o]? = some cell ∧ cell.vm.isStatics = false ∧ s.vm.findClass M.2.1.cls = some cell.cls := by
    obtain ⟨C, T, hcl⟩ := E_cl_13 h13
    have := va_recv hK hP hcl (q0 := o) (E_ws_get ho)
    rw [g6, (E_cl_ok _ _ _ _ hcl).2.2.2.2.2.2.1]
    exact this
  have hPV : PreV s H M.2.1.cls (sz + o) (E_Pc D TY sz (.ref o :: is.map Value.int) h) (is.map Value.int) := ⟨E_blind, hrcv, fun U hU hW => by
    refine ⟨?_, by rw [hU]; exact hsz, by rw [hU]; exact hP, va_K.moved hW.alike hK, E_NW_moved hW hN⟩
    rw [List.map_cons, hei]
    rfl⟩
  have hroom : (E_rm d (h2.length - h.length) s2).frames + 1 ≤ R.frames ∧ 8 + (M.2.2.2.1 + 11) + (E_rm d (h2.length - h.length) s2).locals ≤ R.locals := ⟨hRf, by show 8 + (M.2.2.2.1 + 11) + 48 * d ≤ R.locals; omega⟩
  refine E_call_k (va_runV (Ts := lw_tbl) ⟨hx, hb, hml, hown, hts⟩ hMet ⟨callB_of M.2.2.2.2.2.2.1 hts (L_good M g2) rfl rfl rfl (hts2 _ g3) (hts _ hlink) ⟨g8.1, g8.2, g9⟩ hroom, hts2 _ (g5 hst).1, hts2 _ ((g5 hst).2.resolve_left hnI)⟩ hPV rfl (by rw [List.length_map]; exact hna) hls rfl (lv_room hcat) hdg ⟨by show h.length + (h2.length - h.length) ≤ R.cells; omega, hR.2⟩) hV (fun H1 locs1 hP1 hV1 => ?_)
  have k9 := kk H1 locs1 ⟨hP1, hV1, Nat.zero_le _⟩
  rw [show h2.length = h.length + (h2.length - h.length) by omega] at k9
  exact k9
/-- a constructor's call out of the law -/
theorem L_init {b L pc o a idx fuel d s2 : Nat} {xs : Nat → Int32} {ls : Array Slot} {rest : List Value} {M : E_MI} {h h2 : E_H} (X : L_X p s m args c D TY b L xs sz) (hls : ls.size = 4) (hS : E_S D TY sz 0 s h H locs)
    (hM : E_mi a = some M) (hq : E_call fuel d a [.ref o] h = some (none, h2, s2)) (hst : M.2.2.2.2.2.1 = false) (hnm : M.2.1.name = "<init>") (hret : M.2.2.2.2.1 = none) (hna : 0 = M.2.2.2.2.2.2.1)
    (hlink : Cond.methodLink R_law idx M.2.1 ∈ lw_tbl) (hdg : decode code pc = .ok (.invokespecial idx, 3)) (hRf : d + 1 ≤ R.frames) (hRl : 48 * (d + 1) ≤ R.locals) (hcat : (rest.map fun v => v.category).sum ≤ 8) (hR : h2.length ≤ R.cells ∧ sl + s2 ≤ R.slots)
    (kk : ∀ (H1 : Heap) (locs1 : List Loc), E_S D TY sz 0 s h2 H1 locs1 → W p l e R s m args below meth c H1 locs1 h2.length (sl + s2) Q (F0 m (pc + 3) ls rest)) : W p l e R s m args below meth c H locs h.length sl Q (F0 m pc ls (.ref (sz + o) :: rest)) := by
  obtain ⟨hx, hb, hml, hown, hts, hX, hbl, hz, hK, hT, hN, hL⟩ := X
  obtain ⟨hMet, hlen⟩ := E_call_met l D TY hT sz fuel d a M _ h _ hM hq
  have hlen : h.length ≤ h2.length := hlen
  obtain ⟨g1, g2, g3, g4, g5, g6, g7, g8, g9, g10⟩ := E_mf_ok hM
  have hts2 := L_gt hts
  refine E_wsz (fun hbd => ?_)
  have hsz := E_size hS hz (by omega)
  obtain ⟨hP, hV, hn0⟩ := hS
  have hPS : PreS s H (E_Pc D TY sz [.ref o] h) (.ref (sz + o) :: []) := ⟨E_blind, fun U hU hW => ⟨rfl, by rw [hU]; exact hsz, by rw [hU]; exact hP, va_K.moved hW.alike hK, E_NW_moved hW hN⟩⟩
  have hroom : (E_rm d (h2.length - h.length) s2).frames + 1 ≤ R.frames ∧ 8 + (M.2.2.2.1 + 11) + (E_rm d (h2.length - h.length) s2).locals ≤ R.locals := ⟨hRf, by show 8 + (M.2.2.2.1 + 11) + 48 * d ≤ R.locals; omega⟩
  have hG := L_good M g2
  unfold E_Met at hMet
  unfold E_w at hMet hG
  rw [hret] at hMet hG
  refine E_call_k (va_runI (Ts := lw_tbl) (As := []) ⟨hx, hb, hml, hown, hts⟩ hMet ⟨callB_of M.2.2.2.2.2.2.1 hts hG rfl rfl rfl (hts2 _ g3) (hts _ hlink) ⟨g8.1, g8.2, g9⟩ hroom, hnm, hts2 _ (g5 hst).1⟩ hPS rfl hna hls rfl (lv_room hcat) hdg ⟨by show h.length + (h2.length - h.length) ≤ R.cells; omega, hR.2⟩) hV (fun H1 locs1 hP1 hV1 => ?_)
  have k9 := kk H1 locs1 ⟨hP1, hV1, Nat.zero_le _⟩
  rw [show h2.length = h.length + (h2.length - h.length) by omega] at k9
  exact k9
/-- 'new' out of the law -/
theorem L_new {b L pc a idx : Nat} {xs : Nat → Int32} {ls : Array Slot} {rest : List Value} {C : String} {h : E_H} (X : L_X p s m args c D TY b L xs sz) (hS : E_S D TY sz 0 s h H locs) (ha : a < 13) (hC : E_cn a = C)
    (hlink : Cond.classLink R_law idx C ∈ lw_tbl) (hdg : decode code pc = .ok (.new idx, 3)) (hR : h.length + 1 ≤ R.cells ∧ sl + E_N a ≤ R.slots)
    (kk : ∀ (H1 : Heap), E_S D TY sz 0 s (h ++ [.inr (a, E_dfl a)]) H1 locs → W p l e R s m args below meth c H1 locs (h ++ [(.inr (a, E_dfl a) : E_O)]).length (sl + E_N a) Q (F0 m (pc + 3) ls (.ref (sz + h.length) :: rest))) : W p l e R s m args below meth c H locs h.length sl Q (F0 m pc ls rest) := by
  obtain ⟨hx, hb, hml, hown, hts, hX, hbl, hz, hK, hT, hN, hL⟩ := X
  obtain ⟨C', T, hc⟩ := E_cl_13 ha
  obtain ⟨c1, c2, c3, c4, c5, c6, c7, c8, c9⟩ := E_cl_ok _ _ _ _ hc
  have hts2 := L_gt hts
  have hCC : C = C' := hC.symm.trans c7
  subst hCC
  refine va_new (Ts := E_GT) hx hb hts2 c3 (E_cty a) c1 hown (hts _ hlink) (hts2 _ c4) (hts2 _ c5) hK hS.1 E_ws_D hS.2.1 (fun q hq => by show sz ≤ q; omega) hc (fs := E_dfl a) (fun j hj => E_dfl_V hj) hR.1 hR.2 hdg (fun q H1 hP hD hV => ?_)
  refine E_wsz (fun hbd => ?_)
  have hq := E_addr hP hD (by omega)
  subst hq
  rw [show ((sz + h.length, .inr (a, E_dfl a)) : Nat × va_E) = (sz + h.length, E_e TY sz (.inr (a, E_dfl a))) by show _ = ((sz + h.length, .inr (a, (E_dfl a).map (E_v sz))) : Nat × va_E); rw [E_dfl_v sz a (fun k => E_dv_v sz _)], E_ws_app] at hP
  have k9 := kk H1 ⟨hP, hV, Nat.zero_le _⟩
  rw [List.length_append] at k9
  exact k9
end LW
end
section
/-! THE CLAIM OUT OF ONE WALK OF THE LAW'S BODY. Your part is whole_start (and what it stands on); all else here is the same for every law, but numbers. -/
def lw_P (b : Addr) (xs : List Int32) (args : Array Value) (s : State) : Prop := args = #[.ref b] ∧ s.IntsAt b xs ∧ xs.length ≤ 6 ∧ (Jvm.Cond.and given_1 narrow_1).before args s = true
def lw_Q (_ : Array Value) (s : State) (o : Outcome) (t : State) : Prop := o = .returned (some (.int 1)) ∧ Framed s o t [] room_1.cells room_1.slots
def lw_Z (below : List Frame) (a : Array Value) (s : State) : State → Prop := fun t => ∃ o, t.status = .running ∧ Ended t below o ∧ lw_Q a s o t
/-- the law's own end, with 1 on the stack, nothing written that was there before, its room as the claim has it -/
theorem lw_ret {p : Program} {l : Launch} {e : Env} {s : State} {m : MethodId} {below : List Frame} {meth : Method} {c : Code} {b : Nat} (hx : p.tables.exec = Jvm.exec) (hb : c.code = code) (hr : meth.sig.returnType = ret) (hlocks : meth.locks = false) {pc : Nat} {H : Heap} {ls : Array Slot} (hdg : decode code pc = .ok (.ireturn, 1)) : W p l e room_1 s m #[Value.ref b] below meth c H [] room_1.cells room_1.slots (lw_Z below #[Value.ref b] s) (F0 m pc ls [.int 1]) := by
  intro T hT X
  obtain ⟨fs, hret, hrun, hended, hW, hframe⟩ := X.leave (v := some (.int 1)) (hlocks := hlocks) (fun h => by rw [hr] at h; cases h)
  have hmeth' : T.vm.method? m = some meth := X.method'
  refine ⟨T.setFrames fs, ?_, .returned (some (.int 1)), hrun, hended, rfl, ⟨_, rfl⟩, hW, hframe⟩
  jvm_step X.here [X.here.top, hx, hb, hdg, hmeth', hr, ret, narrow_b1]
  (try refine ⟨rfl, ?_⟩); (try refine ⟨rfl, ?_⟩)
  first | (intro acts; rw [hret _ acts rfl rfl rfl]) | rw [hret _ _ rfl rfl rfl]
  exact Steps.refl _
/-- what holds at the law's entry: the machine, the code, the tables' words (any of lw_tbl by 'hts w (by decide +kernel)'), the script of L ints xs at the cell b, what the Statement gives of the start (any of its parts by flat_of_before) -/
def lw_At (p : Program) (s : State) (m : MethodId) (meth : Method) (c : Code) (b L : Nat) (xs : Nat → Int32) : Prop :=
  p.tables.exec = Jvm.exec ∧ c.code = code ∧ meth.sig.returnType = ret ∧ c.maxLocals = 4 ∧ s.vm.findClass R_law = some m.cls ∧ (∀ w ∈ lw_tbl, w.before #[Value.ref b] s = true) ∧ va_X b L xs s s.heap ∧ b < s.heap.size ∧ meth.locks = false ∧ (Jvm.Cond.and given_1 narrow_1).before #[Value.ref b] s = true
end
section
theorem d_law_0 : decode code 0 = .ok (.new 7, 3) := by decide +kernel
theorem d_law_3 : decode code 3 = .ok (.dup, 1) := by decide +kernel
theorem d_law_4 : decode code 4 = .ok (.invokespecial 9, 3) := by decide +kernel
theorem d_law_7 : decode code 7 = .ok (.astore_n 1, 1) := by decide +kernel
theorem d_law_8 : decode code 8 = .ok (.new 10, 3) := by decide +kernel
theorem d_law_11 : decode code 11 = .ok (.dup, 1) := by decide +kernel
theorem d_law_12 : decode code 12 = .ok (.invokespecial 12, 3) := by decide +kernel
theorem d_law_15 : decode code 15 = .ok (.astore_n 2, 1) := by decide +kernel
theorem d_law_16 : decode code 16 = .ok (.iconst 0, 1) := by decide +kernel
theorem d_law_17 : decode code 17 = .ok (.istore_n 3, 1) := by decide +kernel
theorem d_law_18 : decode code 18 = .ok (.iload_n 3, 1) := by decide +kernel
theorem d_law_19 : decode code 19 = .ok (.aload_n 0, 1) := by decide +kernel
theorem d_law_20 : decode code 20 = .ok (.arraylength, 1) := by decide +kernel
theorem d_law_21 : decode code 21 = .ok (.bipush 6, 2) := by decide +kernel
theorem d_law_23 : decode code 23 = .ok (.isub, 1) := by decide +kernel
theorem d_law_24 : decode code 24 = .ok (.if_icmp .gt 595, 3) := by decide +kernel
theorem d_law_27 : decode code 27 = .ok (.aload_n 0, 1) := by decide +kernel
theorem d_law_28 : decode code 28 = .ok (.iload_n 3, 1) := by decide +kernel
theorem d_law_29 : decode code 29 = .ok (.iaload, 1) := by decide +kernel
theorem d_law_30 : decode code 30 = .ok (.bipush 31, 2) := by decide +kernel
theorem d_law_32 : decode code 32 = .ok (.iand, 1) := by decide +kernel
theorem d_law_33 : decode code 33 = .ok (.tableswitch 580 0 16 #[83, 146, 169, 182, 205, 228, 251, 284, 317, 356, 379, 412, 435, 458, 491, 514, 557], 83) := by decide +kernel
theorem d_law_116 : decode code 116 = .ok (.aload_n 1, 1) := by decide +kernel
theorem d_law_117 : decode code 117 = .ok (.aload_n 0, 1) := by decide +kernel
theorem d_law_118 : decode code 118 = .ok (.iload_n 3, 1) := by decide +kernel
theorem d_law_119 : decode code 119 = .ok (.iconst 1, 1) := by decide +kernel
theorem d_law_120 : decode code 120 = .ok (.iadd, 1) := by decide +kernel
theorem d_law_121 : decode code 121 = .ok (.iaload, 1) := by decide +kernel
theorem d_law_122 : decode code 122 = .ok (.aload_n 0, 1) := by decide +kernel
theorem d_law_123 : decode code 123 = .ok (.iload_n 3, 1) := by decide +kernel
theorem d_law_124 : decode code 124 = .ok (.iconst 2, 1) := by decide +kernel
theorem d_law_125 : decode code 125 = .ok (.iadd, 1) := by decide +kernel
theorem d_law_126 : decode code 126 = .ok (.iaload, 1) := by decide +kernel
theorem d_law_127 : decode code 127 = .ok (.aload_n 0, 1) := by decide +kernel
theorem d_law_128 : decode code 128 = .ok (.iload_n 3, 1) := by decide +kernel
theorem d_law_129 : decode code 129 = .ok (.iconst 3, 1) := by decide +kernel
theorem d_law_130 : decode code 130 = .ok (.iadd, 1) := by decide +kernel
theorem d_law_131 : decode code 131 = .ok (.iaload, 1) := by decide +kernel
theorem d_law_132 : decode code 132 = .ok (.aload_n 0, 1) := by decide +kernel
theorem d_law_133 : decode code 133 = .ok (.iload_n 3, 1) := by decide +kernel
theorem d_law_134 : decode code 134 = .ok (.iconst 4, 1) := by decide +kernel
theorem d_law_135 : decode code 135 = .ok (.iadd, 1) := by decide +kernel
theorem d_law_136 : decode code 136 = .ok (.iaload, 1) := by decide +kernel
theorem d_law_137 : decode code 137 = .ok (.aload_n 0, 1) := by decide +kernel
theorem d_law_138 : decode code 138 = .ok (.iload_n 3, 1) := by decide +kernel
theorem d_law_139 : decode code 139 = .ok (.iconst 5, 1) := by decide +kernel
theorem d_law_140 : decode code 140 = .ok (.iadd, 1) := by decide +kernel
theorem d_law_141 : decode code 141 = .ok (.iaload, 1) := by decide +kernel
theorem d_law_142 : decode code 142 = .ok (.invokevirtual 13, 3) := by decide +kernel
theorem d_law_145 : decode code 145 = .ok (.aload_n 2, 1) := by decide +kernel
theorem d_law_146 : decode code 146 = .ok (.aload_n 0, 1) := by decide +kernel
theorem d_law_147 : decode code 147 = .ok (.iload_n 3, 1) := by decide +kernel
theorem d_law_148 : decode code 148 = .ok (.iconst 1, 1) := by decide +kernel
theorem d_law_149 : decode code 149 = .ok (.iadd, 1) := by decide +kernel
theorem d_law_150 : decode code 150 = .ok (.iaload, 1) := by decide +kernel
theorem d_law_151 : decode code 151 = .ok (.aload_n 0, 1) := by decide +kernel
theorem d_law_152 : decode code 152 = .ok (.iload_n 3, 1) := by decide +kernel
theorem d_law_153 : decode code 153 = .ok (.iconst 2, 1) := by decide +kernel
theorem d_law_154 : decode code 154 = .ok (.iadd, 1) := by decide +kernel
theorem d_law_155 : decode code 155 = .ok (.iaload, 1) := by decide +kernel
theorem d_law_156 : decode code 156 = .ok (.aload_n 0, 1) := by decide +kernel
theorem d_law_157 : decode code 157 = .ok (.iload_n 3, 1) := by decide +kernel
theorem d_law_158 : decode code 158 = .ok (.iconst 3, 1) := by decide +kernel
theorem d_law_159 : decode code 159 = .ok (.iadd, 1) := by decide +kernel
theorem d_law_160 : decode code 160 = .ok (.iaload, 1) := by decide +kernel
theorem d_law_161 : decode code 161 = .ok (.aload_n 0, 1) := by decide +kernel
theorem d_law_162 : decode code 162 = .ok (.iload_n 3, 1) := by decide +kernel
theorem d_law_163 : decode code 163 = .ok (.iconst 4, 1) := by decide +kernel
theorem d_law_164 : decode code 164 = .ok (.iadd, 1) := by decide +kernel
theorem d_law_165 : decode code 165 = .ok (.iaload, 1) := by decide +kernel
theorem d_law_166 : decode code 166 = .ok (.aload_n 0, 1) := by decide +kernel
theorem d_law_167 : decode code 167 = .ok (.iload_n 3, 1) := by decide +kernel
theorem d_law_168 : decode code 168 = .ok (.iconst 5, 1) := by decide +kernel
theorem d_law_169 : decode code 169 = .ok (.iadd, 1) := by decide +kernel
theorem d_law_170 : decode code 170 = .ok (.iaload, 1) := by decide +kernel
theorem d_law_171 : decode code 171 = .ok (.invokevirtual 17, 3) := by decide +kernel
theorem d_law_174 : decode code 174 = .ok (.if_icmp .eq 439, 3) := by decide +kernel
theorem d_law_177 : decode code 177 = .ok (.iconst 0, 1) := by decide +kernel
theorem d_law_178 : decode code 178 = .ok (.ireturn, 1) := by decide +kernel
theorem d_law_179 : decode code 179 = .ok (.aload_n 1, 1) := by decide +kernel
theorem d_law_180 : decode code 180 = .ok (.aload_n 0, 1) := by decide +kernel
theorem d_law_181 : decode code 181 = .ok (.iload_n 3, 1) := by decide +kernel
theorem d_law_182 : decode code 182 = .ok (.iconst 1, 1) := by decide +kernel
theorem d_law_183 : decode code 183 = .ok (.iadd, 1) := by decide +kernel
theorem d_law_184 : decode code 184 = .ok (.iaload, 1) := by decide +kernel
theorem d_law_185 : decode code 185 = .ok (.invokevirtual 18, 3) := by decide +kernel
theorem d_law_188 : decode code 188 = .ok (.aload_n 2, 1) := by decide +kernel
theorem d_law_189 : decode code 189 = .ok (.aload_n 0, 1) := by decide +kernel
theorem d_law_190 : decode code 190 = .ok (.iload_n 3, 1) := by decide +kernel
theorem d_law_191 : decode code 191 = .ok (.iconst 1, 1) := by decide +kernel
theorem d_law_192 : decode code 192 = .ok (.iadd, 1) := by decide +kernel
theorem d_law_193 : decode code 193 = .ok (.iaload, 1) := by decide +kernel
theorem d_law_194 : decode code 194 = .ok (.invokevirtual 22, 3) := by decide +kernel
theorem d_law_197 : decode code 197 = .ok (.if_icmp .eq 416, 3) := by decide +kernel
theorem d_law_200 : decode code 200 = .ok (.iconst 0, 1) := by decide +kernel
theorem d_law_201 : decode code 201 = .ok (.ireturn, 1) := by decide +kernel
theorem d_law_202 : decode code 202 = .ok (.aload_n 1, 1) := by decide +kernel
theorem d_law_203 : decode code 203 = .ok (.invokevirtual 23, 3) := by decide +kernel
theorem d_law_206 : decode code 206 = .ok (.aload_n 2, 1) := by decide +kernel
theorem d_law_207 : decode code 207 = .ok (.invokevirtual 27, 3) := by decide +kernel
theorem d_law_210 : decode code 210 = .ok (.if_icmp .eq 403, 3) := by decide +kernel
theorem d_law_213 : decode code 213 = .ok (.iconst 0, 1) := by decide +kernel
theorem d_law_214 : decode code 214 = .ok (.ireturn, 1) := by decide +kernel
theorem d_law_215 : decode code 215 = .ok (.aload_n 1, 1) := by decide +kernel
theorem d_law_216 : decode code 216 = .ok (.aload_n 0, 1) := by decide +kernel
theorem d_law_217 : decode code 217 = .ok (.iload_n 3, 1) := by decide +kernel
theorem d_law_218 : decode code 218 = .ok (.iconst 1, 1) := by decide +kernel
theorem d_law_219 : decode code 219 = .ok (.iadd, 1) := by decide +kernel
theorem d_law_220 : decode code 220 = .ok (.iaload, 1) := by decide +kernel
theorem d_law_221 : decode code 221 = .ok (.invokevirtual 28, 3) := by decide +kernel
theorem d_law_224 : decode code 224 = .ok (.aload_n 2, 1) := by decide +kernel
theorem d_law_225 : decode code 225 = .ok (.aload_n 0, 1) := by decide +kernel
theorem d_law_226 : decode code 226 = .ok (.iload_n 3, 1) := by decide +kernel
theorem d_law_227 : decode code 227 = .ok (.iconst 1, 1) := by decide +kernel
theorem d_law_228 : decode code 228 = .ok (.iadd, 1) := by decide +kernel
theorem d_law_229 : decode code 229 = .ok (.iaload, 1) := by decide +kernel
theorem d_law_230 : decode code 230 = .ok (.invokevirtual 32, 3) := by decide +kernel
theorem d_law_233 : decode code 233 = .ok (.if_icmp .eq 380, 3) := by decide +kernel
theorem d_law_236 : decode code 236 = .ok (.iconst 0, 1) := by decide +kernel
theorem d_law_237 : decode code 237 = .ok (.ireturn, 1) := by decide +kernel
theorem d_law_238 : decode code 238 = .ok (.aload_n 1, 1) := by decide +kernel
theorem d_law_239 : decode code 239 = .ok (.aload_n 0, 1) := by decide +kernel
theorem d_law_240 : decode code 240 = .ok (.iload_n 3, 1) := by decide +kernel
theorem d_law_241 : decode code 241 = .ok (.iconst 1, 1) := by decide +kernel
theorem d_law_242 : decode code 242 = .ok (.iadd, 1) := by decide +kernel
theorem d_law_243 : decode code 243 = .ok (.iaload, 1) := by decide +kernel
theorem d_law_244 : decode code 244 = .ok (.invokevirtual 33, 3) := by decide +kernel
theorem d_law_247 : decode code 247 = .ok (.aload_n 2, 1) := by decide +kernel
theorem d_law_248 : decode code 248 = .ok (.aload_n 0, 1) := by decide +kernel
theorem d_law_249 : decode code 249 = .ok (.iload_n 3, 1) := by decide +kernel
theorem d_law_250 : decode code 250 = .ok (.iconst 1, 1) := by decide +kernel
theorem d_law_251 : decode code 251 = .ok (.iadd, 1) := by decide +kernel
theorem d_law_252 : decode code 252 = .ok (.iaload, 1) := by decide +kernel
theorem d_law_253 : decode code 253 = .ok (.invokevirtual 36, 3) := by decide +kernel
theorem d_law_256 : decode code 256 = .ok (.if_icmp .eq 357, 3) := by decide +kernel
theorem d_law_259 : decode code 259 = .ok (.iconst 0, 1) := by decide +kernel
theorem d_law_260 : decode code 260 = .ok (.ireturn, 1) := by decide +kernel
theorem d_law_261 : decode code 261 = .ok (.aload_n 1, 1) := by decide +kernel
theorem d_law_262 : decode code 262 = .ok (.aload_n 0, 1) := by decide +kernel
theorem d_law_263 : decode code 263 = .ok (.iload_n 3, 1) := by decide +kernel
theorem d_law_264 : decode code 264 = .ok (.iconst 1, 1) := by decide +kernel
theorem d_law_265 : decode code 265 = .ok (.iadd, 1) := by decide +kernel
theorem d_law_266 : decode code 266 = .ok (.iaload, 1) := by decide +kernel
theorem d_law_267 : decode code 267 = .ok (.invokevirtual 37, 3) := by decide +kernel
theorem d_law_270 : decode code 270 = .ok (.aload_n 2, 1) := by decide +kernel
theorem d_law_271 : decode code 271 = .ok (.aload_n 0, 1) := by decide +kernel
theorem d_law_272 : decode code 272 = .ok (.iload_n 3, 1) := by decide +kernel
theorem d_law_273 : decode code 273 = .ok (.iconst 1, 1) := by decide +kernel
theorem d_law_274 : decode code 274 = .ok (.iadd, 1) := by decide +kernel
theorem d_law_275 : decode code 275 = .ok (.iaload, 1) := by decide +kernel
theorem d_law_276 : decode code 276 = .ok (.invokevirtual 40, 3) := by decide +kernel
theorem d_law_279 : decode code 279 = .ok (.if_icmp .eq 334, 3) := by decide +kernel
theorem d_law_282 : decode code 282 = .ok (.iconst 0, 1) := by decide +kernel
theorem d_law_283 : decode code 283 = .ok (.ireturn, 1) := by decide +kernel
theorem d_law_284 : decode code 284 = .ok (.aload_n 1, 1) := by decide +kernel
theorem d_law_285 : decode code 285 = .ok (.aload_n 0, 1) := by decide +kernel
theorem d_law_286 : decode code 286 = .ok (.iload_n 3, 1) := by decide +kernel
theorem d_law_287 : decode code 287 = .ok (.iconst 1, 1) := by decide +kernel
theorem d_law_288 : decode code 288 = .ok (.iadd, 1) := by decide +kernel
theorem d_law_289 : decode code 289 = .ok (.iaload, 1) := by decide +kernel
theorem d_law_290 : decode code 290 = .ok (.aload_n 0, 1) := by decide +kernel
theorem d_law_291 : decode code 291 = .ok (.iload_n 3, 1) := by decide +kernel
theorem d_law_292 : decode code 292 = .ok (.iconst 2, 1) := by decide +kernel
theorem d_law_293 : decode code 293 = .ok (.iadd, 1) := by decide +kernel
theorem d_law_294 : decode code 294 = .ok (.iaload, 1) := by decide +kernel
theorem d_law_295 : decode code 295 = .ok (.invokevirtual 41, 3) := by decide +kernel
theorem d_law_298 : decode code 298 = .ok (.aload_n 2, 1) := by decide +kernel
theorem d_law_299 : decode code 299 = .ok (.aload_n 0, 1) := by decide +kernel
theorem d_law_300 : decode code 300 = .ok (.iload_n 3, 1) := by decide +kernel
theorem d_law_301 : decode code 301 = .ok (.iconst 1, 1) := by decide +kernel
theorem d_law_302 : decode code 302 = .ok (.iadd, 1) := by decide +kernel
theorem d_law_303 : decode code 303 = .ok (.iaload, 1) := by decide +kernel
theorem d_law_304 : decode code 304 = .ok (.aload_n 0, 1) := by decide +kernel
theorem d_law_305 : decode code 305 = .ok (.iload_n 3, 1) := by decide +kernel
theorem d_law_306 : decode code 306 = .ok (.iconst 2, 1) := by decide +kernel
theorem d_law_307 : decode code 307 = .ok (.iadd, 1) := by decide +kernel
theorem d_law_308 : decode code 308 = .ok (.iaload, 1) := by decide +kernel
theorem d_law_309 : decode code 309 = .ok (.invokevirtual 45, 3) := by decide +kernel
theorem d_law_312 : decode code 312 = .ok (.if_icmp .eq 301, 3) := by decide +kernel
theorem d_law_315 : decode code 315 = .ok (.iconst 0, 1) := by decide +kernel
theorem d_law_316 : decode code 316 = .ok (.ireturn, 1) := by decide +kernel
theorem d_law_317 : decode code 317 = .ok (.aload_n 1, 1) := by decide +kernel
theorem d_law_318 : decode code 318 = .ok (.aload_n 0, 1) := by decide +kernel
theorem d_law_319 : decode code 319 = .ok (.iload_n 3, 1) := by decide +kernel
theorem d_law_320 : decode code 320 = .ok (.iconst 1, 1) := by decide +kernel
theorem d_law_321 : decode code 321 = .ok (.iadd, 1) := by decide +kernel
theorem d_law_322 : decode code 322 = .ok (.iaload, 1) := by decide +kernel
theorem d_law_323 : decode code 323 = .ok (.aload_n 0, 1) := by decide +kernel
theorem d_law_324 : decode code 324 = .ok (.iload_n 3, 1) := by decide +kernel
theorem d_law_325 : decode code 325 = .ok (.iconst 2, 1) := by decide +kernel
theorem d_law_326 : decode code 326 = .ok (.iadd, 1) := by decide +kernel
theorem d_law_327 : decode code 327 = .ok (.iaload, 1) := by decide +kernel
theorem d_law_328 : decode code 328 = .ok (.invokevirtual 46, 3) := by decide +kernel
theorem d_law_331 : decode code 331 = .ok (.aload_n 2, 1) := by decide +kernel
theorem d_law_332 : decode code 332 = .ok (.aload_n 0, 1) := by decide +kernel
theorem d_law_333 : decode code 333 = .ok (.iload_n 3, 1) := by decide +kernel
theorem d_law_334 : decode code 334 = .ok (.iconst 1, 1) := by decide +kernel
theorem d_law_335 : decode code 335 = .ok (.iadd, 1) := by decide +kernel
theorem d_law_336 : decode code 336 = .ok (.iaload, 1) := by decide +kernel
theorem d_law_337 : decode code 337 = .ok (.aload_n 0, 1) := by decide +kernel
theorem d_law_338 : decode code 338 = .ok (.iload_n 3, 1) := by decide +kernel
theorem d_law_339 : decode code 339 = .ok (.iconst 2, 1) := by decide +kernel
theorem d_law_340 : decode code 340 = .ok (.iadd, 1) := by decide +kernel
theorem d_law_341 : decode code 341 = .ok (.iaload, 1) := by decide +kernel
theorem d_law_342 : decode code 342 = .ok (.invokevirtual 49, 3) := by decide +kernel
theorem d_law_345 : decode code 345 = .ok (.if_icmp .eq 268, 3) := by decide +kernel
theorem d_law_348 : decode code 348 = .ok (.iconst 0, 1) := by decide +kernel
theorem d_law_349 : decode code 349 = .ok (.ireturn, 1) := by decide +kernel
theorem d_law_350 : decode code 350 = .ok (.aload_n 1, 1) := by decide +kernel
theorem d_law_351 : decode code 351 = .ok (.aload_n 0, 1) := by decide +kernel
theorem d_law_352 : decode code 352 = .ok (.iload_n 3, 1) := by decide +kernel
theorem d_law_353 : decode code 353 = .ok (.iconst 1, 1) := by decide +kernel
theorem d_law_354 : decode code 354 = .ok (.iadd, 1) := by decide +kernel
theorem d_law_355 : decode code 355 = .ok (.iaload, 1) := by decide +kernel
theorem d_law_356 : decode code 356 = .ok (.ifCond .eq 7, 3) := by decide +kernel
theorem d_law_359 : decode code 359 = .ok (.iconst 1, 1) := by decide +kernel
theorem d_law_360 : decode code 360 = .ok (.goto 4, 3) := by decide +kernel
theorem d_law_363 : decode code 363 = .ok (.iconst 0, 1) := by decide +kernel
theorem d_law_364 : decode code 364 = .ok (.invokevirtual 50, 3) := by decide +kernel
theorem d_law_367 : decode code 367 = .ok (.aload_n 2, 1) := by decide +kernel
theorem d_law_368 : decode code 368 = .ok (.aload_n 0, 1) := by decide +kernel
theorem d_law_369 : decode code 369 = .ok (.iload_n 3, 1) := by decide +kernel
theorem d_law_370 : decode code 370 = .ok (.iconst 1, 1) := by decide +kernel
theorem d_law_371 : decode code 371 = .ok (.iadd, 1) := by decide +kernel
theorem d_law_372 : decode code 372 = .ok (.iaload, 1) := by decide +kernel
theorem d_law_373 : decode code 373 = .ok (.ifCond .eq 7, 3) := by decide +kernel
theorem d_law_376 : decode code 376 = .ok (.iconst 1, 1) := by decide +kernel
theorem d_law_377 : decode code 377 = .ok (.goto 4, 3) := by decide +kernel
theorem d_law_380 : decode code 380 = .ok (.iconst 0, 1) := by decide +kernel
theorem d_law_381 : decode code 381 = .ok (.invokevirtual 54, 3) := by decide +kernel
theorem d_law_384 : decode code 384 = .ok (.if_icmp .eq 229, 3) := by decide +kernel
theorem d_law_387 : decode code 387 = .ok (.iconst 0, 1) := by decide +kernel
theorem d_law_388 : decode code 388 = .ok (.ireturn, 1) := by decide +kernel
theorem d_law_389 : decode code 389 = .ok (.aload_n 1, 1) := by decide +kernel
theorem d_law_390 : decode code 390 = .ok (.aload_n 0, 1) := by decide +kernel
theorem d_law_391 : decode code 391 = .ok (.iload_n 3, 1) := by decide +kernel
theorem d_law_392 : decode code 392 = .ok (.iconst 1, 1) := by decide +kernel
theorem d_law_393 : decode code 393 = .ok (.iadd, 1) := by decide +kernel
theorem d_law_394 : decode code 394 = .ok (.iaload, 1) := by decide +kernel
theorem d_law_395 : decode code 395 = .ok (.invokevirtual 55, 3) := by decide +kernel
theorem d_law_398 : decode code 398 = .ok (.aload_n 2, 1) := by decide +kernel
theorem d_law_399 : decode code 399 = .ok (.aload_n 0, 1) := by decide +kernel
theorem d_law_400 : decode code 400 = .ok (.iload_n 3, 1) := by decide +kernel
theorem d_law_401 : decode code 401 = .ok (.iconst 1, 1) := by decide +kernel
theorem d_law_402 : decode code 402 = .ok (.iadd, 1) := by decide +kernel
theorem d_law_403 : decode code 403 = .ok (.iaload, 1) := by decide +kernel
theorem d_law_404 : decode code 404 = .ok (.invokevirtual 58, 3) := by decide +kernel
theorem d_law_407 : decode code 407 = .ok (.if_icmp .eq 206, 3) := by decide +kernel
theorem d_law_410 : decode code 410 = .ok (.iconst 0, 1) := by decide +kernel
theorem d_law_411 : decode code 411 = .ok (.ireturn, 1) := by decide +kernel
theorem d_law_412 : decode code 412 = .ok (.aload_n 1, 1) := by decide +kernel
theorem d_law_413 : decode code 413 = .ok (.aload_n 0, 1) := by decide +kernel
theorem d_law_414 : decode code 414 = .ok (.iload_n 3, 1) := by decide +kernel
theorem d_law_415 : decode code 415 = .ok (.iconst 1, 1) := by decide +kernel
theorem d_law_416 : decode code 416 = .ok (.iadd, 1) := by decide +kernel
theorem d_law_417 : decode code 417 = .ok (.iaload, 1) := by decide +kernel
theorem d_law_418 : decode code 418 = .ok (.aload_n 0, 1) := by decide +kernel
theorem d_law_419 : decode code 419 = .ok (.iload_n 3, 1) := by decide +kernel
theorem d_law_420 : decode code 420 = .ok (.iconst 2, 1) := by decide +kernel
theorem d_law_421 : decode code 421 = .ok (.iadd, 1) := by decide +kernel
theorem d_law_422 : decode code 422 = .ok (.iaload, 1) := by decide +kernel
theorem d_law_423 : decode code 423 = .ok (.invokevirtual 59, 3) := by decide +kernel
theorem d_law_426 : decode code 426 = .ok (.aload_n 2, 1) := by decide +kernel
theorem d_law_427 : decode code 427 = .ok (.aload_n 0, 1) := by decide +kernel
theorem d_law_428 : decode code 428 = .ok (.iload_n 3, 1) := by decide +kernel
theorem d_law_429 : decode code 429 = .ok (.iconst 1, 1) := by decide +kernel
theorem d_law_430 : decode code 430 = .ok (.iadd, 1) := by decide +kernel
theorem d_law_431 : decode code 431 = .ok (.iaload, 1) := by decide +kernel
theorem d_law_432 : decode code 432 = .ok (.aload_n 0, 1) := by decide +kernel
theorem d_law_433 : decode code 433 = .ok (.iload_n 3, 1) := by decide +kernel
theorem d_law_434 : decode code 434 = .ok (.iconst 2, 1) := by decide +kernel
theorem d_law_435 : decode code 435 = .ok (.iadd, 1) := by decide +kernel
theorem d_law_436 : decode code 436 = .ok (.iaload, 1) := by decide +kernel
theorem d_law_437 : decode code 437 = .ok (.invokevirtual 62, 3) := by decide +kernel
theorem d_law_440 : decode code 440 = .ok (.if_icmp .eq 173, 3) := by decide +kernel
theorem d_law_443 : decode code 443 = .ok (.iconst 0, 1) := by decide +kernel
theorem d_law_444 : decode code 444 = .ok (.ireturn, 1) := by decide +kernel
theorem d_law_445 : decode code 445 = .ok (.aload_n 1, 1) := by decide +kernel
theorem d_law_446 : decode code 446 = .ok (.aload_n 0, 1) := by decide +kernel
theorem d_law_447 : decode code 447 = .ok (.iload_n 3, 1) := by decide +kernel
theorem d_law_448 : decode code 448 = .ok (.iconst 1, 1) := by decide +kernel
theorem d_law_449 : decode code 449 = .ok (.iadd, 1) := by decide +kernel
theorem d_law_450 : decode code 450 = .ok (.iaload, 1) := by decide +kernel
theorem d_law_451 : decode code 451 = .ok (.invokevirtual 63, 3) := by decide +kernel
theorem d_law_454 : decode code 454 = .ok (.aload_n 2, 1) := by decide +kernel
theorem d_law_455 : decode code 455 = .ok (.aload_n 0, 1) := by decide +kernel
theorem d_law_456 : decode code 456 = .ok (.iload_n 3, 1) := by decide +kernel
theorem d_law_457 : decode code 457 = .ok (.iconst 1, 1) := by decide +kernel
theorem d_law_458 : decode code 458 = .ok (.iadd, 1) := by decide +kernel
theorem d_law_459 : decode code 459 = .ok (.iaload, 1) := by decide +kernel
theorem d_law_460 : decode code 460 = .ok (.invokevirtual 66, 3) := by decide +kernel
theorem d_law_463 : decode code 463 = .ok (.if_icmp .eq 150, 3) := by decide +kernel
theorem d_law_466 : decode code 466 = .ok (.iconst 0, 1) := by decide +kernel
theorem d_law_467 : decode code 467 = .ok (.ireturn, 1) := by decide +kernel
theorem d_law_468 : decode code 468 = .ok (.aload_n 1, 1) := by decide +kernel
theorem d_law_469 : decode code 469 = .ok (.aload_n 0, 1) := by decide +kernel
theorem d_law_470 : decode code 470 = .ok (.iload_n 3, 1) := by decide +kernel
theorem d_law_471 : decode code 471 = .ok (.iconst 1, 1) := by decide +kernel
theorem d_law_472 : decode code 472 = .ok (.iadd, 1) := by decide +kernel
theorem d_law_473 : decode code 473 = .ok (.iaload, 1) := by decide +kernel
theorem d_law_474 : decode code 474 = .ok (.invokevirtual 67, 3) := by decide +kernel
theorem d_law_477 : decode code 477 = .ok (.aload_n 2, 1) := by decide +kernel
theorem d_law_478 : decode code 478 = .ok (.aload_n 0, 1) := by decide +kernel
theorem d_law_479 : decode code 479 = .ok (.iload_n 3, 1) := by decide +kernel
theorem d_law_480 : decode code 480 = .ok (.iconst 1, 1) := by decide +kernel
theorem d_law_481 : decode code 481 = .ok (.iadd, 1) := by decide +kernel
theorem d_law_482 : decode code 482 = .ok (.iaload, 1) := by decide +kernel
theorem d_law_483 : decode code 483 = .ok (.invokevirtual 70, 3) := by decide +kernel
theorem d_law_486 : decode code 486 = .ok (.if_icmp .eq 127, 3) := by decide +kernel
theorem d_law_489 : decode code 489 = .ok (.iconst 0, 1) := by decide +kernel
theorem d_law_490 : decode code 490 = .ok (.ireturn, 1) := by decide +kernel
theorem d_law_491 : decode code 491 = .ok (.aload_n 1, 1) := by decide +kernel
theorem d_law_492 : decode code 492 = .ok (.aload_n 0, 1) := by decide +kernel
theorem d_law_493 : decode code 493 = .ok (.iload_n 3, 1) := by decide +kernel
theorem d_law_494 : decode code 494 = .ok (.iconst 1, 1) := by decide +kernel
theorem d_law_495 : decode code 495 = .ok (.iadd, 1) := by decide +kernel
theorem d_law_496 : decode code 496 = .ok (.iaload, 1) := by decide +kernel
theorem d_law_497 : decode code 497 = .ok (.aload_n 0, 1) := by decide +kernel
theorem d_law_498 : decode code 498 = .ok (.iload_n 3, 1) := by decide +kernel
theorem d_law_499 : decode code 499 = .ok (.iconst 2, 1) := by decide +kernel
theorem d_law_500 : decode code 500 = .ok (.iadd, 1) := by decide +kernel
theorem d_law_501 : decode code 501 = .ok (.iaload, 1) := by decide +kernel
theorem d_law_502 : decode code 502 = .ok (.invokevirtual 71, 3) := by decide +kernel
theorem d_law_505 : decode code 505 = .ok (.aload_n 2, 1) := by decide +kernel
theorem d_law_506 : decode code 506 = .ok (.aload_n 0, 1) := by decide +kernel
theorem d_law_507 : decode code 507 = .ok (.iload_n 3, 1) := by decide +kernel
theorem d_law_508 : decode code 508 = .ok (.iconst 1, 1) := by decide +kernel
theorem d_law_509 : decode code 509 = .ok (.iadd, 1) := by decide +kernel
theorem d_law_510 : decode code 510 = .ok (.iaload, 1) := by decide +kernel
theorem d_law_511 : decode code 511 = .ok (.aload_n 0, 1) := by decide +kernel
theorem d_law_512 : decode code 512 = .ok (.iload_n 3, 1) := by decide +kernel
theorem d_law_513 : decode code 513 = .ok (.iconst 2, 1) := by decide +kernel
theorem d_law_514 : decode code 514 = .ok (.iadd, 1) := by decide +kernel
theorem d_law_515 : decode code 515 = .ok (.iaload, 1) := by decide +kernel
theorem d_law_516 : decode code 516 = .ok (.invokevirtual 74, 3) := by decide +kernel
theorem d_law_519 : decode code 519 = .ok (.if_icmp .eq 94, 3) := by decide +kernel
theorem d_law_522 : decode code 522 = .ok (.iconst 0, 1) := by decide +kernel
theorem d_law_523 : decode code 523 = .ok (.ireturn, 1) := by decide +kernel
theorem d_law_524 : decode code 524 = .ok (.aload_n 1, 1) := by decide +kernel
theorem d_law_525 : decode code 525 = .ok (.aload_n 0, 1) := by decide +kernel
theorem d_law_526 : decode code 526 = .ok (.iload_n 3, 1) := by decide +kernel
theorem d_law_527 : decode code 527 = .ok (.iconst 1, 1) := by decide +kernel
theorem d_law_528 : decode code 528 = .ok (.iadd, 1) := by decide +kernel
theorem d_law_529 : decode code 529 = .ok (.iaload, 1) := by decide +kernel
theorem d_law_530 : decode code 530 = .ok (.invokevirtual 75, 3) := by decide +kernel
theorem d_law_533 : decode code 533 = .ok (.aload_n 2, 1) := by decide +kernel
theorem d_law_534 : decode code 534 = .ok (.aload_n 0, 1) := by decide +kernel
theorem d_law_535 : decode code 535 = .ok (.iload_n 3, 1) := by decide +kernel
theorem d_law_536 : decode code 536 = .ok (.iconst 1, 1) := by decide +kernel
theorem d_law_537 : decode code 537 = .ok (.iadd, 1) := by decide +kernel
theorem d_law_538 : decode code 538 = .ok (.iaload, 1) := by decide +kernel
theorem d_law_539 : decode code 539 = .ok (.invokevirtual 78, 3) := by decide +kernel
theorem d_law_542 : decode code 542 = .ok (.if_icmp .eq 71, 3) := by decide +kernel
theorem d_law_545 : decode code 545 = .ok (.iconst 0, 1) := by decide +kernel
theorem d_law_546 : decode code 546 = .ok (.ireturn, 1) := by decide +kernel
theorem d_law_547 : decode code 547 = .ok (.aload_n 1, 1) := by decide +kernel
theorem d_law_548 : decode code 548 = .ok (.aload_n 0, 1) := by decide +kernel
theorem d_law_549 : decode code 549 = .ok (.iload_n 3, 1) := by decide +kernel
theorem d_law_550 : decode code 550 = .ok (.iconst 1, 1) := by decide +kernel
theorem d_law_551 : decode code 551 = .ok (.iadd, 1) := by decide +kernel
theorem d_law_552 : decode code 552 = .ok (.iaload, 1) := by decide +kernel
theorem d_law_553 : decode code 553 = .ok (.aload_n 0, 1) := by decide +kernel
theorem d_law_554 : decode code 554 = .ok (.iload_n 3, 1) := by decide +kernel
theorem d_law_555 : decode code 555 = .ok (.iconst 2, 1) := by decide +kernel
theorem d_law_556 : decode code 556 = .ok (.iadd, 1) := by decide +kernel
theorem d_law_557 : decode code 557 = .ok (.iaload, 1) := by decide +kernel
theorem d_law_558 : decode code 558 = .ok (.aload_n 0, 1) := by decide +kernel
theorem d_law_559 : decode code 559 = .ok (.iload_n 3, 1) := by decide +kernel
theorem d_law_560 : decode code 560 = .ok (.iconst 3, 1) := by decide +kernel
theorem d_law_561 : decode code 561 = .ok (.iadd, 1) := by decide +kernel
theorem d_law_562 : decode code 562 = .ok (.iaload, 1) := by decide +kernel
theorem d_law_563 : decode code 563 = .ok (.invokevirtual 79, 3) := by decide +kernel
theorem d_law_566 : decode code 566 = .ok (.aload_n 2, 1) := by decide +kernel
theorem d_law_567 : decode code 567 = .ok (.aload_n 0, 1) := by decide +kernel
theorem d_law_568 : decode code 568 = .ok (.iload_n 3, 1) := by decide +kernel
theorem d_law_569 : decode code 569 = .ok (.iconst 1, 1) := by decide +kernel
theorem d_law_570 : decode code 570 = .ok (.iadd, 1) := by decide +kernel
theorem d_law_571 : decode code 571 = .ok (.iaload, 1) := by decide +kernel
theorem d_law_572 : decode code 572 = .ok (.aload_n 0, 1) := by decide +kernel
theorem d_law_573 : decode code 573 = .ok (.iload_n 3, 1) := by decide +kernel
theorem d_law_574 : decode code 574 = .ok (.iconst 2, 1) := by decide +kernel
theorem d_law_575 : decode code 575 = .ok (.iadd, 1) := by decide +kernel
theorem d_law_576 : decode code 576 = .ok (.iaload, 1) := by decide +kernel
theorem d_law_577 : decode code 577 = .ok (.aload_n 0, 1) := by decide +kernel
theorem d_law_578 : decode code 578 = .ok (.iload_n 3, 1) := by decide +kernel
theorem d_law_579 : decode code 579 = .ok (.iconst 3, 1) := by decide +kernel
theorem d_law_580 : decode code 580 = .ok (.iadd, 1) := by decide +kernel
theorem d_law_581 : decode code 581 = .ok (.iaload, 1) := by decide +kernel
theorem d_law_582 : decode code 582 = .ok (.invokevirtual 83, 3) := by decide +kernel
theorem d_law_585 : decode code 585 = .ok (.if_icmp .eq 28, 3) := by decide +kernel
theorem d_law_588 : decode code 588 = .ok (.iconst 0, 1) := by decide +kernel
theorem d_law_589 : decode code 589 = .ok (.ireturn, 1) := by decide +kernel
theorem d_law_590 : decode code 590 = .ok (.aload_n 1, 1) := by decide +kernel
theorem d_law_591 : decode code 591 = .ok (.aload_n 0, 1) := by decide +kernel
theorem d_law_592 : decode code 592 = .ok (.iload_n 3, 1) := by decide +kernel
theorem d_law_593 : decode code 593 = .ok (.iconst 1, 1) := by decide +kernel
theorem d_law_594 : decode code 594 = .ok (.iadd, 1) := by decide +kernel
theorem d_law_595 : decode code 595 = .ok (.iaload, 1) := by decide +kernel
theorem d_law_596 : decode code 596 = .ok (.invokevirtual 84, 3) := by decide +kernel
theorem d_law_599 : decode code 599 = .ok (.aload_n 2, 1) := by decide +kernel
theorem d_law_600 : decode code 600 = .ok (.aload_n 0, 1) := by decide +kernel
theorem d_law_601 : decode code 601 = .ok (.iload_n 3, 1) := by decide +kernel
theorem d_law_602 : decode code 602 = .ok (.iconst 1, 1) := by decide +kernel
theorem d_law_603 : decode code 603 = .ok (.iadd, 1) := by decide +kernel
theorem d_law_604 : decode code 604 = .ok (.iaload, 1) := by decide +kernel
theorem d_law_605 : decode code 605 = .ok (.invokevirtual 87, 3) := by decide +kernel
theorem d_law_608 : decode code 608 = .ok (.if_icmp .eq 5, 3) := by decide +kernel
theorem d_law_611 : decode code 611 = .ok (.iconst 0, 1) := by decide +kernel
theorem d_law_612 : decode code 612 = .ok (.ireturn, 1) := by decide +kernel
theorem d_law_613 : decode code 613 = .ok (.iinc 3 6, 3) := by decide +kernel
theorem d_law_616 : decode code 616 = .ok (.goto (-598), 3) := by decide +kernel
theorem d_law_619 : decode code 619 = .ok (.iconst 1, 1) := by decide +kernel
theorem d_law_620 : decode code 620 = .ok (.ireturn, 1) := by decide +kernel
theorem l_law_c7 : Cond.classLink R_law 7 "GramFinder" ∈ lw_tbl := List.mem_of_getElem? (i := 162) (by decide +kernel)
theorem l_law_9 : Cond.methodLink R_law 9 E_m144.2.1 ∈ lw_tbl := List.mem_of_getElem? (i := 164) (by decide +kernel)
theorem l_law_13 : Cond.methodLink R_law 13 E_m145.2.1 ∈ lw_tbl := List.mem_of_getElem? (i := 539) (by decide +kernel)
theorem l_law_18 : Cond.methodLink R_law 18 E_m146.2.1 ∈ lw_tbl := List.mem_of_getElem? (i := 547) (by decide +kernel)
theorem l_law_23 : Cond.methodLink R_law 23 E_m147.2.1 ∈ lw_tbl := List.mem_of_getElem? (i := 551) (by decide +kernel)
theorem l_law_28 : Cond.methodLink R_law 28 E_m148.2.1 ∈ lw_tbl := List.mem_of_getElem? (i := 633) (by decide +kernel)
theorem l_law_33 : Cond.methodLink R_law 33 E_m149.2.1 ∈ lw_tbl := List.mem_of_getElem? (i := 645) (by decide +kernel)
theorem l_law_37 : Cond.methodLink R_law 37 E_m150.2.1 ∈ lw_tbl := List.mem_of_getElem? (i := 653) (by decide +kernel)
theorem l_law_41 : Cond.methodLink R_law 41 E_m151.2.1 ∈ lw_tbl := List.mem_of_getElem? (i := 658) (by decide +kernel)
theorem l_law_46 : Cond.methodLink R_law 46 E_m152.2.1 ∈ lw_tbl := List.mem_of_getElem? (i := 663) (by decide +kernel)
theorem l_law_50 : Cond.methodLink R_law 50 E_m153.2.1 ∈ lw_tbl := List.mem_of_getElem? (i := 675) (by decide +kernel)
theorem l_law_55 : Cond.methodLink R_law 55 E_m154.2.1 ∈ lw_tbl := List.mem_of_getElem? (i := 1246) (by decide +kernel)
theorem l_law_59 : Cond.methodLink R_law 59 E_m155.2.1 ∈ lw_tbl := List.mem_of_getElem? (i := 1250) (by decide +kernel)
theorem l_law_63 : Cond.methodLink R_law 63 E_m156.2.1 ∈ lw_tbl := List.mem_of_getElem? (i := 1259) (by decide +kernel)
theorem l_law_67 : Cond.methodLink R_law 67 E_m157.2.1 ∈ lw_tbl := List.mem_of_getElem? (i := 1267) (by decide +kernel)
theorem l_law_71 : Cond.methodLink R_law 71 E_m158.2.1 ∈ lw_tbl := List.mem_of_getElem? (i := 1272) (by decide +kernel)
theorem l_law_75 : Cond.methodLink R_law 75 E_m159.2.1 ∈ lw_tbl := List.mem_of_getElem? (i := 1277) (by decide +kernel)
theorem l_law_79 : Cond.methodLink R_law 79 E_m160.2.1 ∈ lw_tbl := List.mem_of_getElem? (i := 1281) (by decide +kernel)
theorem l_law_84 : Cond.methodLink R_law 84 E_m161.2.1 ∈ lw_tbl := List.mem_of_getElem? (i := 1287) (by decide +kernel)
theorem l_law_c10 : Cond.classLink R_law 10 "GramFinderModel" ∈ lw_tbl := List.mem_of_getElem? (i := 1301) (by decide +kernel)
theorem l_law_12 : Cond.methodLink R_law 12 E_m174.2.1 ∈ lw_tbl := List.mem_of_getElem? (i := 1303) (by decide +kernel)
theorem l_law_17 : Cond.methodLink R_law 17 E_m175.2.1 ∈ lw_tbl := List.mem_of_getElem? (i := 1532) (by decide +kernel)
theorem l_law_22 : Cond.methodLink R_law 22 E_m176.2.1 ∈ lw_tbl := List.mem_of_getElem? (i := 1536) (by decide +kernel)
theorem l_law_27 : Cond.methodLink R_law 27 E_m180.2.1 ∈ lw_tbl := List.mem_of_getElem? (i := 1540) (by decide +kernel)
theorem l_law_32 : Cond.methodLink R_law 32 E_m181.2.1 ∈ lw_tbl := List.mem_of_getElem? (i := 1548) (by decide +kernel)
theorem l_law_36 : Cond.methodLink R_law 36 E_m182.2.1 ∈ lw_tbl := List.mem_of_getElem? (i := 1560) (by decide +kernel)
theorem l_law_40 : Cond.methodLink R_law 40 E_m183.2.1 ∈ lw_tbl := List.mem_of_getElem? (i := 1564) (by decide +kernel)
theorem l_law_45 : Cond.methodLink R_law 45 E_m184.2.1 ∈ lw_tbl := List.mem_of_getElem? (i := 1568) (by decide +kernel)
theorem l_law_49 : Cond.methodLink R_law 49 E_m186.2.1 ∈ lw_tbl := List.mem_of_getElem? (i := 1572) (by decide +kernel)
theorem l_law_54 : Cond.methodLink R_law 54 E_m276.2.1 ∈ lw_tbl := List.mem_of_getElem? (i := 1581) (by decide +kernel)
theorem l_law_58 : Cond.methodLink R_law 58 E_m277.2.1 ∈ lw_tbl := List.mem_of_getElem? (i := 1934) (by decide +kernel)
theorem l_law_62 : Cond.methodLink R_law 62 E_m278.2.1 ∈ lw_tbl := List.mem_of_getElem? (i := 1938) (by decide +kernel)
theorem l_law_66 : Cond.methodLink R_law 66 E_m279.2.1 ∈ lw_tbl := List.mem_of_getElem? (i := 1942) (by decide +kernel)
theorem l_law_70 : Cond.methodLink R_law 70 E_m280.2.1 ∈ lw_tbl := List.mem_of_getElem? (i := 1946) (by decide +kernel)
theorem l_law_74 : Cond.methodLink R_law 74 E_m281.2.1 ∈ lw_tbl := List.mem_of_getElem? (i := 1950) (by decide +kernel)
theorem l_law_78 : Cond.methodLink R_law 78 E_m282.2.1 ∈ lw_tbl := List.mem_of_getElem? (i := 1954) (by decide +kernel)
theorem l_law_83 : Cond.methodLink R_law 83 E_m283.2.1 ∈ lw_tbl := List.mem_of_getElem? (i := 1958) (by decide +kernel)
theorem l_law_87 : Cond.methodLink R_law 87 E_m284.2.1 ∈ lw_tbl := List.mem_of_getElem? (i := 1962) (by decide +kernel)
end
section
section LC
variable {p : Program} {l : Launch} {e : Env} {R : Room} {s : State} {m : MethodId} {args : Array Value} {below : List Frame} {meth : Method} {c : Code} {H : Heap} {locs : List Loc} {sl : Nat} {Q : State → Prop} {sz : Nat} {D : va_G} {TY : List (ClassId × FieldType)}
theorem L_case_0 {b L i fuel d s1 s2 : Nat} {xs : Nat → Int32} {ls : Array Slot} {v : Int32} {h h1 h2 : E_H} {fs gs : List Value} (X : L_X p s m args c D TY b L xs sz) (hl : lv_has ls 4 [(0, .ref b), (1, .ref (sz + 0)), (2, .ref (sz + 83)), (3, .int (nI i))]) (hS : E_S D TY sz 0 s h H locs) (hi6 : i + 6 ≤ L)
    (q1 : E_call fuel d 145 (.ref 0 :: ([xs (i + 1), xs (i + 2), xs (i + 3), xs (i + 4), xs (i + 5)] : List Int32).map Value.int) h = some (some (.int v), h1, s1)) (q2 : E_call fuel d 175 (.ref 83 :: ([xs (i + 1), xs (i + 2), xs (i + 3), xs (i + 4), xs (i + 5)] : List Int32).map Value.int) h1 = some (some (.int v), h2, s2)) (o1 : h[0]? = some (.inr (11, fs))) (o2 : h1[83]? = some (.inr (12, gs)))
    (hRf : d + 1 ≤ R.frames) (hRl : 48 * (d + 1) ≤ R.locals) (hR1 : h1.length ≤ R.cells) (hR2 : h2.length ≤ R.cells) (hR3 : sl + s1 + s2 ≤ R.slots)
    (kk : ∀ (H1 : Heap) (locs1 : List Loc), E_S D TY sz 0 s h2 H1 locs1 → W p l e R s m args below meth c H1 locs1 h2.length (sl + s1 + s2) Q (F0 m 613 ls [])) : W p l e R s m args below meth c H locs h.length sl Q (F0 m 116 ls []) := by
  have hx := X.1
  have hb := X.2.1
  refine lv_aload_n hx hb d_law_116 rfl (lv_at hl 1 rfl) ?_
  refine L_arg (k := 1) X hl hS.2.1 (by omega) rfl d_law_117 d_law_118 d_law_119 d_law_120 d_law_121 ?_
  refine L_arg (k := 2) X hl hS.2.1 (by omega) rfl d_law_122 d_law_123 d_law_124 d_law_125 d_law_126 ?_
  refine L_arg (k := 3) X hl hS.2.1 (by omega) rfl d_law_127 d_law_128 d_law_129 d_law_130 d_law_131 ?_
  refine L_arg (k := 4) X hl hS.2.1 (by omega) rfl d_law_132 d_law_133 d_law_134 d_law_135 d_law_136 ?_
  refine L_arg (k := 5) X hl hS.2.1 (by omega) rfl d_law_137 d_law_138 d_law_139 d_law_140 d_law_141 ?_
  show W p l e R s m args below meth c H locs h.length sl Q (F0 m 142 ls ((([xs (i + 1), xs (i + 2), xs (i + 3), xs (i + 4), xs (i + 5)] : List Int32).map Value.int).reverse ++ .ref (sz + 0) :: []))
  refine L_call (M := E_m145) X hl.1 hS rfl q1 o1 (by decide) rfl (by decide +kernel) rfl l_law_13 d_law_142 hRf hRl (Nat.zero_le _) ⟨hR1, by omega⟩ (fun H1 locs1 hS1 => ?_)
  refine lv_aload_n hx hb d_law_145 rfl (lv_at hl 2 rfl) ?_
  refine L_arg (k := 1) X hl hS1.2.1 (by omega) rfl d_law_146 d_law_147 d_law_148 d_law_149 d_law_150 ?_
  refine L_arg (k := 2) X hl hS1.2.1 (by omega) rfl d_law_151 d_law_152 d_law_153 d_law_154 d_law_155 ?_
  refine L_arg (k := 3) X hl hS1.2.1 (by omega) rfl d_law_156 d_law_157 d_law_158 d_law_159 d_law_160 ?_
  refine L_arg (k := 4) X hl hS1.2.1 (by omega) rfl d_law_161 d_law_162 d_law_163 d_law_164 d_law_165 ?_
  refine L_arg (k := 5) X hl hS1.2.1 (by omega) rfl d_law_166 d_law_167 d_law_168 d_law_169 d_law_170 ?_
  show W p l e R s m args below meth c H1 locs1 h1.length (sl + s1) Q (F0 m 171 ls ((([xs (i + 1), xs (i + 2), xs (i + 3), xs (i + 4), xs (i + 5)] : List Int32).map Value.int).reverse ++ .ref (sz + 83) :: [.int v]))
  refine L_call (M := E_m175) X hl.1 hS1 rfl q2 o2 (by decide) rfl (by decide +kernel) rfl l_law_17 d_law_171 hRf hRl (Nat.le_of_ble_eq_true rfl) ⟨hR2, hR3⟩ (fun H2 locs2 hS2 => ?_)
  refine lv_icmp_eq (tgt := 613) hx hb d_law_174 (by decide) (fun _ => ?_) (fun cn => absurd rfl cn)
  exact kk H2 locs2 hS2
theorem L_case_1 {b L i fuel d s1 s2 : Nat} {xs : Nat → Int32} {ls : Array Slot} {v : Int32} {h h1 h2 : E_H} {fs gs : List Value} (X : L_X p s m args c D TY b L xs sz) (hl : lv_has ls 4 [(0, .ref b), (1, .ref (sz + 0)), (2, .ref (sz + 83)), (3, .int (nI i))]) (hS : E_S D TY sz 0 s h H locs) (hi6 : i + 6 ≤ L)
    (q1 : E_call fuel d 146 (.ref 0 :: ([xs (i + 1)] : List Int32).map Value.int) h = some (some (.int v), h1, s1)) (q2 : E_call fuel d 176 (.ref 83 :: ([xs (i + 1)] : List Int32).map Value.int) h1 = some (some (.int v), h2, s2)) (o1 : h[0]? = some (.inr (11, fs))) (o2 : h1[83]? = some (.inr (12, gs)))
    (hRf : d + 1 ≤ R.frames) (hRl : 48 * (d + 1) ≤ R.locals) (hR1 : h1.length ≤ R.cells) (hR2 : h2.length ≤ R.cells) (hR3 : sl + s1 + s2 ≤ R.slots)
    (kk : ∀ (H1 : Heap) (locs1 : List Loc), E_S D TY sz 0 s h2 H1 locs1 → W p l e R s m args below meth c H1 locs1 h2.length (sl + s1 + s2) Q (F0 m 613 ls [])) : W p l e R s m args below meth c H locs h.length sl Q (F0 m 179 ls []) := by
  have hx := X.1
  have hb := X.2.1
  refine lv_aload_n hx hb d_law_179 rfl (lv_at hl 1 rfl) ?_
  refine L_arg (k := 1) X hl hS.2.1 (by omega) rfl d_law_180 d_law_181 d_law_182 d_law_183 d_law_184 ?_
  show W p l e R s m args below meth c H locs h.length sl Q (F0 m 185 ls ((([xs (i + 1)] : List Int32).map Value.int).reverse ++ .ref (sz + 0) :: []))
  refine L_call (M := E_m146) X hl.1 hS rfl q1 o1 (by decide) rfl (by decide +kernel) rfl l_law_18 d_law_185 hRf hRl (Nat.zero_le _) ⟨hR1, by omega⟩ (fun H1 locs1 hS1 => ?_)
  refine lv_aload_n hx hb d_law_188 rfl (lv_at hl 2 rfl) ?_
  refine L_arg (k := 1) X hl hS1.2.1 (by omega) rfl d_law_189 d_law_190 d_law_191 d_law_192 d_law_193 ?_
  show W p l e R s m args below meth c H1 locs1 h1.length (sl + s1) Q (F0 m 194 ls ((([xs (i + 1)] : List Int32).map Value.int).reverse ++ .ref (sz + 83) :: [.int v]))
  refine L_call (M := E_m176) X hl.1 hS1 rfl q2 o2 (by decide) rfl (by decide +kernel) rfl l_law_22 d_law_194 hRf hRl (Nat.le_of_ble_eq_true rfl) ⟨hR2, hR3⟩ (fun H2 locs2 hS2 => ?_)
  refine lv_icmp_eq (tgt := 613) hx hb d_law_197 (by decide) (fun _ => ?_) (fun cn => absurd rfl cn)
  exact kk H2 locs2 hS2
theorem L_case_2 {b L i fuel d s1 s2 : Nat} {xs : Nat → Int32} {ls : Array Slot} {v : Int32} {h h1 h2 : E_H} {fs gs : List Value} (X : L_X p s m args c D TY b L xs sz) (hl : lv_has ls 4 [(0, .ref b), (1, .ref (sz + 0)), (2, .ref (sz + 83)), (3, .int (nI i))]) (hS : E_S D TY sz 0 s h H locs) (hi6 : i + 6 ≤ L)
    (q1 : E_call fuel d 147 (.ref 0 :: ([] : List Int32).map Value.int) h = some (some (.int v), h1, s1)) (q2 : E_call fuel d 180 (.ref 83 :: ([] : List Int32).map Value.int) h1 = some (some (.int v), h2, s2)) (o1 : h[0]? = some (.inr (11, fs))) (o2 : h1[83]? = some (.inr (12, gs)))
    (hRf : d + 1 ≤ R.frames) (hRl : 48 * (d + 1) ≤ R.locals) (hR1 : h1.length ≤ R.cells) (hR2 : h2.length ≤ R.cells) (hR3 : sl + s1 + s2 ≤ R.slots)
    (kk : ∀ (H1 : Heap) (locs1 : List Loc), E_S D TY sz 0 s h2 H1 locs1 → W p l e R s m args below meth c H1 locs1 h2.length (sl + s1 + s2) Q (F0 m 613 ls [])) : W p l e R s m args below meth c H locs h.length sl Q (F0 m 202 ls []) := by
  have hx := X.1
  have hb := X.2.1
  refine lv_aload_n hx hb d_law_202 rfl (lv_at hl 1 rfl) ?_
  show W p l e R s m args below meth c H locs h.length sl Q (F0 m 203 ls ((([] : List Int32).map Value.int).reverse ++ .ref (sz + 0) :: []))
  refine L_call (M := E_m147) X hl.1 hS rfl q1 o1 (by decide) rfl (by decide +kernel) rfl l_law_23 d_law_203 hRf hRl (Nat.zero_le _) ⟨hR1, by omega⟩ (fun H1 locs1 hS1 => ?_)
  refine lv_aload_n hx hb d_law_206 rfl (lv_at hl 2 rfl) ?_
  show W p l e R s m args below meth c H1 locs1 h1.length (sl + s1) Q (F0 m 207 ls ((([] : List Int32).map Value.int).reverse ++ .ref (sz + 83) :: [.int v]))
  refine L_call (M := E_m180) X hl.1 hS1 rfl q2 o2 (by decide) rfl (by decide +kernel) rfl l_law_27 d_law_207 hRf hRl (Nat.le_of_ble_eq_true rfl) ⟨hR2, hR3⟩ (fun H2 locs2 hS2 => ?_)
  refine lv_icmp_eq (tgt := 613) hx hb d_law_210 (by decide) (fun _ => ?_) (fun cn => absurd rfl cn)
  exact kk H2 locs2 hS2
theorem L_case_3 {b L i fuel d s1 s2 : Nat} {xs : Nat → Int32} {ls : Array Slot} {v : Int32} {h h1 h2 : E_H} {fs gs : List Value} (X : L_X p s m args c D TY b L xs sz) (hl : lv_has ls 4 [(0, .ref b), (1, .ref (sz + 0)), (2, .ref (sz + 83)), (3, .int (nI i))]) (hS : E_S D TY sz 0 s h H locs) (hi6 : i + 6 ≤ L)
    (q1 : E_call fuel d 148 (.ref 0 :: ([xs (i + 1)] : List Int32).map Value.int) h = some (some (.int v), h1, s1)) (q2 : E_call fuel d 181 (.ref 83 :: ([xs (i + 1)] : List Int32).map Value.int) h1 = some (some (.int v), h2, s2)) (o1 : h[0]? = some (.inr (11, fs))) (o2 : h1[83]? = some (.inr (12, gs)))
    (hRf : d + 1 ≤ R.frames) (hRl : 48 * (d + 1) ≤ R.locals) (hR1 : h1.length ≤ R.cells) (hR2 : h2.length ≤ R.cells) (hR3 : sl + s1 + s2 ≤ R.slots)
    (kk : ∀ (H1 : Heap) (locs1 : List Loc), E_S D TY sz 0 s h2 H1 locs1 → W p l e R s m args below meth c H1 locs1 h2.length (sl + s1 + s2) Q (F0 m 613 ls [])) : W p l e R s m args below meth c H locs h.length sl Q (F0 m 215 ls []) := by
  have hx := X.1
  have hb := X.2.1
  refine lv_aload_n hx hb d_law_215 rfl (lv_at hl 1 rfl) ?_
  refine L_arg (k := 1) X hl hS.2.1 (by omega) rfl d_law_216 d_law_217 d_law_218 d_law_219 d_law_220 ?_
  show W p l e R s m args below meth c H locs h.length sl Q (F0 m 221 ls ((([xs (i + 1)] : List Int32).map Value.int).reverse ++ .ref (sz + 0) :: []))
  refine L_call (M := E_m148) X hl.1 hS rfl q1 o1 (by decide) rfl (by decide +kernel) rfl l_law_28 d_law_221 hRf hRl (Nat.zero_le _) ⟨hR1, by omega⟩ (fun H1 locs1 hS1 => ?_)
  refine lv_aload_n hx hb d_law_224 rfl (lv_at hl 2 rfl) ?_
  refine L_arg (k := 1) X hl hS1.2.1 (by omega) rfl d_law_225 d_law_226 d_law_227 d_law_228 d_law_229 ?_
  show W p l e R s m args below meth c H1 locs1 h1.length (sl + s1) Q (F0 m 230 ls ((([xs (i + 1)] : List Int32).map Value.int).reverse ++ .ref (sz + 83) :: [.int v]))
  refine L_call (M := E_m181) X hl.1 hS1 rfl q2 o2 (by decide) rfl (by decide +kernel) rfl l_law_32 d_law_230 hRf hRl (Nat.le_of_ble_eq_true rfl) ⟨hR2, hR3⟩ (fun H2 locs2 hS2 => ?_)
  refine lv_icmp_eq (tgt := 613) hx hb d_law_233 (by decide) (fun _ => ?_) (fun cn => absurd rfl cn)
  exact kk H2 locs2 hS2
theorem L_case_4 {b L i fuel d s1 s2 : Nat} {xs : Nat → Int32} {ls : Array Slot} {v : Int32} {h h1 h2 : E_H} {fs gs : List Value} (X : L_X p s m args c D TY b L xs sz) (hl : lv_has ls 4 [(0, .ref b), (1, .ref (sz + 0)), (2, .ref (sz + 83)), (3, .int (nI i))]) (hS : E_S D TY sz 0 s h H locs) (hi6 : i + 6 ≤ L)
    (q1 : E_call fuel d 149 (.ref 0 :: ([xs (i + 1)] : List Int32).map Value.int) h = some (some (.int v), h1, s1)) (q2 : E_call fuel d 182 (.ref 83 :: ([xs (i + 1)] : List Int32).map Value.int) h1 = some (some (.int v), h2, s2)) (o1 : h[0]? = some (.inr (11, fs))) (o2 : h1[83]? = some (.inr (12, gs)))
    (hRf : d + 1 ≤ R.frames) (hRl : 48 * (d + 1) ≤ R.locals) (hR1 : h1.length ≤ R.cells) (hR2 : h2.length ≤ R.cells) (hR3 : sl + s1 + s2 ≤ R.slots)
    (kk : ∀ (H1 : Heap) (locs1 : List Loc), E_S D TY sz 0 s h2 H1 locs1 → W p l e R s m args below meth c H1 locs1 h2.length (sl + s1 + s2) Q (F0 m 613 ls [])) : W p l e R s m args below meth c H locs h.length sl Q (F0 m 238 ls []) := by
  have hx := X.1
  have hb := X.2.1
  refine lv_aload_n hx hb d_law_238 rfl (lv_at hl 1 rfl) ?_
  refine L_arg (k := 1) X hl hS.2.1 (by omega) rfl d_law_239 d_law_240 d_law_241 d_law_242 d_law_243 ?_
  show W p l e R s m args below meth c H locs h.length sl Q (F0 m 244 ls ((([xs (i + 1)] : List Int32).map Value.int).reverse ++ .ref (sz + 0) :: []))
  refine L_call (M := E_m149) X hl.1 hS rfl q1 o1 (by decide) rfl (by decide +kernel) rfl l_law_33 d_law_244 hRf hRl (Nat.zero_le _) ⟨hR1, by omega⟩ (fun H1 locs1 hS1 => ?_)
  refine lv_aload_n hx hb d_law_247 rfl (lv_at hl 2 rfl) ?_
  refine L_arg (k := 1) X hl hS1.2.1 (by omega) rfl d_law_248 d_law_249 d_law_250 d_law_251 d_law_252 ?_
  show W p l e R s m args below meth c H1 locs1 h1.length (sl + s1) Q (F0 m 253 ls ((([xs (i + 1)] : List Int32).map Value.int).reverse ++ .ref (sz + 83) :: [.int v]))
  refine L_call (M := E_m182) X hl.1 hS1 rfl q2 o2 (by decide) rfl (by decide +kernel) rfl l_law_36 d_law_253 hRf hRl (Nat.le_of_ble_eq_true rfl) ⟨hR2, hR3⟩ (fun H2 locs2 hS2 => ?_)
  refine lv_icmp_eq (tgt := 613) hx hb d_law_256 (by decide) (fun _ => ?_) (fun cn => absurd rfl cn)
  exact kk H2 locs2 hS2
theorem L_case_5 {b L i fuel d s1 s2 : Nat} {xs : Nat → Int32} {ls : Array Slot} {v : Int32} {h h1 h2 : E_H} {fs gs : List Value} (X : L_X p s m args c D TY b L xs sz) (hl : lv_has ls 4 [(0, .ref b), (1, .ref (sz + 0)), (2, .ref (sz + 83)), (3, .int (nI i))]) (hS : E_S D TY sz 0 s h H locs) (hi6 : i + 6 ≤ L)
    (q1 : E_call fuel d 150 (.ref 0 :: ([xs (i + 1)] : List Int32).map Value.int) h = some (some (.int v), h1, s1)) (q2 : E_call fuel d 183 (.ref 83 :: ([xs (i + 1)] : List Int32).map Value.int) h1 = some (some (.int v), h2, s2)) (o1 : h[0]? = some (.inr (11, fs))) (o2 : h1[83]? = some (.inr (12, gs)))
    (hRf : d + 1 ≤ R.frames) (hRl : 48 * (d + 1) ≤ R.locals) (hR1 : h1.length ≤ R.cells) (hR2 : h2.length ≤ R.cells) (hR3 : sl + s1 + s2 ≤ R.slots)
    (kk : ∀ (H1 : Heap) (locs1 : List Loc), E_S D TY sz 0 s h2 H1 locs1 → W p l e R s m args below meth c H1 locs1 h2.length (sl + s1 + s2) Q (F0 m 613 ls [])) : W p l e R s m args below meth c H locs h.length sl Q (F0 m 261 ls []) := by
  have hx := X.1
  have hb := X.2.1
  refine lv_aload_n hx hb d_law_261 rfl (lv_at hl 1 rfl) ?_
  refine L_arg (k := 1) X hl hS.2.1 (by omega) rfl d_law_262 d_law_263 d_law_264 d_law_265 d_law_266 ?_
  show W p l e R s m args below meth c H locs h.length sl Q (F0 m 267 ls ((([xs (i + 1)] : List Int32).map Value.int).reverse ++ .ref (sz + 0) :: []))
  refine L_call (M := E_m150) X hl.1 hS rfl q1 o1 (by decide) rfl (by decide +kernel) rfl l_law_37 d_law_267 hRf hRl (Nat.zero_le _) ⟨hR1, by omega⟩ (fun H1 locs1 hS1 => ?_)
  refine lv_aload_n hx hb d_law_270 rfl (lv_at hl 2 rfl) ?_
  refine L_arg (k := 1) X hl hS1.2.1 (by omega) rfl d_law_271 d_law_272 d_law_273 d_law_274 d_law_275 ?_
  show W p l e R s m args below meth c H1 locs1 h1.length (sl + s1) Q (F0 m 276 ls ((([xs (i + 1)] : List Int32).map Value.int).reverse ++ .ref (sz + 83) :: [.int v]))
  refine L_call (M := E_m183) X hl.1 hS1 rfl q2 o2 (by decide) rfl (by decide +kernel) rfl l_law_40 d_law_276 hRf hRl (Nat.le_of_ble_eq_true rfl) ⟨hR2, hR3⟩ (fun H2 locs2 hS2 => ?_)
  refine lv_icmp_eq (tgt := 613) hx hb d_law_279 (by decide) (fun _ => ?_) (fun cn => absurd rfl cn)
  exact kk H2 locs2 hS2
theorem L_case_6 {b L i fuel d s1 s2 : Nat} {xs : Nat → Int32} {ls : Array Slot} {v : Int32} {h h1 h2 : E_H} {fs gs : List Value} (X : L_X p s m args c D TY b L xs sz) (hl : lv_has ls 4 [(0, .ref b), (1, .ref (sz + 0)), (2, .ref (sz + 83)), (3, .int (nI i))]) (hS : E_S D TY sz 0 s h H locs) (hi6 : i + 6 ≤ L)
    (q1 : E_call fuel d 151 (.ref 0 :: ([xs (i + 1), xs (i + 2)] : List Int32).map Value.int) h = some (some (.int v), h1, s1)) (q2 : E_call fuel d 184 (.ref 83 :: ([xs (i + 1), xs (i + 2)] : List Int32).map Value.int) h1 = some (some (.int v), h2, s2)) (o1 : h[0]? = some (.inr (11, fs))) (o2 : h1[83]? = some (.inr (12, gs)))
    (hRf : d + 1 ≤ R.frames) (hRl : 48 * (d + 1) ≤ R.locals) (hR1 : h1.length ≤ R.cells) (hR2 : h2.length ≤ R.cells) (hR3 : sl + s1 + s2 ≤ R.slots)
    (kk : ∀ (H1 : Heap) (locs1 : List Loc), E_S D TY sz 0 s h2 H1 locs1 → W p l e R s m args below meth c H1 locs1 h2.length (sl + s1 + s2) Q (F0 m 613 ls [])) : W p l e R s m args below meth c H locs h.length sl Q (F0 m 284 ls []) := by
  have hx := X.1
  have hb := X.2.1
  refine lv_aload_n hx hb d_law_284 rfl (lv_at hl 1 rfl) ?_
  refine L_arg (k := 1) X hl hS.2.1 (by omega) rfl d_law_285 d_law_286 d_law_287 d_law_288 d_law_289 ?_
  refine L_arg (k := 2) X hl hS.2.1 (by omega) rfl d_law_290 d_law_291 d_law_292 d_law_293 d_law_294 ?_
  show W p l e R s m args below meth c H locs h.length sl Q (F0 m 295 ls ((([xs (i + 1), xs (i + 2)] : List Int32).map Value.int).reverse ++ .ref (sz + 0) :: []))
  refine L_call (M := E_m151) X hl.1 hS rfl q1 o1 (by decide) rfl (by decide +kernel) rfl l_law_41 d_law_295 hRf hRl (Nat.zero_le _) ⟨hR1, by omega⟩ (fun H1 locs1 hS1 => ?_)
  refine lv_aload_n hx hb d_law_298 rfl (lv_at hl 2 rfl) ?_
  refine L_arg (k := 1) X hl hS1.2.1 (by omega) rfl d_law_299 d_law_300 d_law_301 d_law_302 d_law_303 ?_
  refine L_arg (k := 2) X hl hS1.2.1 (by omega) rfl d_law_304 d_law_305 d_law_306 d_law_307 d_law_308 ?_
  show W p l e R s m args below meth c H1 locs1 h1.length (sl + s1) Q (F0 m 309 ls ((([xs (i + 1), xs (i + 2)] : List Int32).map Value.int).reverse ++ .ref (sz + 83) :: [.int v]))
  refine L_call (M := E_m184) X hl.1 hS1 rfl q2 o2 (by decide) rfl (by decide +kernel) rfl l_law_45 d_law_309 hRf hRl (Nat.le_of_ble_eq_true rfl) ⟨hR2, hR3⟩ (fun H2 locs2 hS2 => ?_)
  refine lv_icmp_eq (tgt := 613) hx hb d_law_312 (by decide) (fun _ => ?_) (fun cn => absurd rfl cn)
  exact kk H2 locs2 hS2
theorem L_case_7 {b L i fuel d s1 s2 : Nat} {xs : Nat → Int32} {ls : Array Slot} {v : Int32} {h h1 h2 : E_H} {fs gs : List Value} (X : L_X p s m args c D TY b L xs sz) (hl : lv_has ls 4 [(0, .ref b), (1, .ref (sz + 0)), (2, .ref (sz + 83)), (3, .int (nI i))]) (hS : E_S D TY sz 0 s h H locs) (hi6 : i + 6 ≤ L)
    (q1 : E_call fuel d 152 (.ref 0 :: ([xs (i + 1), xs (i + 2)] : List Int32).map Value.int) h = some (some (.int v), h1, s1)) (q2 : E_call fuel d 186 (.ref 83 :: ([xs (i + 1), xs (i + 2)] : List Int32).map Value.int) h1 = some (some (.int v), h2, s2)) (o1 : h[0]? = some (.inr (11, fs))) (o2 : h1[83]? = some (.inr (12, gs)))
    (hRf : d + 1 ≤ R.frames) (hRl : 48 * (d + 1) ≤ R.locals) (hR1 : h1.length ≤ R.cells) (hR2 : h2.length ≤ R.cells) (hR3 : sl + s1 + s2 ≤ R.slots)
    (kk : ∀ (H1 : Heap) (locs1 : List Loc), E_S D TY sz 0 s h2 H1 locs1 → W p l e R s m args below meth c H1 locs1 h2.length (sl + s1 + s2) Q (F0 m 613 ls [])) : W p l e R s m args below meth c H locs h.length sl Q (F0 m 317 ls []) := by
  have hx := X.1
  have hb := X.2.1
  refine lv_aload_n hx hb d_law_317 rfl (lv_at hl 1 rfl) ?_
  refine L_arg (k := 1) X hl hS.2.1 (by omega) rfl d_law_318 d_law_319 d_law_320 d_law_321 d_law_322 ?_
  refine L_arg (k := 2) X hl hS.2.1 (by omega) rfl d_law_323 d_law_324 d_law_325 d_law_326 d_law_327 ?_
  show W p l e R s m args below meth c H locs h.length sl Q (F0 m 328 ls ((([xs (i + 1), xs (i + 2)] : List Int32).map Value.int).reverse ++ .ref (sz + 0) :: []))
  refine L_call (M := E_m152) X hl.1 hS rfl q1 o1 (by decide) rfl (by decide +kernel) rfl l_law_46 d_law_328 hRf hRl (Nat.zero_le _) ⟨hR1, by omega⟩ (fun H1 locs1 hS1 => ?_)
  refine lv_aload_n hx hb d_law_331 rfl (lv_at hl 2 rfl) ?_
  refine L_arg (k := 1) X hl hS1.2.1 (by omega) rfl d_law_332 d_law_333 d_law_334 d_law_335 d_law_336 ?_
  refine L_arg (k := 2) X hl hS1.2.1 (by omega) rfl d_law_337 d_law_338 d_law_339 d_law_340 d_law_341 ?_
  show W p l e R s m args below meth c H1 locs1 h1.length (sl + s1) Q (F0 m 342 ls ((([xs (i + 1), xs (i + 2)] : List Int32).map Value.int).reverse ++ .ref (sz + 83) :: [.int v]))
  refine L_call (M := E_m186) X hl.1 hS1 rfl q2 o2 (by decide) rfl (by decide +kernel) rfl l_law_49 d_law_342 hRf hRl (Nat.le_of_ble_eq_true rfl) ⟨hR2, hR3⟩ (fun H2 locs2 hS2 => ?_)
  refine lv_icmp_eq (tgt := 613) hx hb d_law_345 (by decide) (fun _ => ?_) (fun cn => absurd rfl cn)
  exact kk H2 locs2 hS2
theorem L_case_8 {b L i fuel d s1 s2 : Nat} {xs : Nat → Int32} {ls : Array Slot} {v : Int32} {h h1 h2 : E_H} {fs gs : List Value} (X : L_X p s m args c D TY b L xs sz) (hl : lv_has ls 4 [(0, .ref b), (1, .ref (sz + 0)), (2, .ref (sz + 83)), (3, .int (nI i))]) (hS : E_S D TY sz 0 s h H locs) (hi6 : i + 6 ≤ L)
    (q1 : E_call fuel d 153 (.ref 0 :: ([(if xs (i + 1) = 0 then 0 else 1)] : List Int32).map Value.int) h = some (some (.int v), h1, s1)) (q2 : E_call fuel d 276 (.ref 83 :: ([(if xs (i + 1) = 0 then 0 else 1)] : List Int32).map Value.int) h1 = some (some (.int v), h2, s2)) (o1 : h[0]? = some (.inr (11, fs))) (o2 : h1[83]? = some (.inr (12, gs)))
    (hRf : d + 1 ≤ R.frames) (hRl : 48 * (d + 1) ≤ R.locals) (hR1 : h1.length ≤ R.cells) (hR2 : h2.length ≤ R.cells) (hR3 : sl + s1 + s2 ≤ R.slots)
    (kk : ∀ (H1 : Heap) (locs1 : List Loc), E_S D TY sz 0 s h2 H1 locs1 → W p l e R s m args below meth c H1 locs1 h2.length (sl + s1 + s2) Q (F0 m 613 ls [])) : W p l e R s m args below meth c H locs h.length sl Q (F0 m 350 ls []) := by
  have hx := X.1
  have hb := X.2.1
  refine lv_aload_n hx hb d_law_350 rfl (lv_at hl 1 rfl) ?_
  refine L_arg (k := 1) X hl hS.2.1 (by omega) rfl d_law_351 d_law_352 d_law_353 d_law_354 d_law_355 ?_
  suffices hsf : ∀ (z : Int32), z = (if xs (i + 1) = 0 then 0 else 1) → W p l e R s m args below meth c H locs h.length sl Q (F0 m 364 ls (.int z :: [.ref (sz + 0)])) by
    refine lv_if_eq (tgt := 363) hx hb d_law_356 (by decide) (fun c0 => ?_) (fun c0 => ?_)
    · refine lv_iconst (v := 0) hx hb d_law_363 (by decide) ?_
      exact hsf 0 (by rw [if_pos c0])
    · refine lv_iconst (v := 1) hx hb d_law_359 (by decide) ?_
      refine lv_goto (tgt := 364) hx hb d_law_360 (by decide) ?_
      exact hsf 1 (by rw [if_neg c0])
  intro z hz
  subst hz
  show W p l e R s m args below meth c H locs h.length sl Q (F0 m 364 ls ((([(if xs (i + 1) = 0 then 0 else 1)] : List Int32).map Value.int).reverse ++ .ref (sz + 0) :: []))
  refine L_call (M := E_m153) X hl.1 hS rfl q1 o1 (by decide) rfl (by decide +kernel) rfl l_law_50 d_law_364 hRf hRl (Nat.zero_le _) ⟨hR1, by omega⟩ (fun H1 locs1 hS1 => ?_)
  refine lv_aload_n hx hb d_law_367 rfl (lv_at hl 2 rfl) ?_
  refine L_arg (k := 1) X hl hS1.2.1 (by omega) rfl d_law_368 d_law_369 d_law_370 d_law_371 d_law_372 ?_
  suffices hsf : ∀ (z : Int32), z = (if xs (i + 1) = 0 then 0 else 1) → W p l e R s m args below meth c H1 locs1 h1.length (sl + s1) Q (F0 m 381 ls (.int z :: [.ref (sz + 83), .int v])) by
    refine lv_if_eq (tgt := 380) hx hb d_law_373 (by decide) (fun c0 => ?_) (fun c0 => ?_)
    · refine lv_iconst (v := 0) hx hb d_law_380 (by decide) ?_
      exact hsf 0 (by rw [if_pos c0])
    · refine lv_iconst (v := 1) hx hb d_law_376 (by decide) ?_
      refine lv_goto (tgt := 381) hx hb d_law_377 (by decide) ?_
      exact hsf 1 (by rw [if_neg c0])
  intro z hz
  subst hz
  show W p l e R s m args below meth c H1 locs1 h1.length (sl + s1) Q (F0 m 381 ls ((([(if xs (i + 1) = 0 then 0 else 1)] : List Int32).map Value.int).reverse ++ .ref (sz + 83) :: [.int v]))
  refine L_call (M := E_m276) X hl.1 hS1 rfl q2 o2 (by decide) rfl (by decide +kernel) rfl l_law_54 d_law_381 hRf hRl (Nat.le_of_ble_eq_true rfl) ⟨hR2, hR3⟩ (fun H2 locs2 hS2 => ?_)
  refine lv_icmp_eq (tgt := 613) hx hb d_law_384 (by decide) (fun _ => ?_) (fun cn => absurd rfl cn)
  exact kk H2 locs2 hS2
theorem L_case_9 {b L i fuel d s1 s2 : Nat} {xs : Nat → Int32} {ls : Array Slot} {v : Int32} {h h1 h2 : E_H} {fs gs : List Value} (X : L_X p s m args c D TY b L xs sz) (hl : lv_has ls 4 [(0, .ref b), (1, .ref (sz + 0)), (2, .ref (sz + 83)), (3, .int (nI i))]) (hS : E_S D TY sz 0 s h H locs) (hi6 : i + 6 ≤ L)
    (q1 : E_call fuel d 154 (.ref 0 :: ([xs (i + 1)] : List Int32).map Value.int) h = some (some (.int v), h1, s1)) (q2 : E_call fuel d 277 (.ref 83 :: ([xs (i + 1)] : List Int32).map Value.int) h1 = some (some (.int v), h2, s2)) (o1 : h[0]? = some (.inr (11, fs))) (o2 : h1[83]? = some (.inr (12, gs)))
    (hRf : d + 1 ≤ R.frames) (hRl : 48 * (d + 1) ≤ R.locals) (hR1 : h1.length ≤ R.cells) (hR2 : h2.length ≤ R.cells) (hR3 : sl + s1 + s2 ≤ R.slots)
    (kk : ∀ (H1 : Heap) (locs1 : List Loc), E_S D TY sz 0 s h2 H1 locs1 → W p l e R s m args below meth c H1 locs1 h2.length (sl + s1 + s2) Q (F0 m 613 ls [])) : W p l e R s m args below meth c H locs h.length sl Q (F0 m 389 ls []) := by
  have hx := X.1
  have hb := X.2.1
  refine lv_aload_n hx hb d_law_389 rfl (lv_at hl 1 rfl) ?_
  refine L_arg (k := 1) X hl hS.2.1 (by omega) rfl d_law_390 d_law_391 d_law_392 d_law_393 d_law_394 ?_
  show W p l e R s m args below meth c H locs h.length sl Q (F0 m 395 ls ((([xs (i + 1)] : List Int32).map Value.int).reverse ++ .ref (sz + 0) :: []))
  refine L_call (M := E_m154) X hl.1 hS rfl q1 o1 (by decide) rfl (by decide +kernel) rfl l_law_55 d_law_395 hRf hRl (Nat.zero_le _) ⟨hR1, by omega⟩ (fun H1 locs1 hS1 => ?_)
  refine lv_aload_n hx hb d_law_398 rfl (lv_at hl 2 rfl) ?_
  refine L_arg (k := 1) X hl hS1.2.1 (by omega) rfl d_law_399 d_law_400 d_law_401 d_law_402 d_law_403 ?_
  show W p l e R s m args below meth c H1 locs1 h1.length (sl + s1) Q (F0 m 404 ls ((([xs (i + 1)] : List Int32).map Value.int).reverse ++ .ref (sz + 83) :: [.int v]))
  refine L_call (M := E_m277) X hl.1 hS1 rfl q2 o2 (by decide) rfl (by decide +kernel) rfl l_law_58 d_law_404 hRf hRl (Nat.le_of_ble_eq_true rfl) ⟨hR2, hR3⟩ (fun H2 locs2 hS2 => ?_)
  refine lv_icmp_eq (tgt := 613) hx hb d_law_407 (by decide) (fun _ => ?_) (fun cn => absurd rfl cn)
  exact kk H2 locs2 hS2
theorem L_case_10 {b L i fuel d s1 s2 : Nat} {xs : Nat → Int32} {ls : Array Slot} {v : Int32} {h h1 h2 : E_H} {fs gs : List Value} (X : L_X p s m args c D TY b L xs sz) (hl : lv_has ls 4 [(0, .ref b), (1, .ref (sz + 0)), (2, .ref (sz + 83)), (3, .int (nI i))]) (hS : E_S D TY sz 0 s h H locs) (hi6 : i + 6 ≤ L)
    (q1 : E_call fuel d 155 (.ref 0 :: ([xs (i + 1), xs (i + 2)] : List Int32).map Value.int) h = some (some (.int v), h1, s1)) (q2 : E_call fuel d 278 (.ref 83 :: ([xs (i + 1), xs (i + 2)] : List Int32).map Value.int) h1 = some (some (.int v), h2, s2)) (o1 : h[0]? = some (.inr (11, fs))) (o2 : h1[83]? = some (.inr (12, gs)))
    (hRf : d + 1 ≤ R.frames) (hRl : 48 * (d + 1) ≤ R.locals) (hR1 : h1.length ≤ R.cells) (hR2 : h2.length ≤ R.cells) (hR3 : sl + s1 + s2 ≤ R.slots)
    (kk : ∀ (H1 : Heap) (locs1 : List Loc), E_S D TY sz 0 s h2 H1 locs1 → W p l e R s m args below meth c H1 locs1 h2.length (sl + s1 + s2) Q (F0 m 613 ls [])) : W p l e R s m args below meth c H locs h.length sl Q (F0 m 412 ls []) := by
  have hx := X.1
  have hb := X.2.1
  refine lv_aload_n hx hb d_law_412 rfl (lv_at hl 1 rfl) ?_
  refine L_arg (k := 1) X hl hS.2.1 (by omega) rfl d_law_413 d_law_414 d_law_415 d_law_416 d_law_417 ?_
  refine L_arg (k := 2) X hl hS.2.1 (by omega) rfl d_law_418 d_law_419 d_law_420 d_law_421 d_law_422 ?_
  show W p l e R s m args below meth c H locs h.length sl Q (F0 m 423 ls ((([xs (i + 1), xs (i + 2)] : List Int32).map Value.int).reverse ++ .ref (sz + 0) :: []))
  refine L_call (M := E_m155) X hl.1 hS rfl q1 o1 (by decide) rfl (by decide +kernel) rfl l_law_59 d_law_423 hRf hRl (Nat.zero_le _) ⟨hR1, by omega⟩ (fun H1 locs1 hS1 => ?_)
  refine lv_aload_n hx hb d_law_426 rfl (lv_at hl 2 rfl) ?_
  refine L_arg (k := 1) X hl hS1.2.1 (by omega) rfl d_law_427 d_law_428 d_law_429 d_law_430 d_law_431 ?_
  refine L_arg (k := 2) X hl hS1.2.1 (by omega) rfl d_law_432 d_law_433 d_law_434 d_law_435 d_law_436 ?_
  show W p l e R s m args below meth c H1 locs1 h1.length (sl + s1) Q (F0 m 437 ls ((([xs (i + 1), xs (i + 2)] : List Int32).map Value.int).reverse ++ .ref (sz + 83) :: [.int v]))
  refine L_call (M := E_m278) X hl.1 hS1 rfl q2 o2 (by decide) rfl (by decide +kernel) rfl l_law_62 d_law_437 hRf hRl (Nat.le_of_ble_eq_true rfl) ⟨hR2, hR3⟩ (fun H2 locs2 hS2 => ?_)
  refine lv_icmp_eq (tgt := 613) hx hb d_law_440 (by decide) (fun _ => ?_) (fun cn => absurd rfl cn)
  exact kk H2 locs2 hS2
theorem L_case_11 {b L i fuel d s1 s2 : Nat} {xs : Nat → Int32} {ls : Array Slot} {v : Int32} {h h1 h2 : E_H} {fs gs : List Value} (X : L_X p s m args c D TY b L xs sz) (hl : lv_has ls 4 [(0, .ref b), (1, .ref (sz + 0)), (2, .ref (sz + 83)), (3, .int (nI i))]) (hS : E_S D TY sz 0 s h H locs) (hi6 : i + 6 ≤ L)
    (q1 : E_call fuel d 156 (.ref 0 :: ([xs (i + 1)] : List Int32).map Value.int) h = some (some (.int v), h1, s1)) (q2 : E_call fuel d 279 (.ref 83 :: ([xs (i + 1)] : List Int32).map Value.int) h1 = some (some (.int v), h2, s2)) (o1 : h[0]? = some (.inr (11, fs))) (o2 : h1[83]? = some (.inr (12, gs)))
    (hRf : d + 1 ≤ R.frames) (hRl : 48 * (d + 1) ≤ R.locals) (hR1 : h1.length ≤ R.cells) (hR2 : h2.length ≤ R.cells) (hR3 : sl + s1 + s2 ≤ R.slots)
    (kk : ∀ (H1 : Heap) (locs1 : List Loc), E_S D TY sz 0 s h2 H1 locs1 → W p l e R s m args below meth c H1 locs1 h2.length (sl + s1 + s2) Q (F0 m 613 ls [])) : W p l e R s m args below meth c H locs h.length sl Q (F0 m 445 ls []) := by
  have hx := X.1
  have hb := X.2.1
  refine lv_aload_n hx hb d_law_445 rfl (lv_at hl 1 rfl) ?_
  refine L_arg (k := 1) X hl hS.2.1 (by omega) rfl d_law_446 d_law_447 d_law_448 d_law_449 d_law_450 ?_
  show W p l e R s m args below meth c H locs h.length sl Q (F0 m 451 ls ((([xs (i + 1)] : List Int32).map Value.int).reverse ++ .ref (sz + 0) :: []))
  refine L_call (M := E_m156) X hl.1 hS rfl q1 o1 (by decide) rfl (by decide +kernel) rfl l_law_63 d_law_451 hRf hRl (Nat.zero_le _) ⟨hR1, by omega⟩ (fun H1 locs1 hS1 => ?_)
  refine lv_aload_n hx hb d_law_454 rfl (lv_at hl 2 rfl) ?_
  refine L_arg (k := 1) X hl hS1.2.1 (by omega) rfl d_law_455 d_law_456 d_law_457 d_law_458 d_law_459 ?_
  show W p l e R s m args below meth c H1 locs1 h1.length (sl + s1) Q (F0 m 460 ls ((([xs (i + 1)] : List Int32).map Value.int).reverse ++ .ref (sz + 83) :: [.int v]))
  refine L_call (M := E_m279) X hl.1 hS1 rfl q2 o2 (by decide) rfl (by decide +kernel) rfl l_law_66 d_law_460 hRf hRl (Nat.le_of_ble_eq_true rfl) ⟨hR2, hR3⟩ (fun H2 locs2 hS2 => ?_)
  refine lv_icmp_eq (tgt := 613) hx hb d_law_463 (by decide) (fun _ => ?_) (fun cn => absurd rfl cn)
  exact kk H2 locs2 hS2
theorem L_case_12 {b L i fuel d s1 s2 : Nat} {xs : Nat → Int32} {ls : Array Slot} {v : Int32} {h h1 h2 : E_H} {fs gs : List Value} (X : L_X p s m args c D TY b L xs sz) (hl : lv_has ls 4 [(0, .ref b), (1, .ref (sz + 0)), (2, .ref (sz + 83)), (3, .int (nI i))]) (hS : E_S D TY sz 0 s h H locs) (hi6 : i + 6 ≤ L)
    (q1 : E_call fuel d 157 (.ref 0 :: ([xs (i + 1)] : List Int32).map Value.int) h = some (some (.int v), h1, s1)) (q2 : E_call fuel d 280 (.ref 83 :: ([xs (i + 1)] : List Int32).map Value.int) h1 = some (some (.int v), h2, s2)) (o1 : h[0]? = some (.inr (11, fs))) (o2 : h1[83]? = some (.inr (12, gs)))
    (hRf : d + 1 ≤ R.frames) (hRl : 48 * (d + 1) ≤ R.locals) (hR1 : h1.length ≤ R.cells) (hR2 : h2.length ≤ R.cells) (hR3 : sl + s1 + s2 ≤ R.slots)
    (kk : ∀ (H1 : Heap) (locs1 : List Loc), E_S D TY sz 0 s h2 H1 locs1 → W p l e R s m args below meth c H1 locs1 h2.length (sl + s1 + s2) Q (F0 m 613 ls [])) : W p l e R s m args below meth c H locs h.length sl Q (F0 m 468 ls []) := by
  have hx := X.1
  have hb := X.2.1
  refine lv_aload_n hx hb d_law_468 rfl (lv_at hl 1 rfl) ?_
  refine L_arg (k := 1) X hl hS.2.1 (by omega) rfl d_law_469 d_law_470 d_law_471 d_law_472 d_law_473 ?_
  show W p l e R s m args below meth c H locs h.length sl Q (F0 m 474 ls ((([xs (i + 1)] : List Int32).map Value.int).reverse ++ .ref (sz + 0) :: []))
  refine L_call (M := E_m157) X hl.1 hS rfl q1 o1 (by decide) rfl (by decide +kernel) rfl l_law_67 d_law_474 hRf hRl (Nat.zero_le _) ⟨hR1, by omega⟩ (fun H1 locs1 hS1 => ?_)
  refine lv_aload_n hx hb d_law_477 rfl (lv_at hl 2 rfl) ?_
  refine L_arg (k := 1) X hl hS1.2.1 (by omega) rfl d_law_478 d_law_479 d_law_480 d_law_481 d_law_482 ?_
  show W p l e R s m args below meth c H1 locs1 h1.length (sl + s1) Q (F0 m 483 ls ((([xs (i + 1)] : List Int32).map Value.int).reverse ++ .ref (sz + 83) :: [.int v]))
  refine L_call (M := E_m280) X hl.1 hS1 rfl q2 o2 (by decide) rfl (by decide +kernel) rfl l_law_70 d_law_483 hRf hRl (Nat.le_of_ble_eq_true rfl) ⟨hR2, hR3⟩ (fun H2 locs2 hS2 => ?_)
  refine lv_icmp_eq (tgt := 613) hx hb d_law_486 (by decide) (fun _ => ?_) (fun cn => absurd rfl cn)
  exact kk H2 locs2 hS2
theorem L_case_13 {b L i fuel d s1 s2 : Nat} {xs : Nat → Int32} {ls : Array Slot} {v : Int32} {h h1 h2 : E_H} {fs gs : List Value} (X : L_X p s m args c D TY b L xs sz) (hl : lv_has ls 4 [(0, .ref b), (1, .ref (sz + 0)), (2, .ref (sz + 83)), (3, .int (nI i))]) (hS : E_S D TY sz 0 s h H locs) (hi6 : i + 6 ≤ L)
    (q1 : E_call fuel d 158 (.ref 0 :: ([xs (i + 1), xs (i + 2)] : List Int32).map Value.int) h = some (some (.int v), h1, s1)) (q2 : E_call fuel d 281 (.ref 83 :: ([xs (i + 1), xs (i + 2)] : List Int32).map Value.int) h1 = some (some (.int v), h2, s2)) (o1 : h[0]? = some (.inr (11, fs))) (o2 : h1[83]? = some (.inr (12, gs)))
    (hRf : d + 1 ≤ R.frames) (hRl : 48 * (d + 1) ≤ R.locals) (hR1 : h1.length ≤ R.cells) (hR2 : h2.length ≤ R.cells) (hR3 : sl + s1 + s2 ≤ R.slots)
    (kk : ∀ (H1 : Heap) (locs1 : List Loc), E_S D TY sz 0 s h2 H1 locs1 → W p l e R s m args below meth c H1 locs1 h2.length (sl + s1 + s2) Q (F0 m 613 ls [])) : W p l e R s m args below meth c H locs h.length sl Q (F0 m 491 ls []) := by
  have hx := X.1
  have hb := X.2.1
  refine lv_aload_n hx hb d_law_491 rfl (lv_at hl 1 rfl) ?_
  refine L_arg (k := 1) X hl hS.2.1 (by omega) rfl d_law_492 d_law_493 d_law_494 d_law_495 d_law_496 ?_
  refine L_arg (k := 2) X hl hS.2.1 (by omega) rfl d_law_497 d_law_498 d_law_499 d_law_500 d_law_501 ?_
  show W p l e R s m args below meth c H locs h.length sl Q (F0 m 502 ls ((([xs (i + 1), xs (i + 2)] : List Int32).map Value.int).reverse ++ .ref (sz + 0) :: []))
  refine L_call (M := E_m158) X hl.1 hS rfl q1 o1 (by decide) rfl (by decide +kernel) rfl l_law_71 d_law_502 hRf hRl (Nat.zero_le _) ⟨hR1, by omega⟩ (fun H1 locs1 hS1 => ?_)
  refine lv_aload_n hx hb d_law_505 rfl (lv_at hl 2 rfl) ?_
  refine L_arg (k := 1) X hl hS1.2.1 (by omega) rfl d_law_506 d_law_507 d_law_508 d_law_509 d_law_510 ?_
  refine L_arg (k := 2) X hl hS1.2.1 (by omega) rfl d_law_511 d_law_512 d_law_513 d_law_514 d_law_515 ?_
  show W p l e R s m args below meth c H1 locs1 h1.length (sl + s1) Q (F0 m 516 ls ((([xs (i + 1), xs (i + 2)] : List Int32).map Value.int).reverse ++ .ref (sz + 83) :: [.int v]))
  refine L_call (M := E_m281) X hl.1 hS1 rfl q2 o2 (by decide) rfl (by decide +kernel) rfl l_law_74 d_law_516 hRf hRl (Nat.le_of_ble_eq_true rfl) ⟨hR2, hR3⟩ (fun H2 locs2 hS2 => ?_)
  refine lv_icmp_eq (tgt := 613) hx hb d_law_519 (by decide) (fun _ => ?_) (fun cn => absurd rfl cn)
  exact kk H2 locs2 hS2
theorem L_case_14 {b L i fuel d s1 s2 : Nat} {xs : Nat → Int32} {ls : Array Slot} {v : Int32} {h h1 h2 : E_H} {fs gs : List Value} (X : L_X p s m args c D TY b L xs sz) (hl : lv_has ls 4 [(0, .ref b), (1, .ref (sz + 0)), (2, .ref (sz + 83)), (3, .int (nI i))]) (hS : E_S D TY sz 0 s h H locs) (hi6 : i + 6 ≤ L)
    (q1 : E_call fuel d 159 (.ref 0 :: ([xs (i + 1)] : List Int32).map Value.int) h = some (some (.int v), h1, s1)) (q2 : E_call fuel d 282 (.ref 83 :: ([xs (i + 1)] : List Int32).map Value.int) h1 = some (some (.int v), h2, s2)) (o1 : h[0]? = some (.inr (11, fs))) (o2 : h1[83]? = some (.inr (12, gs)))
    (hRf : d + 1 ≤ R.frames) (hRl : 48 * (d + 1) ≤ R.locals) (hR1 : h1.length ≤ R.cells) (hR2 : h2.length ≤ R.cells) (hR3 : sl + s1 + s2 ≤ R.slots)
    (kk : ∀ (H1 : Heap) (locs1 : List Loc), E_S D TY sz 0 s h2 H1 locs1 → W p l e R s m args below meth c H1 locs1 h2.length (sl + s1 + s2) Q (F0 m 613 ls [])) : W p l e R s m args below meth c H locs h.length sl Q (F0 m 524 ls []) := by
  have hx := X.1
  have hb := X.2.1
  refine lv_aload_n hx hb d_law_524 rfl (lv_at hl 1 rfl) ?_
  refine L_arg (k := 1) X hl hS.2.1 (by omega) rfl d_law_525 d_law_526 d_law_527 d_law_528 d_law_529 ?_
  show W p l e R s m args below meth c H locs h.length sl Q (F0 m 530 ls ((([xs (i + 1)] : List Int32).map Value.int).reverse ++ .ref (sz + 0) :: []))
  refine L_call (M := E_m159) X hl.1 hS rfl q1 o1 (by decide) rfl (by decide +kernel) rfl l_law_75 d_law_530 hRf hRl (Nat.zero_le _) ⟨hR1, by omega⟩ (fun H1 locs1 hS1 => ?_)
  refine lv_aload_n hx hb d_law_533 rfl (lv_at hl 2 rfl) ?_
  refine L_arg (k := 1) X hl hS1.2.1 (by omega) rfl d_law_534 d_law_535 d_law_536 d_law_537 d_law_538 ?_
  show W p l e R s m args below meth c H1 locs1 h1.length (sl + s1) Q (F0 m 539 ls ((([xs (i + 1)] : List Int32).map Value.int).reverse ++ .ref (sz + 83) :: [.int v]))
  refine L_call (M := E_m282) X hl.1 hS1 rfl q2 o2 (by decide) rfl (by decide +kernel) rfl l_law_78 d_law_539 hRf hRl (Nat.le_of_ble_eq_true rfl) ⟨hR2, hR3⟩ (fun H2 locs2 hS2 => ?_)
  refine lv_icmp_eq (tgt := 613) hx hb d_law_542 (by decide) (fun _ => ?_) (fun cn => absurd rfl cn)
  exact kk H2 locs2 hS2
theorem L_case_15 {b L i fuel d s1 s2 : Nat} {xs : Nat → Int32} {ls : Array Slot} {v : Int32} {h h1 h2 : E_H} {fs gs : List Value} (X : L_X p s m args c D TY b L xs sz) (hl : lv_has ls 4 [(0, .ref b), (1, .ref (sz + 0)), (2, .ref (sz + 83)), (3, .int (nI i))]) (hS : E_S D TY sz 0 s h H locs) (hi6 : i + 6 ≤ L)
    (q1 : E_call fuel d 160 (.ref 0 :: ([xs (i + 1), xs (i + 2), xs (i + 3)] : List Int32).map Value.int) h = some (some (.int v), h1, s1)) (q2 : E_call fuel d 283 (.ref 83 :: ([xs (i + 1), xs (i + 2), xs (i + 3)] : List Int32).map Value.int) h1 = some (some (.int v), h2, s2)) (o1 : h[0]? = some (.inr (11, fs))) (o2 : h1[83]? = some (.inr (12, gs)))
    (hRf : d + 1 ≤ R.frames) (hRl : 48 * (d + 1) ≤ R.locals) (hR1 : h1.length ≤ R.cells) (hR2 : h2.length ≤ R.cells) (hR3 : sl + s1 + s2 ≤ R.slots)
    (kk : ∀ (H1 : Heap) (locs1 : List Loc), E_S D TY sz 0 s h2 H1 locs1 → W p l e R s m args below meth c H1 locs1 h2.length (sl + s1 + s2) Q (F0 m 613 ls [])) : W p l e R s m args below meth c H locs h.length sl Q (F0 m 547 ls []) := by
  have hx := X.1
  have hb := X.2.1
  refine lv_aload_n hx hb d_law_547 rfl (lv_at hl 1 rfl) ?_
  refine L_arg (k := 1) X hl hS.2.1 (by omega) rfl d_law_548 d_law_549 d_law_550 d_law_551 d_law_552 ?_
  refine L_arg (k := 2) X hl hS.2.1 (by omega) rfl d_law_553 d_law_554 d_law_555 d_law_556 d_law_557 ?_
  refine L_arg (k := 3) X hl hS.2.1 (by omega) rfl d_law_558 d_law_559 d_law_560 d_law_561 d_law_562 ?_
  show W p l e R s m args below meth c H locs h.length sl Q (F0 m 563 ls ((([xs (i + 1), xs (i + 2), xs (i + 3)] : List Int32).map Value.int).reverse ++ .ref (sz + 0) :: []))
  refine L_call (M := E_m160) X hl.1 hS rfl q1 o1 (by decide) rfl (by decide +kernel) rfl l_law_79 d_law_563 hRf hRl (Nat.zero_le _) ⟨hR1, by omega⟩ (fun H1 locs1 hS1 => ?_)
  refine lv_aload_n hx hb d_law_566 rfl (lv_at hl 2 rfl) ?_
  refine L_arg (k := 1) X hl hS1.2.1 (by omega) rfl d_law_567 d_law_568 d_law_569 d_law_570 d_law_571 ?_
  refine L_arg (k := 2) X hl hS1.2.1 (by omega) rfl d_law_572 d_law_573 d_law_574 d_law_575 d_law_576 ?_
  refine L_arg (k := 3) X hl hS1.2.1 (by omega) rfl d_law_577 d_law_578 d_law_579 d_law_580 d_law_581 ?_
  show W p l e R s m args below meth c H1 locs1 h1.length (sl + s1) Q (F0 m 582 ls ((([xs (i + 1), xs (i + 2), xs (i + 3)] : List Int32).map Value.int).reverse ++ .ref (sz + 83) :: [.int v]))
  refine L_call (M := E_m283) X hl.1 hS1 rfl q2 o2 (by decide) rfl (by decide +kernel) rfl l_law_83 d_law_582 hRf hRl (Nat.le_of_ble_eq_true rfl) ⟨hR2, hR3⟩ (fun H2 locs2 hS2 => ?_)
  refine lv_icmp_eq (tgt := 613) hx hb d_law_585 (by decide) (fun _ => ?_) (fun cn => absurd rfl cn)
  exact kk H2 locs2 hS2
theorem L_case_16 {b L i fuel d s1 s2 : Nat} {xs : Nat → Int32} {ls : Array Slot} {v : Int32} {h h1 h2 : E_H} {fs gs : List Value} (X : L_X p s m args c D TY b L xs sz) (hl : lv_has ls 4 [(0, .ref b), (1, .ref (sz + 0)), (2, .ref (sz + 83)), (3, .int (nI i))]) (hS : E_S D TY sz 0 s h H locs) (hi6 : i + 6 ≤ L)
    (q1 : E_call fuel d 161 (.ref 0 :: ([xs (i + 1)] : List Int32).map Value.int) h = some (some (.int v), h1, s1)) (q2 : E_call fuel d 284 (.ref 83 :: ([xs (i + 1)] : List Int32).map Value.int) h1 = some (some (.int v), h2, s2)) (o1 : h[0]? = some (.inr (11, fs))) (o2 : h1[83]? = some (.inr (12, gs)))
    (hRf : d + 1 ≤ R.frames) (hRl : 48 * (d + 1) ≤ R.locals) (hR1 : h1.length ≤ R.cells) (hR2 : h2.length ≤ R.cells) (hR3 : sl + s1 + s2 ≤ R.slots)
    (kk : ∀ (H1 : Heap) (locs1 : List Loc), E_S D TY sz 0 s h2 H1 locs1 → W p l e R s m args below meth c H1 locs1 h2.length (sl + s1 + s2) Q (F0 m 613 ls [])) : W p l e R s m args below meth c H locs h.length sl Q (F0 m 590 ls []) := by
  have hx := X.1
  have hb := X.2.1
  refine lv_aload_n hx hb d_law_590 rfl (lv_at hl 1 rfl) ?_
  refine L_arg (k := 1) X hl hS.2.1 (by omega) rfl d_law_591 d_law_592 d_law_593 d_law_594 d_law_595 ?_
  show W p l e R s m args below meth c H locs h.length sl Q (F0 m 596 ls ((([xs (i + 1)] : List Int32).map Value.int).reverse ++ .ref (sz + 0) :: []))
  refine L_call (M := E_m161) X hl.1 hS rfl q1 o1 (by decide) rfl (by decide +kernel) rfl l_law_84 d_law_596 hRf hRl (Nat.zero_le _) ⟨hR1, by omega⟩ (fun H1 locs1 hS1 => ?_)
  refine lv_aload_n hx hb d_law_599 rfl (lv_at hl 2 rfl) ?_
  refine L_arg (k := 1) X hl hS1.2.1 (by omega) rfl d_law_600 d_law_601 d_law_602 d_law_603 d_law_604 ?_
  show W p l e R s m args below meth c H1 locs1 h1.length (sl + s1) Q (F0 m 605 ls ((([xs (i + 1)] : List Int32).map Value.int).reverse ++ .ref (sz + 83) :: [.int v]))
  refine L_call (M := E_m284) X hl.1 hS1 rfl q2 o2 (by decide) rfl (by decide +kernel) rfl l_law_87 d_law_605 hRf hRl (Nat.le_of_ble_eq_true rfl) ⟨hR2, hR3⟩ (fun H2 locs2 hS2 => ?_)
  refine lv_icmp_eq (tgt := 613) hx hb d_law_608 (by decide) (fun _ => ?_) (fun cn => absurd rfl cn)
  exact kk H2 locs2 hS2
/-- two calls with one answer, and what holds behind them -/
def L_two (fuel d x y RC RS : Nat) (as : List Int32) (h : E_H) (sl : Nat) (J : E_H → Nat → Prop) : Prop := ∃ (v : Int32) (h1 : E_H) (s1 : Nat) (h2 : E_H) (s2 : Nat) (fs gs : List Value), E_call fuel d x (.ref 0 :: as.map Value.int) h = some (some (.int v), h1, s1) ∧ E_call fuel d y (.ref 83 :: as.map Value.int) h1 = some (some (.int v), h2, s2) ∧ h[0]? = some (.inr (11, fs)) ∧ h1[83]? = some (.inr (12, gs)) ∧ h1.length ≤ RC ∧ h2.length ≤ RC ∧ sl + s1 + s2 ≤ RS ∧ J h2 (sl + s1 + s2)
/-- one turn of the law: the j-th case with the arguments a 1 .. a 5 -/
def L_turn (fuel d RC RS j : Nat) (a : Nat → Int32) (h : E_H) (sl : Nat) (J : E_H → Nat → Prop) : Prop := match j with
  | 0 => L_two fuel d 145 175 RC RS [a 1, a 2, a 3, a 4, a 5] h sl J
  | 1 => L_two fuel d 146 176 RC RS [a 1] h sl J
  | 2 => L_two fuel d 147 180 RC RS [] h sl J
  | 3 => L_two fuel d 148 181 RC RS [a 1] h sl J
  | 4 => L_two fuel d 149 182 RC RS [a 1] h sl J
  | 5 => L_two fuel d 150 183 RC RS [a 1] h sl J
  | 6 => L_two fuel d 151 184 RC RS [a 1, a 2] h sl J
  | 7 => L_two fuel d 152 186 RC RS [a 1, a 2] h sl J
  | 8 => L_two fuel d 153 276 RC RS [(if a 1 = 0 then 0 else 1)] h sl J
  | 9 => L_two fuel d 154 277 RC RS [a 1] h sl J
  | 10 => L_two fuel d 155 278 RC RS [a 1, a 2] h sl J
  | 11 => L_two fuel d 156 279 RC RS [a 1] h sl J
  | 12 => L_two fuel d 157 280 RC RS [a 1] h sl J
  | 13 => L_two fuel d 158 281 RC RS [a 1, a 2] h sl J
  | 14 => L_two fuel d 159 282 RC RS [a 1] h sl J
  | 15 => L_two fuel d 160 283 RC RS [a 1, a 2, a 3] h sl J
  | 16 => L_two fuel d 161 284 RC RS [a 1] h sl J
  | _ => J h sl
theorem L_disp {b L i fuel d j : Nat} {xs : Nat → Int32} {ls : Array Slot} {h : E_H} {J : E_H → Nat → Prop} (X : L_X p s m args c D TY b L xs sz) (hl : lv_has ls 4 [(0, .ref b), (1, .ref (sz + 0)), (2, .ref (sz + 83)), (3, .int (nI i))]) (hS : E_S D TY sz 0 s h H locs) (hi6 : i + 6 ≤ L) (hj : j < 32) (hop : xs i &&& 31 = nI j)
    (hRf : d + 1 ≤ R.frames) (hRl : 48 * (d + 1) ≤ R.locals) (ht : L_turn fuel d R.cells R.slots j (fun k => xs (i + k)) h sl J)
    (kk : ∀ (h2 : E_H) (sl2 : Nat) (H1 : Heap) (locs1 : List Loc), J h2 sl2 → E_S D TY sz 0 s h2 H1 locs1 → W p l e R s m args below meth c H1 locs1 h2.length sl2 Q (F0 m 613 ls [])) : W p l e R s m args below meth c H locs h.length sl Q (F0 m 27 ls []) := by
  have hx := X.1
  have hb := X.2.1
  refine L_arg0 X hl hS.2.1 (by omega) d_law_27 d_law_28 d_law_29 ?_
  refine lv_bipush (v := 31) hx hb d_law_30 (by decide) ?_
  refine lv_iand hx hb d_law_32 ?_
  rw [hop]
  have hji : (nI j).toInt = (j : Int) := nI_toInt (by omega)
  rcases Nat.lt_or_ge j 17 with q | q
  · match j, q, ht, hji with
    | 0, q, ht, hji =>
      obtain ⟨v, h1, s1, h2, s2, fs, gs, q1, q2, o1, o2, r1, r2, r3, hJ⟩ := ht
      refine lv_tableIn (off := 83) (tgt := 116) hx hb d_law_33 (by decide) (by decide) (by decide) (by decide) ?_
      exact L_case_0 X hl hS hi6 q1 q2 o1 o2 hRf hRl r1 r2 r3 (fun H1 locs1 hS1 => kk _ _ _ _ hJ hS1)
    | 1, q, ht, hji =>
      obtain ⟨v, h1, s1, h2, s2, fs, gs, q1, q2, o1, o2, r1, r2, r3, hJ⟩ := ht
      refine lv_tableIn (off := 146) (tgt := 179) hx hb d_law_33 (by decide) (by decide) (by decide) (by decide) ?_
      exact L_case_1 X hl hS hi6 q1 q2 o1 o2 hRf hRl r1 r2 r3 (fun H1 locs1 hS1 => kk _ _ _ _ hJ hS1)
    | 2, q, ht, hji =>
      obtain ⟨v, h1, s1, h2, s2, fs, gs, q1, q2, o1, o2, r1, r2, r3, hJ⟩ := ht
      refine lv_tableIn (off := 169) (tgt := 202) hx hb d_law_33 (by decide) (by decide) (by decide) (by decide) ?_
      exact L_case_2 X hl hS hi6 q1 q2 o1 o2 hRf hRl r1 r2 r3 (fun H1 locs1 hS1 => kk _ _ _ _ hJ hS1)
    | 3, q, ht, hji =>
      obtain ⟨v, h1, s1, h2, s2, fs, gs, q1, q2, o1, o2, r1, r2, r3, hJ⟩ := ht
      refine lv_tableIn (off := 182) (tgt := 215) hx hb d_law_33 (by decide) (by decide) (by decide) (by decide) ?_
      exact L_case_3 X hl hS hi6 q1 q2 o1 o2 hRf hRl r1 r2 r3 (fun H1 locs1 hS1 => kk _ _ _ _ hJ hS1)
    | 4, q, ht, hji =>
      obtain ⟨v, h1, s1, h2, s2, fs, gs, q1, q2, o1, o2, r1, r2, r3, hJ⟩ := ht
      refine lv_tableIn (off := 205) (tgt := 238) hx hb d_law_33 (by decide) (by decide) (by decide) (by decide) ?_
      exact L_case_4 X hl hS hi6 q1 q2 o1 o2 hRf hRl r1 r2 r3 (fun H1 locs1 hS1 => kk _ _ _ _ hJ hS1)
    | 5, q, ht, hji =>
      obtain ⟨v, h1, s1, h2, s2, fs, gs, q1, q2, o1, o2, r1, r2, r3, hJ⟩ := ht
      refine lv_tableIn (off := 228) (tgt := 261) hx hb d_law_33 (by decide) (by decide) (by decide) (by decide) ?_
      exact L_case_5 X hl hS hi6 q1 q2 o1 o2 hRf hRl r1 r2 r3 (fun H1 locs1 hS1 => kk _ _ _ _ hJ hS1)
    | 6, q, ht, hji =>
      obtain ⟨v, h1, s1, h2, s2, fs, gs, q1, q2, o1, o2, r1, r2, r3, hJ⟩ := ht
      refine lv_tableIn (off := 251) (tgt := 284) hx hb d_law_33 (by decide) (by decide) (by decide) (by decide) ?_
      exact L_case_6 X hl hS hi6 q1 q2 o1 o2 hRf hRl r1 r2 r3 (fun H1 locs1 hS1 => kk _ _ _ _ hJ hS1)
    | 7, q, ht, hji =>
      obtain ⟨v, h1, s1, h2, s2, fs, gs, q1, q2, o1, o2, r1, r2, r3, hJ⟩ := ht
      refine lv_tableIn (off := 284) (tgt := 317) hx hb d_law_33 (by decide) (by decide) (by decide) (by decide) ?_
      exact L_case_7 X hl hS hi6 q1 q2 o1 o2 hRf hRl r1 r2 r3 (fun H1 locs1 hS1 => kk _ _ _ _ hJ hS1)
    | 8, q, ht, hji =>
      obtain ⟨v, h1, s1, h2, s2, fs, gs, q1, q2, o1, o2, r1, r2, r3, hJ⟩ := ht
      refine lv_tableIn (off := 317) (tgt := 350) hx hb d_law_33 (by decide) (by decide) (by decide) (by decide) ?_
      exact L_case_8 X hl hS hi6 q1 q2 o1 o2 hRf hRl r1 r2 r3 (fun H1 locs1 hS1 => kk _ _ _ _ hJ hS1)
    | 9, q, ht, hji =>
      obtain ⟨v, h1, s1, h2, s2, fs, gs, q1, q2, o1, o2, r1, r2, r3, hJ⟩ := ht
      refine lv_tableIn (off := 356) (tgt := 389) hx hb d_law_33 (by decide) (by decide) (by decide) (by decide) ?_
      exact L_case_9 X hl hS hi6 q1 q2 o1 o2 hRf hRl r1 r2 r3 (fun H1 locs1 hS1 => kk _ _ _ _ hJ hS1)
    | 10, q, ht, hji =>
      obtain ⟨v, h1, s1, h2, s2, fs, gs, q1, q2, o1, o2, r1, r2, r3, hJ⟩ := ht
      refine lv_tableIn (off := 379) (tgt := 412) hx hb d_law_33 (by decide) (by decide) (by decide) (by decide) ?_
      exact L_case_10 X hl hS hi6 q1 q2 o1 o2 hRf hRl r1 r2 r3 (fun H1 locs1 hS1 => kk _ _ _ _ hJ hS1)
    | 11, q, ht, hji =>
      obtain ⟨v, h1, s1, h2, s2, fs, gs, q1, q2, o1, o2, r1, r2, r3, hJ⟩ := ht
      refine lv_tableIn (off := 412) (tgt := 445) hx hb d_law_33 (by decide) (by decide) (by decide) (by decide) ?_
      exact L_case_11 X hl hS hi6 q1 q2 o1 o2 hRf hRl r1 r2 r3 (fun H1 locs1 hS1 => kk _ _ _ _ hJ hS1)
    | 12, q, ht, hji =>
      obtain ⟨v, h1, s1, h2, s2, fs, gs, q1, q2, o1, o2, r1, r2, r3, hJ⟩ := ht
      refine lv_tableIn (off := 435) (tgt := 468) hx hb d_law_33 (by decide) (by decide) (by decide) (by decide) ?_
      exact L_case_12 X hl hS hi6 q1 q2 o1 o2 hRf hRl r1 r2 r3 (fun H1 locs1 hS1 => kk _ _ _ _ hJ hS1)
    | 13, q, ht, hji =>
      obtain ⟨v, h1, s1, h2, s2, fs, gs, q1, q2, o1, o2, r1, r2, r3, hJ⟩ := ht
      refine lv_tableIn (off := 458) (tgt := 491) hx hb d_law_33 (by decide) (by decide) (by decide) (by decide) ?_
      exact L_case_13 X hl hS hi6 q1 q2 o1 o2 hRf hRl r1 r2 r3 (fun H1 locs1 hS1 => kk _ _ _ _ hJ hS1)
    | 14, q, ht, hji =>
      obtain ⟨v, h1, s1, h2, s2, fs, gs, q1, q2, o1, o2, r1, r2, r3, hJ⟩ := ht
      refine lv_tableIn (off := 491) (tgt := 524) hx hb d_law_33 (by decide) (by decide) (by decide) (by decide) ?_
      exact L_case_14 X hl hS hi6 q1 q2 o1 o2 hRf hRl r1 r2 r3 (fun H1 locs1 hS1 => kk _ _ _ _ hJ hS1)
    | 15, q, ht, hji =>
      obtain ⟨v, h1, s1, h2, s2, fs, gs, q1, q2, o1, o2, r1, r2, r3, hJ⟩ := ht
      refine lv_tableIn (off := 514) (tgt := 547) hx hb d_law_33 (by decide) (by decide) (by decide) (by decide) ?_
      exact L_case_15 X hl hS hi6 q1 q2 o1 o2 hRf hRl r1 r2 r3 (fun H1 locs1 hS1 => kk _ _ _ _ hJ hS1)
    | 16, q, ht, hji =>
      obtain ⟨v, h1, s1, h2, s2, fs, gs, q1, q2, o1, o2, r1, r2, r3, hJ⟩ := ht
      refine lv_tableIn (off := 557) (tgt := 590) hx hb d_law_33 (by decide) (by decide) (by decide) (by decide) ?_
      exact L_case_16 X hl hS hi6 q1 q2 o1 o2 hRf hRl r1 r2 r3 (fun H1 locs1 hS1 => kk _ _ _ _ hJ hS1)
    | k + 17, q, ht, hji => exact absurd q (by omega)
  · refine lv_tableOut (tgt := 613) hx hb d_law_33 (Or.inr (by rw [hji]; omega)) (by decide) ?_
    refine kk _ _ _ _ ?_ hS
    match j, q, ht with
    | 0, q, _ => exact absurd q (by omega)
    | 1, q, _ => exact absurd q (by omega)
    | 2, q, _ => exact absurd q (by omega)
    | 3, q, _ => exact absurd q (by omega)
    | 4, q, _ => exact absurd q (by omega)
    | 5, q, _ => exact absurd q (by omega)
    | 6, q, _ => exact absurd q (by omega)
    | 7, q, _ => exact absurd q (by omega)
    | 8, q, _ => exact absurd q (by omega)
    | 9, q, _ => exact absurd q (by omega)
    | 10, q, _ => exact absurd q (by omega)
    | 11, q, _ => exact absurd q (by omega)
    | 12, q, _ => exact absurd q (by omega)
    | 13, q, _ => exact absurd q (by omega)
    | 14, q, _ => exact absurd q (by omega)
    | 15, q, _ => exact absurd q (by omega)
    | 16, q, _ => exact absurd q (by omega)
    | k + 17, _, ht => exact ht
end LC
end
section
theorem L_ao4 : Cond.arrayOver (.object "GramFinder$Row") ∈ lw_tbl := List.mem_of_getElem? (i := 312) (by decide +kernel)
theorem L_ao5 : Cond.arrayOver (.object "GramFinder$Part") ∈ lw_tbl := List.mem_of_getElem? (i := 301) (by decide +kernel)
theorem L_ao6 : Cond.arrayOver (.object "GramFinder$Entry") ∈ lw_tbl := List.mem_of_getElem? (i := 177) (by decide +kernel)
theorem L_ao7 : Cond.arrayOver (.array .byte) ∈ lw_tbl := List.mem_of_getElem? (i := 334) (by decide +kernel)
/-! the law's head, from the start to the loop -/
theorem L_exT {s : State} {args : Array Value} (hts : ∀ w ∈ lw_tbl, w.before args s = true) : ∃ TY : List (ClassId × FieldType), TY.map Prod.snd = E_ATY ∧ ∀ (k : Nat) (q : ClassId × FieldType), TY[k]? = some q → ArrOfT s q.1 q.2 ∧ va_RA s q.1 q.2 := by
  have hp : ∀ ty : FieldType, Cond.arrayClass ty ∈ E_GT → (∀ C, ty ≠ .object C) → ∃ cA, ArrOfT s cA ty ∧ va_RA s cA ty := by
    intro ty hw ho
    obtain ⟨c, k, comp, h1, h2, h3⟩ := Cond.arrayClass_spec (L_gt hts _ hw)
    refine ⟨c, fun n z => ⟨fun k h => (by cases h), k, h2, comp, h3⟩, ?_⟩
    cases ty with
    | object C => exact absurd rfl (ho C)
    | _ => exact h1
  have ho : ∀ C : String, Cond.arrayOver (.object C) ∈ lw_tbl → ∃ cA, ArrOfT s cA (.object C) ∧ va_RA s cA (.object C) := by
    intro C hw
    obtain ⟨comp, c, k, h1, h2, h3, h4, h5⟩ := Cond.arrayOver_spec (hts _ hw)
    exact ⟨c, fun n z => ⟨fun k h => (by cases h), k, h3, comp, h4⟩, k, comp, h3, h4, h1, h5⟩
  obtain ⟨c0, a0⟩ := hp .int E_aw0 (fun C h => by cases h)
  obtain ⟨c1, a1⟩ := hp .byte E_aw1 (fun C h => by cases h)
  obtain ⟨c2, a2⟩ := hp .boolean E_aw2 (fun C h => by cases h)
  obtain ⟨c3, a3⟩ := hp .long E_aw3 (fun C h => by cases h)
  obtain ⟨c4, a4⟩ := ho "GramFinder$Row" L_ao4
  obtain ⟨c5, a5⟩ := ho "GramFinder$Part" L_ao5
  obtain ⟨c6, a6⟩ := ho "GramFinder$Entry" L_ao6
  obtain ⟨c7, a7⟩ : ∃ cA, ArrOfT s cA (.array .byte) ∧ va_RA s cA (.array .byte) := by
    obtain ⟨comp, c, k, h1, h2, h3, h4⟩ := Cond.arrayOver_specA (hts _ L_ao7)
    exact ⟨c, fun n z => ⟨fun k h => (by cases h), k, h2, comp, h3⟩, h4⟩
  refine ⟨[(c0, .int), (c1, .byte), (c2, .boolean), (c3, .long), (c4, .object "GramFinder$Row"), (c5, .object "GramFinder$Part"), (c6, .object "GramFinder$Entry"), (c7, .array .byte)], rfl, fun k q hq => ?_⟩
  match k, hq with
  | 0, hq => cases hq; exact a0
  | 1, hq => cases hq; exact a1
  | 2, hq => cases hq; exact a2
  | 3, hq => cases hq; exact a3
  | 4, hq => cases hq; exact a4
  | 5, hq => cases hq; exact a5
  | 6, hq => cases hq; exact a6
  | 7, hq => cases hq; exact a7
  | k + 8, hq => exact absurd hq (by simp)
theorem L_exD {s : State} {args : Array Value} (hts : ∀ w ∈ lw_tbl, w.before args s = true) : ∃ D : va_G, ∀ (ci : Nat) (q : vw_C), E_CL[ci]? = some q → u_Kn s q.1 q.2.1 q.2.2 (D.1 ci) (D.2 ci) := by
  have h1 : ∀ ci : Nat, ∃ g : ClassId × (Nat → Nat), ∀ q : vw_C, E_CL[ci]? = some q → u_Kn s q.1 q.2.1 q.2.2 g.1 g.2 := by
    intro ci
    cases hq : E_CL[ci]? with
    | none => exact ⟨(0, fun _ => 0), fun q h => by cases h⟩
    | some q =>
      obtain ⟨C, T, N⟩ := q
      obtain ⟨c1, c2, c3, c4, -⟩ := E_cl_ok _ _ _ _ hq
      obtain ⟨cC, iS, hK⟩ := u_known (L_gt hts) c3 (L_gt hts _ c4)
      exact ⟨(cC, iS), fun q h => by cases h; exact hK⟩
  obtain ⟨g, hg⟩ := Classical.axiomOfChoice h1
  exact ⟨(fun k => (g k).1, fun k => (g k).2), fun ci q hq => hg ci q hq⟩
theorem L_NW {s : State} {args : Array Value} (hts : ∀ w ∈ lw_tbl, w.before args s = true) : E_NW s := by
  refine ⟨fun q hq => va_Nw.of rfl (hts _ (E_MN_ok _ (List.mem_map.mpr ⟨q, hq, rfl⟩))), va_AO.of (hts _ L_ao4), va_AO.of (hts _ L_ao5), va_AO.of (hts _ L_ao6), hts _ L_ao7⟩
set_option maxHeartbeats 4000000 in
/-- THE LAW'S LOOP, by turns: J says what holds of the heap behind t turns -/
theorem L_loop {p : Program} {l : Launch} {e : Env} {s : State} {m : MethodId} {below : List Frame} {meth : Method} {c : Code} {D : va_G} {TY : List (ClassId × FieldType)} {b L sz fuel d TT : Nat} {xs : Nat → Int32} {J : Nat → E_H → Nat → Prop} (X : L_X p s m #[Value.ref b] c D TY b L xs sz) (hr : meth.sig.returnType = ret) (hlocks : meth.locks = false) (hd : d ≤ 1000)
    (hJ : ∀ (t : Nat) (h : E_H) (sl : Nat), t < TT → J t h sl → ∀ (a : Nat → Int32) (j : Nat), j < 32 → L_turn fuel d room_1.cells room_1.slots j a h sl (J (t + 1))) (hB : ∀ (t : Nat) (h : E_H) (sl : Nat), J t h sl → h.length ≤ room_1.cells ∧ sl ≤ room_1.slots) (hTT : L < 6 * TT + 6) (hT512 : TT ≤ 512) :
    ∀ (n t : Nat), TT + 1 ≤ t + n → ∀ (h : E_H) (sl : Nat), J t h sl → ∀ (H : Heap) (locs : List Loc) (ls : Array Slot), lv_has ls 4 [(0, .ref b), (1, .ref (sz + 0)), (2, .ref (sz + 83)), (3, .int (nI (6 * t)))] → E_S D TY sz 0 s h H locs → t ≤ TT → W p l e room_1 s m #[Value.ref b] below meth c H locs h.length sl (lw_Z below #[Value.ref b] s) (F0 m 18 ls []) := by
  have hx := X.1
  have hb := X.2.1
  intro n
  induction n with
  | zero => intro t h1 h sl hJt H locs ls hl hS ht; omega
  | succ n ih =>
    intro t h1 h sl hJt H locs ls hl hS ht
    obtain ⟨-, -, hml, hown, hts, hX, hbl, hz, hK, hT, hN, hL⟩ := id X
    refine lv_iload_n hx hb d_law_18 rfl (lv_at hl 3 rfl) ?_
    refine lv_aload_n hx hb d_law_19 rfl (lv_at hl 0 rfl) ?_
    refine va_slen hx hb hX hbl (by show ¬ sz ≤ b; omega) hS.2.1 d_law_20 ?_
    refine lv_bipush (v := 6) hx hb d_law_21 (by decide) ?_
    refine lv_isub hx hb d_law_23 ?_
    have hti : (nI L - nI 6).toInt = (L : Int) - 6 := pk_sub_toInt (by omega) (by omega)
    have hi6 : (nI (6 * t)).toInt = ((6 * t : Nat) : Int) := by
      exact nI_toInt (by omega)
    refine lv_icmp_gt (tgt := 619) hx hb d_law_24 (by decide) (fun cg => ?_) (fun cg => ?_)
    · obtain ⟨b1, b2⟩ := hB t h sl hJt
      refine lv_iconst (v := 1) hx hb d_law_619 (by decide) ?_
      refine va_forget (fun q hq => by rw [hz]; exact hS.2.1.2.2 q hq) ?_
      refine W.widen (k := room_1.cells) (n := room_1.slots) b1 b2 ?_
      exact lw_ret hx hb hr hlocks d_law_620
    · have hle : 6 * t + 6 ≤ L := by
        have c2 : ¬ (nI L - nI 6 < nI (6 * t)) := cg
        rw [Int32.lt_iff_toInt_lt, hti, hi6] at c2
        omega
      obtain ⟨j, hj, hop⟩ := pk_andE (xs (6 * t)) (m := 31) 5 (by decide)
      refine L_disp X hl hS hle hj hop (by show d + 1 ≤ 2048; omega) (by show 48 * (d + 1) ≤ 84000; omega) (hJ t h sl (by omega) hJt (fun k => xs (6 * t + k)) j hj) (fun h2 sl2 H1 locs1 hJ2 hS2 => ?_)
      refine lv_iinc (v := nI (6 * (t + 1))) (k := 3) (lv' := [(3, .int (nI (6 * (t + 1)))), (0, .ref b), (1, .ref (sz + 0)), (2, .ref (sz + 83))]) hx hb d_law_613 hl rfl (by rw [show Int32.ofInt 6 = nI 6 from rfl, nI_add]; rfl) (by decide) rfl (fun ls2 hl2 => ?_)
      refine lv_goto (tgt := 18) hx hb d_law_616 (by decide) ?_
      exact ih (t + 1) (by omega) h2 sl2 hJ2 H1 locs1 ls2 (lv_sub hl2 [1, 2, 3, 0] rfl) hS2 (by omega)
set_option maxHeartbeats 4000000 in
/-- THE LAW, from its entry, out of what the evaluator computes: h2 is the heap behind both constructors -/
theorem L_start {p : Program} {e : Env} {s : State} {m : MethodId} {below : List Frame} {meth : Method} {c : Code} (l : Launch) {b L : Nat} {xs : Nat → Int32} (C0 : lw_At p s m meth c b L xs) {fuel d TT s1 s2 : Nat} {h1 h2 : E_H} {J : Nat → E_H → Nat → Prop} (hd : d ≤ 1000) (hTT : L < 6 * TT + 6) (hT512 : TT ≤ 512)
    (e1 : E_call fuel d 144 [.ref 0] [.inr (11, E_dfl 11)] = some (none, h1, s1)) (l1 : h1.length = 83) (e2 : E_call fuel d 174 [.ref 83] (h1 ++ [.inr (12, E_dfl 12)]) = some (none, h2, s2)) (r1 : h2.length ≤ room_1.cells) (r2 : 0 + 7 + s1 + 74 + s2 ≤ room_1.slots)
    (hJ : ∀ (t : Nat) (h : E_H) (sl : Nat), t < TT → J t h sl → ∀ (a : Nat → Int32) (j : Nat), j < 32 → L_turn fuel d room_1.cells room_1.slots j a h sl (J (t + 1))) (hB : ∀ (t : Nat) (h : E_H) (sl : Nat), J t h sl → h.length ≤ room_1.cells ∧ sl ≤ room_1.slots) (hJ0 : J 0 h2 (0 + 7 + s1 + 74 + s2)) :
    W p l e room_1 s m #[Value.ref b] below meth c s.heap [] 0 0 (lw_Z below #[Value.ref b] s) (entryFrame m ([Value.ref b] : List Value).toArray 4) := by
  obtain ⟨hx, hb, hr, hml, hown, hts, hX, hbl, hlocks, hgv⟩ := id C0
  obtain ⟨TY, hT, hTK⟩ := L_exT hts
  obtain ⟨D, hD⟩ := L_exD hts
  have hK : va_K D E_CL TY s := ⟨fun c q hq => hD c q hq, hTK⟩
  have X : L_X p s m #[Value.ref b] c D TY b L xs s.heap.size := ⟨hx, hb, hml, hown, hts, hX, hbl, rfl, hK, hT, L_NW hts, by omega⟩
  have hl := lv_entry ([.ref b]) (n := 4) (Nat.le_of_ble_eq_true rfl)
  rw [lg_entry_eq]
  generalize (lg_sl ([.ref b]) ++ List.replicate (4 - (lg_sl ([.ref b])).length) Slot.unset).toArray = ls at hl ⊢
  have hl : lv_has ls 4 [(0, .ref b)] := hl
  have hS0 : E_S D TY s.heap.size 0 s [] s.heap [] := ⟨fun k q h => by simp [E_ws] at h, va_S.rf, Nat.zero_le _⟩
  have hRf : d + 1 ≤ room_1.frames := by show d + 1 ≤ 2048; omega
  have hRl : 48 * (d + 1) ≤ room_1.locals := by show 48 * (d + 1) ≤ 84000; omega
  have hl12 : 83 ≤ h2.length := by
    have := E_call_len fuel d 174 E_m174 _ _ _ rfl e2
    rw [List.length_append, l1] at this
    exact Nat.le_of_succ_le this
  show W p l e room_1 s m #[Value.ref b] below meth c s.heap [] ([] : E_H).length 0 (lw_Z below #[Value.ref b] s) (F0 m 0 ls [])
  refine L_new (a := 11) (C := "GramFinder") X hS0 (by decide) rfl l_law_c7 d_law_0 ⟨Nat.le_of_ble_eq_true rfl, Nat.le_of_ble_eq_true rfl⟩ (fun H1 hS1 => ?_)
  refine lv_dup hx hb d_law_3 rfl ?_
  refine L_init (M := E_m144) X hl.1 hS1 rfl e1 rfl (by decide +kernel) rfl rfl l_law_9 d_law_4 hRf hRl (Nat.le_of_ble_eq_true rfl) ⟨by omega, by show 0 + 7 + s1 ≤ _; omega⟩ (fun H2 locs2 hS2 => ?_)
  refine lv_astore_n (lv' := [(1, .ref (s.heap.size + 0)), (0, .ref b)]) hx hb d_law_7 rfl hl (by decide) rfl (fun ls hl => ?_)
  refine L_new (a := 12) (C := "GramFinderModel") X hS2 (by decide) rfl l_law_c10 d_law_8 ⟨by rw [l1]; exact Nat.le_of_ble_eq_true rfl, by show 0 + 7 + s1 + 74 ≤ _; omega⟩ (fun H3 hS3 => ?_)
  rw [l1]
  refine lv_dup hx hb d_law_11 rfl ?_
  refine L_init (M := E_m174) X hl.1 hS3 rfl e2 rfl (by decide +kernel) rfl rfl l_law_12 d_law_12 hRf hRl (Nat.le_of_ble_eq_true rfl) ⟨r1, r2⟩ (fun H4 locs4 hS4 => ?_)
  refine lv_astore_n (lv' := [(2, .ref (s.heap.size + 83)), (1, .ref (s.heap.size + 0)), (0, .ref b)]) hx hb d_law_15 rfl hl (by decide) rfl (fun ls hl => ?_)
  refine lv_iconst (v := 0) hx hb d_law_16 (by decide) ?_
  refine lv_istore_n (lv' := [(3, .int 0), (2, .ref (s.heap.size + 83)), (1, .ref (s.heap.size + 0)), (0, .ref b)]) hx hb d_law_17 rfl hl (by decide) rfl (fun ls hl => ?_)
  exact L_loop X hr hlocks hd hJ hB hTT hT512 (TT + 1) 0 (by omega) h2 _ hJ0 H4 locs4 ls (lv_sub hl [3, 2, 1, 0] rfl) hS4 (Nat.zero_le _)
end
section
/-! steps of the evaluator with numbers that aren't known -/
section SY
variable {orc : Nat → List Value → E_H → Option E_R} {M : E_MI} {h : E_H} {sl n pc a b : Nat} {L : E_L} {st : List Value} {r : Option E_R}
theorem S_go {f f2 : E_F} {h2 : E_H} {s2 : Nat} (hs : E_step orc M f h sl = some (.inl (f2, h2, s2))) (k : E_run orc M n f2 h2 s2 = r) : E_run orc M (n + 1) f h sl = r := by
  unfold E_run
  rw [hs]
  exact k
theorem S_end {f : E_F} {x : E_R} (hs : E_step orc M f h sl = some (.inr x)) : E_run orc M (n + 1) f h sl = some x := by
  unfold E_run
  rw [hs]
theorem S_get {i o : Nat} {fs : List Value} {v : Value} (hf : E_find M.2.2.2.2.2.2.2 pc = some (.getfield i, 3, a, b)) (ho : h[o]? = some (.inr (a, fs))) (hv : fs[b]? = some v) (hN : b < E_N a) (k : E_run orc M n (pc + 3, L, v :: st) h sl = r) : E_run orc M (n + 1) (pc, L, .ref o :: st) h sl = r := by
  refine S_go ?_ k
  unfold E_step
  rw [hf]
  dsimp only
  unfold E_heap E_getf
  dsimp only
  rw [ho]
  dsimp only
  rw [hv]
  dsimp only
  rw [if_pos ⟨rfl, rfl, hN⟩]
  rfl
theorem S_ifc {c0 : Jvm.ClassFile.Cond} {off : Int} {x : Int32} {g : Int32 → Bool} (hg : ∀ f, E_pure M.2.2.2.1 (.ifCond c0 off) 3 f = E_if 3 off f g) (hf : E_find M.2.2.2.2.2.2.2 pc = some (.ifCond c0 off, 3, a, b)) (ht : E_tok pc off = true) (kt : g x = true → E_run orc M n (E_tg pc off, L, st) h sl = r) (kf : g x = false → E_run orc M n (pc + 3, L, st) h sl = r) : E_run orc M (n + 1) (pc, L, .int x :: st) h sl = r := by
  have hs : E_step orc M (pc, L, .int x :: st) h sl = some (.inl ((bif g x then (E_tg pc off, L, st) else (pc + 3, L, st)), h, sl)) := by
    unfold E_step
    rw [hf]
    dsimp only
    unfold E_heap
    dsimp only
    rw [hg]
    unfold E_if
    dsimp only
    rw [if_pos ⟨rfl, ht⟩]
    cases g x <;> rfl
  refine S_go hs ?_
  cases hq : g x
  · exact kf hq
  · exact kt hq
theorem S_icmp {c0 : Jvm.ClassFile.Cond} {off : Int} {x y : Int32} {g : Int32 → Int32 → Bool} (hg : ∀ f, E_pure M.2.2.2.1 (.if_icmp c0 off) 3 f = E_icmp 3 off f g) (hf : E_find M.2.2.2.2.2.2.2 pc = some (.if_icmp c0 off, 3, a, b)) (ht : E_tok pc off = true) (kt : g x y = true → E_run orc M n (E_tg pc off, L, st) h sl = r) (kf : g x y = false → E_run orc M n (pc + 3, L, st) h sl = r) : E_run orc M (n + 1) (pc, L, .int y :: .int x :: st) h sl = r := by
  have hs : E_step orc M (pc, L, .int y :: .int x :: st) h sl = some (.inl ((bif g x y then (E_tg pc off, L, st) else (pc + 3, L, st)), h, sl)) := by
    unfold E_step
    rw [hf]
    dsimp only
    unfold E_heap
    dsimp only
    rw [hg]
    unfold E_icmp
    dsimp only
    rw [if_pos ⟨rfl, ht⟩]
    cases g x y <;> rfl
  refine S_go hs ?_
  cases hq : g x y
  · exact kf hq
  · exact kt hq
/-- a call whose result is known; kind 1: on an object -/
theorem S_callV {i : Nat} {M2 : E_MI} {rest : List Value} {x : Option Value} {h2 : E_H} {s2 o : Nat} {As : List Value} {fs : List Value} (hf : E_find M.2.2.2.2.2.2.2 pc = some (.invokevirtual i, 3, a, b)) (ha : a < 900) (hM : E_mi a = some M2) (hp : E_pop2 (!M2.2.2.2.2.2.1) M2.2.2.2.2.2.2.1 st = some (.ref o :: As, rest)) (hk1 : M2.2.2.2.2.2.1 = false) (hk2 : E_isI M2 = false) (ho : h[o]? = some (.inr (M2.1, fs))) (h13 : M2.1 < 13) (hc : E_catS rest ≤ 8) (hO : orc a (.ref o :: As) h = some (x, h2, s2)) (k : E_run orc M n (pc + 3, L, x.toList ++ rest) h2 (sl + s2) = r) : E_run orc M (n + 1) (pc, L, st) h sl = r := by
  refine S_go ?_ k
  have hkk : E_kok 1 M2 (.ref o :: As) h = true := by
    unfold E_kok E_rcv
    dsimp only
    rw [ho, hk1, hk2]
    simp [h13]
  unfold E_step
  rw [hf]
  dsimp only
  rw [if_pos ⟨rfl, ha⟩]
  unfold E_inv
  rw [hM]
  dsimp only
  rw [hp]
  dsimp only
  rw [if_pos hkk, if_pos hc, hO]
theorem S_putf {i o : Nat} {fs : List Value} {v : Value} (hf : E_find M.2.2.2.2.2.2.2 pc = some (.putfield i, 3, a, b)) (ho : h[o]? = some (.inr (a, fs))) (hN : b < E_N a ∧ b < fs.length ∧ E_fin a b = false ∧ narrow (E_cty a b) v = v ∧ fits (E_cty a b) v = true) (k : E_run orc M n (pc + 3, L, st) (h.set o (.inr (a, fs.set b v))) sl = r) : E_run orc M (n + 1) (pc, L, v :: .ref o :: st) h sl = r := by
  refine S_go ?_ k
  unfold E_step
  rw [hf]
  dsimp only
  unfold E_heap E_putf
  dsimp only
  rw [ho]
  dsimp only
  rw [if_pos ⟨rfl, rfl, hN.1, hN.2.1, Or.inl hN.2.2.1, hN.2.2.2.1, hN.2.2.2.2⟩]
  rfl
theorem S_call {fuel d : Nat} {vs : List Value} (hM : E_mi a = some M) (hl : (lg_sl vs).length ≤ M.2.2.2.1) (k : E_run (E_call fuel d) M fuel (0, lv_args 0 vs, []) h 0 = r) : E_call fuel (d + 1) a vs h = r := by
  unfold E_call
  rw [hM]
  dsimp only
  rw [if_pos hl]
  exact k
end SY
end
section
theorem Z_ge {n : Int32} (h : ¬ n < 0) : 0 ≤ n := by rw [Int32.lt_iff_toInt_lt] at h; rw [Int32.le_iff_toInt_le]; omega
theorem Z_gt {n : Int32} (h : ¬ n < 0) (h0 : ¬ n = 0) : ¬ n ≤ 0 := fun q => h0 (Int32.le_antisymm q (Z_ge h))
theorem Z_m1 {n : Int32} (h : ¬ n < 0) : ¬ n < -1 := by
  intro q
  rw [Int32.lt_iff_toInt_lt] at h q
  have h1 : (-1 : Int32).toInt = -1 := by decide
  have h0 : (0 : Int32).toInt = 0 := by decide
  omega
theorem S_tswo {orc : Nat → List Value → E_H → Option E_R} {M : E_MI} {h : E_H} {sl n pc a b len : Nat} {L : E_L} {st : List Value} {r : Option E_R} {dflt lo hi : Int} {offs : Array Int} {x : Int32} (hf : E_find M.2.2.2.2.2.2.2 pc = some (.tableswitch dflt lo hi offs, len, a, b)) (hx : x.toInt < lo ∨ hi < x.toInt) (ht : E_tok pc dflt = true) (k : E_run orc M n (E_tg pc dflt, L, st) h sl = r) : E_run orc M (n + 1) (pc, L, .int x :: st) h sl = r := by
  refine S_go ?_ k
  have hb : (decide (x.toInt < lo) || decide (hi < x.toInt)) = true := by
    rw [Bool.or_eq_true]
    exact hx.elim (fun q => Or.inl (decide_eq_true q)) (fun q => Or.inr (decide_eq_true q))
  unfold E_step
  rw [hf]
  dsimp only
  unfold E_heap
  dsimp only
  unfold E_pure
  dsimp only
  unfold E_tsw
  dsimp only
  rw [hb]
  dsimp only [cond_true]
  rw [if_pos ht]
  rfl
theorem X_find {h : E_H} (d : Nat) (f : Int32) (O2 : h[2]? = some (.inr (8, [.ref 3, .ref 4, .ref 6, .int 0, .int 0, .int 0]))) : E_call 4000 (d + 1) 101 [.ref 2, .int f] h = some (some (.null), h, 0) := by
  by_cases hn : f < 0
  · refine S_call (M := E_m101) rfl (Nat.le_of_ble_eq_true rfl) ?_
    refine S_go rfl ?_
    refine S_ifc (g := fun x => decide (x < 0)) (fun _ => rfl) rfl rfl (fun _ => ?_) (fun hq => absurd (hn) (of_decide_eq_false hq))
    refine S_go rfl ?_
    exact S_end rfl
  refine S_call (M := E_m101) rfl (Nat.le_of_ble_eq_true rfl) ?_
  refine S_go rfl ?_
  refine S_ifc (g := fun x => decide (x < 0)) (fun _ => rfl) rfl rfl (fun hq => absurd (of_decide_eq_true hq) (hn)) (fun _ => ?_)
  refine S_go rfl ?_
  refine S_go rfl ?_
  refine S_get rfl O2 rfl (by decide) ?_
  refine S_icmp (g := fun x y => decide (y ≤ x)) (fun _ => rfl) rfl rfl (fun _ => ?_) (fun hq => absurd (Z_ge hn) (of_decide_eq_false hq))
  refine S_go rfl ?_
  exact S_end rfl
theorem X_size {h : E_H} (d : Nat) (f : Int32) (O0 : h[0]? = some (.inr (11, [.ref 1, .int 0, .ref 2, .ref 8, .ref 21, .ref 68, .ref 78]))) (O2 : h[2]? = some (.inr (8, [.ref 3, .ref 4, .ref 6, .int 0, .int 0, .int 0]))) : E_call 4000 (d + 2) 150 [.ref 0, .int f] h = some (some (.int (-1)), h, 0) := by
  refine S_call (M := E_m150) rfl (Nat.le_of_ble_eq_true rfl) ?_
  refine S_go rfl ?_
  refine S_get rfl O0 rfl (by decide) ?_
  refine S_go rfl ?_
  refine S_callV (M2 := E_m101) (o := 2) (As := [.int f]) rfl (by decide) rfl rfl rfl (by decide +kernel) O2 (by decide) (Nat.le_of_ble_eq_true rfl) (X_find _ f O2) ?_
  refine S_go rfl ?_
  refine S_go rfl ?_
  refine S_go rfl ?_
  refine S_go rfl ?_
  refine S_go rfl ?_
  exact S_end rfl
theorem X_byteAt {h : E_H} (d : Nat) (f i : Int32) (O0 : h[0]? = some (.inr (11, [.ref 1, .int 0, .ref 2, .ref 8, .ref 21, .ref 68, .ref 78]))) (O2 : h[2]? = some (.inr (8, [.ref 3, .ref 4, .ref 6, .int 0, .int 0, .int 0]))) : E_call 4000 (d + 2) 151 [.ref 0, .int f, .int i] h = some (some (.int (-1)), h, 0) := by
  refine S_call (M := E_m151) rfl (Nat.le_of_ble_eq_true rfl) ?_
  refine S_go rfl ?_
  refine S_get rfl O0 rfl (by decide) ?_
  refine S_go rfl ?_
  refine S_callV (M2 := E_m101) (o := 2) (As := [.int f]) rfl (by decide) rfl rfl rfl (by decide +kernel) O2 (by decide) (Nat.le_of_ble_eq_true rfl) (X_find _ f O2) ?_
  refine S_go rfl ?_
  refine S_go rfl ?_
  refine S_go rfl ?_
  refine S_go rfl ?_
  refine S_go rfl ?_
  exact S_end rfl
theorem X_exch {h : E_H} (d : Nat) (f : Int32) (O2 : h[2]? = some (.inr (8, [.ref 3, .ref 4, .ref 6, .int 0, .int 0, .int 0]))) : E_call 4000 (d + 2) 103 [.ref 2, .int f, .ref 1, .int 0] h = some (some (.int (-1)), h, 0) := by
  refine S_call (M := E_m103) rfl (Nat.le_of_ble_eq_true rfl) ?_
  refine S_go rfl ?_
  refine S_go rfl ?_
  refine S_callV (M2 := E_m101) (o := 2) (As := [.int f]) rfl (by decide) rfl rfl rfl (by decide +kernel) O2 (by decide) (Nat.le_of_ble_eq_true rfl) (X_find _ f O2) ?_
  refine S_go rfl ?_
  refine S_go rfl ?_
  refine S_go rfl ?_
  refine S_go rfl ?_
  exact S_end rfl
theorem X_change {h : E_H} (d : Nat) (f : Int32) (O0 : h[0]? = some (.inr (11, [.ref 1, .int 0, .ref 2, .ref 8, .ref 21, .ref 68, .ref 78]))) (O2 : h[2]? = some (.inr (8, [.ref 3, .ref 4, .ref 6, .int 0, .int 0, .int 0]))) : E_call 4000 (d + 3) 148 [.ref 0, .int f] h = some (some (.int (-1)), h, 0) := by
  refine S_call (M := E_m148) rfl (Nat.le_of_ble_eq_true rfl) ?_
  refine S_go rfl ?_
  refine S_get rfl O0 rfl (by decide) ?_
  refine S_go rfl ?_
  refine S_go rfl ?_
  refine S_get rfl O0 rfl (by decide) ?_
  refine S_go rfl ?_
  refine S_get rfl O0 rfl (by decide) ?_
  refine S_callV (M2 := E_m103) (o := 2) (As := [.int f, .ref 1, .int 0]) rfl (by decide) rfl rfl rfl (by decide +kernel) O2 (by decide) (Nat.le_of_ble_eq_true rfl) (X_exch _ f O2) ?_
  refine S_go rfl ?_
  refine S_go rfl ?_
  refine S_go rfl ?_
  refine S_go rfl ?_
  refine S_go rfl ?_
  exact S_end rfl
theorem X_drop {h : E_H} (d : Nat) (f : Int32) (O2 : h[2]? = some (.inr (8, [.ref 3, .ref 4, .ref 6, .int 0, .int 0, .int 0]))) : E_call 4000 (d + 2) 104 [.ref 2, .int f] h = some (some (.int 0), h, 0) := by
  refine S_call (M := E_m104) rfl (Nat.le_of_ble_eq_true rfl) ?_
  refine S_go rfl ?_
  refine S_go rfl ?_
  refine S_callV (M2 := E_m101) (o := 2) (As := [.int f]) rfl (by decide) rfl rfl rfl (by decide +kernel) O2 (by decide) (Nat.le_of_ble_eq_true rfl) (X_find _ f O2) ?_
  refine S_go rfl ?_
  refine S_go rfl ?_
  refine S_go rfl ?_
  refine S_go rfl ?_
  exact S_end rfl
theorem X_remove {h : E_H} (d : Nat) (f : Int32) (O0 : h[0]? = some (.inr (11, [.ref 1, .int 0, .ref 2, .ref 8, .ref 21, .ref 68, .ref 78]))) (O2 : h[2]? = some (.inr (8, [.ref 3, .ref 4, .ref 6, .int 0, .int 0, .int 0]))) : E_call 4000 (d + 3) 149 [.ref 0, .int f] h = some (some (.int 0), h, 0) := by
  refine S_call (M := E_m149) rfl (Nat.le_of_ble_eq_true rfl) ?_
  refine S_go rfl ?_
  refine S_get rfl O0 rfl (by decide) ?_
  refine S_go rfl ?_
  refine S_callV (M2 := E_m104) (o := 2) (As := [.int f]) rfl (by decide) rfl rfl rfl (by decide +kernel) O2 (by decide) (Nat.le_of_ble_eq_true rfl) (X_drop _ f O2) ?_
  exact S_end rfl
theorem X_holder {h : E_H} (d : Nat) (g i : Int32) (O2 : h[2]? = some (.inr (8, [.ref 3, .ref 4, .ref 6, .int 0, .int 0, .int 0]))) : E_call 4000 (d + 1) 105 [.ref 2, .int g, .int i] h = some (some (.int (-1)), h, 0) := by
  refine S_call (M := E_m105) rfl (Nat.le_of_ble_eq_true rfl) ?_
  refine S_go rfl ?_
  refine S_go rfl ?_
  refine S_go rfl ?_
  refine S_go rfl ?_
  refine S_go rfl ?_
  refine S_go rfl ?_
  refine S_get rfl O2 rfl (by decide) ?_
  refine S_go rfl ?_
  refine S_go rfl ?_
  exact S_end rfl
theorem X_posting {h : E_H} (d : Nat) (g i : Int32) (O0 : h[0]? = some (.inr (11, [.ref 1, .int 0, .ref 2, .ref 8, .ref 21, .ref 68, .ref 78]))) (O2 : h[2]? = some (.inr (8, [.ref 3, .ref 4, .ref 6, .int 0, .int 0, .int 0]))) : E_call 4000 (d + 2) 152 [.ref 0, .int g, .int i] h = some (some (.int (-1)), h, 0) := by
  refine S_call (M := E_m152) rfl (Nat.le_of_ble_eq_true rfl) ?_
  refine S_go rfl ?_
  refine S_get rfl O0 rfl (by decide) ?_
  refine S_go rfl ?_
  refine S_go rfl ?_
  refine S_callV (M2 := E_m105) (o := 2) (As := [.int g, .int i]) rfl (by decide) rfl rfl rfl (by decide +kernel) O2 (by decide) (Nat.le_of_ble_eq_true rfl) (X_holder _ g i O2) ?_
  exact S_end rfl
theorem X_hf {h : E_H} (d : Nat) (i w : Int32) (O78 : h[78]? = some (.inr (6, [.ref 79, .ref 81, .int 0, .int 0, .int 0, .int 0, .int 0]))) : E_call 4000 (d + 1) 86 [.ref 78, .int i, .int w] h = some (some (.int (-1)), h, 0) := by
  by_cases hn : i < 0
  · refine S_call (M := E_m86) rfl (Nat.le_of_ble_eq_true rfl) ?_
    refine S_go rfl ?_
    refine S_ifc (g := fun x => decide (x < 0)) (fun _ => rfl) rfl rfl (fun _ => ?_) (fun hq => absurd (hn) (of_decide_eq_false hq))
    refine S_go rfl ?_
    refine S_go rfl ?_
    refine S_go rfl ?_
    refine S_go rfl ?_
    refine S_go rfl ?_
    exact S_end rfl
  refine S_call (M := E_m86) rfl (Nat.le_of_ble_eq_true rfl) ?_
  refine S_go rfl ?_
  refine S_ifc (g := fun x => decide (x < 0)) (fun _ => rfl) rfl rfl (fun hq => absurd (of_decide_eq_true hq) (hn)) (fun _ => ?_)
  refine S_go rfl ?_
  refine S_go rfl ?_
  refine S_get rfl O78 rfl (by decide) ?_
  refine S_icmp (g := fun x y => decide (y ≤ x)) (fun _ => rfl) rfl rfl (fun _ => ?_) (fun hq => absurd (Z_ge hn) (of_decide_eq_false hq))
  refine S_go rfl ?_
  refine S_go rfl ?_
  refine S_go rfl ?_
  refine S_go rfl ?_
  refine S_go rfl ?_
  exact S_end rfl
theorem X_hit {h : E_H} (d : Nat) (i w : Int32) (O0 : h[0]? = some (.inr (11, [.ref 1, .int 0, .ref 2, .ref 8, .ref 21, .ref 68, .ref 78]))) (O78 : h[78]? = some (.inr (6, [.ref 79, .ref 81, .int 0, .int 0, .int 0, .int 0, .int 0]))) : E_call 4000 (d + 2) 155 [.ref 0, .int i, .int w] h = some (some (.int (-1)), h, 0) := by
  refine S_call (M := E_m155) rfl (Nat.le_of_ble_eq_true rfl) ?_
  refine S_go rfl ?_
  refine S_get rfl O0 rfl (by decide) ?_
  refine S_go rfl ?_
  refine S_go rfl ?_
  refine S_callV (M2 := E_m86) (o := 78) (As := [.int i, .int w]) rfl (by decide) rfl rfl rfl (by decide +kernel) O78 (by decide) (Nat.le_of_ble_eq_true rfl) (X_hf _ i w O78) ?_
  exact S_end rfl
theorem X_at {h : E_H} (d : Nat) (i : Int32) (O79 : h[79]? = some (.inr (7, [.ref 80, .int 0]))) : E_call 4000 (d + 1) 88 [.ref 79, .int i] h = some (some (.int (-1)), h, 0) := by
  by_cases hn : i < 0
  · refine S_call (M := E_m88) rfl (Nat.le_of_ble_eq_true rfl) ?_
    refine S_go rfl ?_
    refine S_ifc (g := fun x => decide (x < 0)) (fun _ => rfl) rfl rfl (fun _ => ?_) (fun hq => absurd (hn) (of_decide_eq_false hq))
    refine S_go rfl ?_
    exact S_end rfl
  refine S_call (M := E_m88) rfl (Nat.le_of_ble_eq_true rfl) ?_
  refine S_go rfl ?_
  refine S_ifc (g := fun x => decide (x < 0)) (fun _ => rfl) rfl rfl (fun hq => absurd (of_decide_eq_true hq) (hn)) (fun _ => ?_)
  refine S_go rfl ?_
  refine S_go rfl ?_
  refine S_get rfl O79 rfl (by decide) ?_
  refine S_icmp (g := fun x y => decide (y ≤ x)) (fun _ => rfl) rfl rfl (fun _ => ?_) (fun hq => absurd (Z_ge hn) (of_decide_eq_false hq))
  refine S_go rfl ?_
  exact S_end rfl
theorem X_on {h : E_H} (d : Nat) (i : Int32) (O78 : h[78]? = some (.inr (6, [.ref 79, .ref 81, .int 0, .int 0, .int 0, .int 0, .int 0]))) (O79 : h[79]? = some (.inr (7, [.ref 80, .int 0]))) : E_call 4000 (d + 2) 85 [.ref 78, .int i] h = some (some (.int (-1)), h, 0) := by
  refine S_call (M := E_m85) rfl (Nat.le_of_ble_eq_true rfl) ?_
  refine S_go rfl ?_
  refine S_get rfl O78 rfl (by decide) ?_
  refine S_go rfl ?_
  refine S_callV (M2 := E_m88) (o := 79) (As := [.int i]) rfl (by decide) rfl rfl rfl (by decide +kernel) O79 (by decide) (Nat.le_of_ble_eq_true rfl) (X_at _ i O79) ?_
  exact S_end rfl
theorem X_opened {h : E_H} (d : Nat) (i : Int32) (O0 : h[0]? = some (.inr (11, [.ref 1, .int 0, .ref 2, .ref 8, .ref 21, .ref 68, .ref 78]))) (O78 : h[78]? = some (.inr (6, [.ref 79, .ref 81, .int 0, .int 0, .int 0, .int 0, .int 0]))) (O79 : h[79]? = some (.inr (7, [.ref 80, .int 0]))) : E_call 4000 (d + 3) 156 [.ref 0, .int i] h = some (some (.int (-1)), h, 0) := by
  refine S_call (M := E_m156) rfl (Nat.le_of_ble_eq_true rfl) ?_
  refine S_go rfl ?_
  refine S_get rfl O0 rfl (by decide) ?_
  refine S_go rfl ?_
  refine S_callV (M2 := E_m85) (o := 78) (As := [.int i]) rfl (by decide) rfl rfl rfl (by decide +kernel) O78 (by decide) (Nat.le_of_ble_eq_true rfl) (X_on _ i O78 O79) ?_
  exact S_end rfl
theorem X_choice {h : E_H} (d : Nat) (i : Int32) (O0 : h[0]? = some (.inr (11, [.ref 1, .int 0, .ref 2, .ref 8, .ref 21, .ref 68, .ref 78]))) (O78 : h[78]? = some (.inr (6, [.ref 79, .ref 81, .int 0, .int 0, .int 0, .int 0, .int 0]))) : E_call 4000 (d + 1) 157 [.ref 0, .int i] h = some (some (.int (-1)), h, 0) := by
  refine S_call (M := E_m157) rfl (Nat.le_of_ble_eq_true rfl) ?_
  refine S_go rfl ?_
  refine S_get rfl O0 rfl (by decide) ?_
  refine S_get rfl O78 rfl (by decide) ?_
  refine S_go rfl ?_
  refine S_go rfl ?_
  exact S_end rfl
theorem X_texts {h : E_H} (d : Nat) (w : Int32) (O0 : h[0]? = some (.inr (11, [.ref 1, .int 0, .ref 2, .ref 8, .ref 21, .ref 68, .ref 78]))) (O78 : h[78]? = some (.inr (6, [.ref 79, .ref 81, .int 0, .int 0, .int 0, .int 0, .int 0]))) : E_call 4000 (d + 1) 159 [.ref 0, .int w] h = some (some (.int (-1)), h, 0) := by
  refine S_call (M := E_m159) rfl (Nat.le_of_ble_eq_true rfl) ?_
  refine S_go rfl ?_
  refine S_get rfl O0 rfl (by decide) ?_
  refine S_get rfl O78 rfl (by decide) ?_
  refine S_go rfl ?_
  refine S_go rfl ?_
  exact S_end rfl
theorem X_text {h : E_H} (d : Nat) (w i k : Int32) (O0 : h[0]? = some (.inr (11, [.ref 1, .int 0, .ref 2, .ref 8, .ref 21, .ref 68, .ref 78]))) (O78 : h[78]? = some (.inr (6, [.ref 79, .ref 81, .int 0, .int 0, .int 0, .int 0, .int 0]))) : E_call 4000 (d + 2) 160 [.ref 0, .int w, .int i, .int k] h = some (some (.int (-1)), h, 0) := by
  by_cases hn : i < 0
  · refine S_call (M := E_m160) rfl (Nat.le_of_ble_eq_true rfl) ?_
    refine S_go rfl ?_
    refine S_ifc (g := fun x => decide (x < 0)) (fun _ => rfl) rfl rfl (fun _ => ?_) (fun hq => absurd (hn) (of_decide_eq_false hq))
    refine S_go rfl ?_
    exact S_end rfl
  refine S_call (M := E_m160) rfl (Nat.le_of_ble_eq_true rfl) ?_
  refine S_go rfl ?_
  refine S_ifc (g := fun x => decide (x < 0)) (fun _ => rfl) rfl rfl (fun hq => absurd (of_decide_eq_true hq) (hn)) (fun _ => ?_)
  refine S_go rfl ?_
  refine S_go rfl ?_
  refine S_go rfl ?_
  refine S_callV (M2 := E_m159) (o := 0) (As := [.int w]) rfl (by decide) rfl rfl rfl (by decide +kernel) O0 (by decide) (Nat.le_of_ble_eq_true rfl) (X_texts _ w O0 O78) ?_
  refine S_icmp (g := fun x y => decide (x < y)) (fun _ => rfl) rfl rfl (fun hq => absurd (of_decide_eq_true hq) (Z_m1 hn)) (fun _ => ?_)
  refine S_go rfl ?_
  exact S_end rfl
theorem X_fault {h : E_H} (d : Nat) (w : Int32) (h0 : ¬ w = 0) (h1 : ¬ w = 1) (O0 : h[0]? = some (.inr (11, [.ref 1, .int 0, .ref 2, .ref 8, .ref 21, .ref 68, .ref 78]))) : E_call 4000 (d + 1) 154 [.ref 0, .int w] h = some (some (.int (-1)), h, 0) := by
  refine S_call (M := E_m154) rfl (Nat.le_of_ble_eq_true rfl) ?_
  refine S_go rfl ?_
  refine S_ifc (g := fun x => decide (x ≠ 0)) (fun _ => rfl) rfl rfl (fun _ => ?_) (fun hq => absurd (h0) (of_decide_eq_false hq))
  refine S_go rfl ?_
  refine S_go rfl ?_
  refine S_icmp (g := fun x y => decide (x ≠ y)) (fun _ => rfl) rfl rfl (fun _ => ?_) (fun hq => absurd (h1) (of_decide_eq_false hq))
  refine S_go rfl ?_
  exact S_end rfl
theorem X_count {h : E_H} (d : Nat) (w : Int32) (hw : w.toInt < 0 ∨ 9 < w.toInt) (O0 : h[0]? = some (.inr (11, [.ref 1, .int 0, .ref 2, .ref 8, .ref 21, .ref 68, .ref 78]))) : E_call 4000 (d + 1) 161 [.ref 0, .int w] h = some (some (.int (-1)), h, 0) := by
  refine S_call (M := E_m161) rfl (Nat.le_of_ble_eq_true rfl) ?_
  refine S_go rfl ?_
  refine S_tswo rfl (hw) rfl ?_
  refine S_go rfl ?_
  exact S_end rfl
theorem X_end {h : E_H} (d : Nat) (n : Int32) (h0 : ¬ n = 0) (O0 : h[0]? = some (.inr (11, [.ref 1, .int 0, .ref 2, .ref 8, .ref 21, .ref 68, .ref 78]))) : E_call 4000 (d + 1) 146 [.ref 0, .int n] h = some (some (.int 0), h, 0) := by
  by_cases hn : n < 0
  · refine S_call (M := E_m146) rfl (Nat.le_of_ble_eq_true rfl) ?_
    refine S_go rfl ?_
    refine S_ifc (g := fun x => decide (x < 0)) (fun _ => rfl) rfl rfl (fun _ => ?_) (fun hq => absurd (hn) (of_decide_eq_false hq))
    refine S_go rfl ?_
    exact S_end rfl
  refine S_call (M := E_m146) rfl (Nat.le_of_ble_eq_true rfl) ?_
  refine S_go rfl ?_
  refine S_ifc (g := fun x => decide (x < 0)) (fun _ => rfl) rfl rfl (fun hq => absurd (of_decide_eq_true hq) (hn)) (fun _ => ?_)
  refine S_go rfl ?_
  refine S_go rfl ?_
  refine S_get rfl O0 rfl (by decide) ?_
  refine S_icmp (g := fun x y => decide (x ≤ y)) (fun _ => rfl) rfl rfl (fun hq => absurd (of_decide_eq_true hq) (Z_gt hn h0)) (fun _ => ?_)
  refine S_go rfl ?_
  exact S_end rfl
theorem Y_isf {h : E_H} (d : Nat) (f : Int32) (O83 : h[83]? = some (.inr (12, [.ref 84, .int 0, .ref 85, .int 0, .ref 86, .ref 87, .ref 88, .int 0, .int 0, .ref 89, .ref 90, .ref 91, .ref 92, .int 0, .ref 93, .int 0, .int 0, .int 0, .int 0, .int 0, .int 0, .int (-1), .int 0, .ref 94, .ref 95, .long 0, .ref 96, .ref 97, .ref 98, .ref 99, .ref 100, .ref 101, .ref 102, .ref 103, .ref 104, .ref 105, .ref 106, .int 0, .ref 107, .ref 108, .ref 109, .int 0, .ref 110, .int 0, .ref 111, .ref 112, .ref 113, .ref 114, .int 0, .ref 115, .ref 116, .ref 117, .ref 118, .ref 119, .ref 120, .ref 121, .int 0, .ref 122, .ref 123, .int 0, .ref 124, .ref 125, .ref 126, .int 0, .ref 127, .ref 128, .ref 129, .ref 130, .int 0, .ref 131, .int 0, .int 0, .int 0, .long 0]))) : E_call 4000 (d + 1) 177 [.ref 83, .int f] h = some (some (.int 0), h, 0) := by
  by_cases hn : f < 0
  · refine S_call (M := E_m177) rfl (Nat.le_of_ble_eq_true rfl) ?_
    refine S_go rfl ?_
    refine S_ifc (g := fun x => decide (x < 0)) (fun _ => rfl) rfl rfl (fun _ => ?_) (fun hq => absurd (hn) (of_decide_eq_false hq))
    refine S_go rfl ?_
    exact S_end rfl
  refine S_call (M := E_m177) rfl (Nat.le_of_ble_eq_true rfl) ?_
  refine S_go rfl ?_
  refine S_ifc (g := fun x => decide (x < 0)) (fun _ => rfl) rfl rfl (fun hq => absurd (of_decide_eq_true hq) (hn)) (fun _ => ?_)
  refine S_go rfl ?_
  refine S_go rfl ?_
  refine S_get rfl O83 rfl (by decide) ?_
  refine S_icmp (g := fun x y => decide (y ≤ x)) (fun _ => rfl) rfl rfl (fun _ => ?_) (fun hq => absurd (Z_ge hn) (of_decide_eq_false hq))
  refine S_go rfl ?_
  exact S_end rfl
theorem Y_size {h : E_H} (d : Nat) (f : Int32) (O83 : h[83]? = some (.inr (12, [.ref 84, .int 0, .ref 85, .int 0, .ref 86, .ref 87, .ref 88, .int 0, .int 0, .ref 89, .ref 90, .ref 91, .ref 92, .int 0, .ref 93, .int 0, .int 0, .int 0, .int 0, .int 0, .int 0, .int (-1), .int 0, .ref 94, .ref 95, .long 0, .ref 96, .ref 97, .ref 98, .ref 99, .ref 100, .ref 101, .ref 102, .ref 103, .ref 104, .ref 105, .ref 106, .int 0, .ref 107, .ref 108, .ref 109, .int 0, .ref 110, .int 0, .ref 111, .ref 112, .ref 113, .ref 114, .int 0, .ref 115, .ref 116, .ref 117, .ref 118, .ref 119, .ref 120, .ref 121, .int 0, .ref 122, .ref 123, .int 0, .ref 124, .ref 125, .ref 126, .int 0, .ref 127, .ref 128, .ref 129, .ref 130, .int 0, .ref 131, .int 0, .int 0, .int 0, .long 0]))) : E_call 4000 (d + 2) 183 [.ref 83, .int f] h = some (some (.int (-1)), h, 0) := by
  refine S_call (M := E_m183) rfl (Nat.le_of_ble_eq_true rfl) ?_
  refine S_go rfl ?_
  refine S_go rfl ?_
  refine S_callV (M2 := E_m177) (o := 83) (As := [.int f]) rfl (by decide) rfl rfl rfl (by decide +kernel) O83 (by decide) (Nat.le_of_ble_eq_true rfl) (Y_isf _ f O83) ?_
  refine S_go rfl ?_
  refine S_go rfl ?_
  exact S_end rfl
theorem Y_byteAt {h : E_H} (d : Nat) (f i : Int32) (O83 : h[83]? = some (.inr (12, [.ref 84, .int 0, .ref 85, .int 0, .ref 86, .ref 87, .ref 88, .int 0, .int 0, .ref 89, .ref 90, .ref 91, .ref 92, .int 0, .ref 93, .int 0, .int 0, .int 0, .int 0, .int 0, .int 0, .int (-1), .int 0, .ref 94, .ref 95, .long 0, .ref 96, .ref 97, .ref 98, .ref 99, .ref 100, .ref 101, .ref 102, .ref 103, .ref 104, .ref 105, .ref 106, .int 0, .ref 107, .ref 108, .ref 109, .int 0, .ref 110, .int 0, .ref 111, .ref 112, .ref 113, .ref 114, .int 0, .ref 115, .ref 116, .ref 117, .ref 118, .ref 119, .ref 120, .ref 121, .int 0, .ref 122, .ref 123, .int 0, .ref 124, .ref 125, .ref 126, .int 0, .ref 127, .ref 128, .ref 129, .ref 130, .int 0, .ref 131, .int 0, .int 0, .int 0, .long 0]))) : E_call 4000 (d + 2) 184 [.ref 83, .int f, .int i] h = some (some (.int (-1)), h, 0) := by
  refine S_call (M := E_m184) rfl (Nat.le_of_ble_eq_true rfl) ?_
  refine S_go rfl ?_
  refine S_go rfl ?_
  refine S_callV (M2 := E_m177) (o := 83) (As := [.int f]) rfl (by decide) rfl rfl rfl (by decide +kernel) O83 (by decide) (Nat.le_of_ble_eq_true rfl) (Y_isf _ f O83) ?_
  refine S_go rfl ?_
  refine S_go rfl ?_
  exact S_end rfl
theorem Y_change {h : E_H} (d : Nat) (f : Int32) (O83 : h[83]? = some (.inr (12, [.ref 84, .int 0, .ref 85, .int 0, .ref 86, .ref 87, .ref 88, .int 0, .int 0, .ref 89, .ref 90, .ref 91, .ref 92, .int 0, .ref 93, .int 0, .int 0, .int 0, .int 0, .int 0, .int 0, .int (-1), .int 0, .ref 94, .ref 95, .long 0, .ref 96, .ref 97, .ref 98, .ref 99, .ref 100, .ref 101, .ref 102, .ref 103, .ref 104, .ref 105, .ref 106, .int 0, .ref 107, .ref 108, .ref 109, .int 0, .ref 110, .int 0, .ref 111, .ref 112, .ref 113, .ref 114, .int 0, .ref 115, .ref 116, .ref 117, .ref 118, .ref 119, .ref 120, .ref 121, .int 0, .ref 122, .ref 123, .int 0, .ref 124, .ref 125, .ref 126, .int 0, .ref 127, .ref 128, .ref 129, .ref 130, .int 0, .ref 131, .int 0, .int 0, .int 0, .long 0]))) : E_call 4000 (d + 2) 181 [.ref 83, .int f] h = some (some (.int (-1)), h, 0) := by
  refine S_call (M := E_m181) rfl (Nat.le_of_ble_eq_true rfl) ?_
  refine S_go rfl ?_
  refine S_go rfl ?_
  refine S_callV (M2 := E_m177) (o := 83) (As := [.int f]) rfl (by decide) rfl rfl rfl (by decide +kernel) O83 (by decide) (Nat.le_of_ble_eq_true rfl) (Y_isf _ f O83) ?_
  refine S_go rfl ?_
  refine S_go rfl ?_
  exact S_end rfl
theorem Y_remove {h : E_H} (d : Nat) (f : Int32) (O83 : h[83]? = some (.inr (12, [.ref 84, .int 0, .ref 85, .int 0, .ref 86, .ref 87, .ref 88, .int 0, .int 0, .ref 89, .ref 90, .ref 91, .ref 92, .int 0, .ref 93, .int 0, .int 0, .int 0, .int 0, .int 0, .int 0, .int (-1), .int 0, .ref 94, .ref 95, .long 0, .ref 96, .ref 97, .ref 98, .ref 99, .ref 100, .ref 101, .ref 102, .ref 103, .ref 104, .ref 105, .ref 106, .int 0, .ref 107, .ref 108, .ref 109, .int 0, .ref 110, .int 0, .ref 111, .ref 112, .ref 113, .ref 114, .int 0, .ref 115, .ref 116, .ref 117, .ref 118, .ref 119, .ref 120, .ref 121, .int 0, .ref 122, .ref 123, .int 0, .ref 124, .ref 125, .ref 126, .int 0, .ref 127, .ref 128, .ref 129, .ref 130, .int 0, .ref 131, .int 0, .int 0, .int 0, .long 0]))) : E_call 4000 (d + 2) 182 [.ref 83, .int f] h = some (some (.int 0), h, 0) := by
  refine S_call (M := E_m182) rfl (Nat.le_of_ble_eq_true rfl) ?_
  refine S_go rfl ?_
  refine S_go rfl ?_
  refine S_callV (M2 := E_m177) (o := 83) (As := [.int f]) rfl (by decide) rfl rfl rfl (by decide +kernel) O83 (by decide) (Nat.le_of_ble_eq_true rfl) (Y_isf _ f O83) ?_
  refine S_go rfl ?_
  refine S_go rfl ?_
  exact S_end rfl
theorem Y_posting {h : E_H} (d : Nat) (g i : Int32) (O83 : h[83]? = some (.inr (12, [.ref 84, .int 0, .ref 85, .int 0, .ref 86, .ref 87, .ref 88, .int 0, .int 0, .ref 89, .ref 90, .ref 91, .ref 92, .int 0, .ref 93, .int 0, .int 0, .int 0, .int 0, .int 0, .int 0, .int (-1), .int 0, .ref 94, .ref 95, .long 0, .ref 96, .ref 97, .ref 98, .ref 99, .ref 100, .ref 101, .ref 102, .ref 103, .ref 104, .ref 105, .ref 106, .int 0, .ref 107, .ref 108, .ref 109, .int 0, .ref 110, .int 0, .ref 111, .ref 112, .ref 113, .ref 114, .int 0, .ref 115, .ref 116, .ref 117, .ref 118, .ref 119, .ref 120, .ref 121, .int 0, .ref 122, .ref 123, .int 0, .ref 124, .ref 125, .ref 126, .int 0, .ref 127, .ref 128, .ref 129, .ref 130, .int 0, .ref 131, .int 0, .int 0, .int 0, .long 0]))) : E_call 4000 (d + 1) 186 [.ref 83, .int g, .int i] h = some (some (.int (-1)), h, 0) := by
  refine S_call (M := E_m186) rfl (Nat.le_of_ble_eq_true rfl) ?_
  refine S_go rfl ?_
  refine S_go rfl ?_
  refine S_go rfl ?_
  refine S_go rfl ?_
  refine S_go rfl ?_
  refine S_go rfl ?_
  refine S_get rfl O83 rfl (by decide) ?_
  refine S_go rfl ?_
  refine S_go rfl ?_
  exact S_end rfl
theorem Y_fault {h : E_H} (d : Nat) (w : Int32) (h0 : ¬ w = 0) (h1 : ¬ w = 1) (O83 : h[83]? = some (.inr (12, [.ref 84, .int 0, .ref 85, .int 0, .ref 86, .ref 87, .ref 88, .int 0, .int 0, .ref 89, .ref 90, .ref 91, .ref 92, .int 0, .ref 93, .int 0, .int 0, .int 0, .int 0, .int 0, .int 0, .int (-1), .int 0, .ref 94, .ref 95, .long 0, .ref 96, .ref 97, .ref 98, .ref 99, .ref 100, .ref 101, .ref 102, .ref 103, .ref 104, .ref 105, .ref 106, .int 0, .ref 107, .ref 108, .ref 109, .int 0, .ref 110, .int 0, .ref 111, .ref 112, .ref 113, .ref 114, .int 0, .ref 115, .ref 116, .ref 117, .ref 118, .ref 119, .ref 120, .ref 121, .int 0, .ref 122, .ref 123, .int 0, .ref 124, .ref 125, .ref 126, .int 0, .ref 127, .ref 128, .ref 129, .ref 130, .int 0, .ref 131, .int 0, .int 0, .int 0, .long 0]))) : E_call 4000 (d + 1) 277 [.ref 83, .int w] h = some (some (.int (-1)), h, 0) := by
  refine S_call (M := E_m277) rfl (Nat.le_of_ble_eq_true rfl) ?_
  refine S_go rfl ?_
  refine S_ifc (g := fun x => decide (x ≠ 0)) (fun _ => rfl) rfl rfl (fun _ => ?_) (fun hq => absurd (h0) (of_decide_eq_false hq))
  refine S_go rfl ?_
  refine S_go rfl ?_
  refine S_icmp (g := fun x y => decide (x ≠ y)) (fun _ => rfl) rfl rfl (fun _ => ?_) (fun hq => absurd (h1) (of_decide_eq_false hq))
  refine S_go rfl ?_
  exact S_end rfl
theorem Y_hit {h : E_H} (d : Nat) (i w : Int32) (O83 : h[83]? = some (.inr (12, [.ref 84, .int 0, .ref 85, .int 0, .ref 86, .ref 87, .ref 88, .int 0, .int 0, .ref 89, .ref 90, .ref 91, .ref 92, .int 0, .ref 93, .int 0, .int 0, .int 0, .int 0, .int 0, .int 0, .int (-1), .int 0, .ref 94, .ref 95, .long 0, .ref 96, .ref 97, .ref 98, .ref 99, .ref 100, .ref 101, .ref 102, .ref 103, .ref 104, .ref 105, .ref 106, .int 0, .ref 107, .ref 108, .ref 109, .int 0, .ref 110, .int 0, .ref 111, .ref 112, .ref 113, .ref 114, .int 0, .ref 115, .ref 116, .ref 117, .ref 118, .ref 119, .ref 120, .ref 121, .int 0, .ref 122, .ref 123, .int 0, .ref 124, .ref 125, .ref 126, .int 0, .ref 127, .ref 128, .ref 129, .ref 130, .int 0, .ref 131, .int 0, .int 0, .int 0, .long 0]))) : E_call 4000 (d + 1) 278 [.ref 83, .int i, .int w] h = some (some (.int (-1)), h, 0) := by
  by_cases hn : i < 0
  · refine S_call (M := E_m278) rfl (Nat.le_of_ble_eq_true rfl) ?_
    refine S_go rfl ?_
    refine S_ifc (g := fun x => decide (x < 0)) (fun _ => rfl) rfl rfl (fun _ => ?_) (fun hq => absurd (hn) (of_decide_eq_false hq))
    refine S_go rfl ?_
    exact S_end rfl
  refine S_call (M := E_m278) rfl (Nat.le_of_ble_eq_true rfl) ?_
  refine S_go rfl ?_
  refine S_ifc (g := fun x => decide (x < 0)) (fun _ => rfl) rfl rfl (fun hq => absurd (of_decide_eq_true hq) (hn)) (fun _ => ?_)
  refine S_go rfl ?_
  refine S_go rfl ?_
  refine S_get rfl O83 rfl (by decide) ?_
  refine S_icmp (g := fun x y => decide (x < y)) (fun _ => rfl) rfl rfl (fun hq => absurd (of_decide_eq_true hq) (hn)) (fun _ => ?_)
  refine S_go rfl ?_
  exact S_end rfl
theorem Y_opened {h : E_H} (d : Nat) (i : Int32) (O83 : h[83]? = some (.inr (12, [.ref 84, .int 0, .ref 85, .int 0, .ref 86, .ref 87, .ref 88, .int 0, .int 0, .ref 89, .ref 90, .ref 91, .ref 92, .int 0, .ref 93, .int 0, .int 0, .int 0, .int 0, .int 0, .int 0, .int (-1), .int 0, .ref 94, .ref 95, .long 0, .ref 96, .ref 97, .ref 98, .ref 99, .ref 100, .ref 101, .ref 102, .ref 103, .ref 104, .ref 105, .ref 106, .int 0, .ref 107, .ref 108, .ref 109, .int 0, .ref 110, .int 0, .ref 111, .ref 112, .ref 113, .ref 114, .int 0, .ref 115, .ref 116, .ref 117, .ref 118, .ref 119, .ref 120, .ref 121, .int 0, .ref 122, .ref 123, .int 0, .ref 124, .ref 125, .ref 126, .int 0, .ref 127, .ref 128, .ref 129, .ref 130, .int 0, .ref 131, .int 0, .int 0, .int 0, .long 0]))) : E_call 4000 (d + 1) 279 [.ref 83, .int i] h = some (some (.int (-1)), h, 0) := by
  by_cases hn : i < 0
  · refine S_call (M := E_m279) rfl (Nat.le_of_ble_eq_true rfl) ?_
    refine S_go rfl ?_
    refine S_ifc (g := fun x => decide (x < 0)) (fun _ => rfl) rfl rfl (fun _ => ?_) (fun hq => absurd (hn) (of_decide_eq_false hq))
    refine S_go rfl ?_
    exact S_end rfl
  refine S_call (M := E_m279) rfl (Nat.le_of_ble_eq_true rfl) ?_
  refine S_go rfl ?_
  refine S_ifc (g := fun x => decide (x < 0)) (fun _ => rfl) rfl rfl (fun hq => absurd (of_decide_eq_true hq) (hn)) (fun _ => ?_)
  refine S_go rfl ?_
  refine S_go rfl ?_
  refine S_get rfl O83 rfl (by decide) ?_
  refine S_icmp (g := fun x y => decide (y ≤ x)) (fun _ => rfl) rfl rfl (fun _ => ?_) (fun hq => absurd (Z_ge hn) (of_decide_eq_false hq))
  refine S_go rfl ?_
  exact S_end rfl
theorem Y_choice {h : E_H} (d : Nat) (i : Int32) (O83 : h[83]? = some (.inr (12, [.ref 84, .int 0, .ref 85, .int 0, .ref 86, .ref 87, .ref 88, .int 0, .int 0, .ref 89, .ref 90, .ref 91, .ref 92, .int 0, .ref 93, .int 0, .int 0, .int 0, .int 0, .int 0, .int 0, .int (-1), .int 0, .ref 94, .ref 95, .long 0, .ref 96, .ref 97, .ref 98, .ref 99, .ref 100, .ref 101, .ref 102, .ref 103, .ref 104, .ref 105, .ref 106, .int 0, .ref 107, .ref 108, .ref 109, .int 0, .ref 110, .int 0, .ref 111, .ref 112, .ref 113, .ref 114, .int 0, .ref 115, .ref 116, .ref 117, .ref 118, .ref 119, .ref 120, .ref 121, .int 0, .ref 122, .ref 123, .int 0, .ref 124, .ref 125, .ref 126, .int 0, .ref 127, .ref 128, .ref 129, .ref 130, .int 0, .ref 131, .int 0, .int 0, .int 0, .long 0]))) : E_call 4000 (d + 1) 280 [.ref 83, .int i] h = some (some (.int (-1)), h, 0) := by
  refine S_call (M := E_m280) rfl (Nat.le_of_ble_eq_true rfl) ?_
  refine S_go rfl ?_
  refine S_get rfl O83 rfl (by decide) ?_
  refine S_go rfl ?_
  refine S_go rfl ?_
  exact S_end rfl
theorem Y_gram {h : E_H} (d : Nat) (i k : Int32) (O83 : h[83]? = some (.inr (12, [.ref 84, .int 0, .ref 85, .int 0, .ref 86, .ref 87, .ref 88, .int 0, .int 0, .ref 89, .ref 90, .ref 91, .ref 92, .int 0, .ref 93, .int 0, .int 0, .int 0, .int 0, .int 0, .int 0, .int (-1), .int 0, .ref 94, .ref 95, .long 0, .ref 96, .ref 97, .ref 98, .ref 99, .ref 100, .ref 101, .ref 102, .ref 103, .ref 104, .ref 105, .ref 106, .int 0, .ref 107, .ref 108, .ref 109, .int 0, .ref 110, .int 0, .ref 111, .ref 112, .ref 113, .ref 114, .int 0, .ref 115, .ref 116, .ref 117, .ref 118, .ref 119, .ref 120, .ref 121, .int 0, .ref 122, .ref 123, .int 0, .ref 124, .ref 125, .ref 126, .int 0, .ref 127, .ref 128, .ref 129, .ref 130, .int 0, .ref 131, .int 0, .int 0, .int 0, .long 0]))) : E_call 4000 (d + 1) 281 [.ref 83, .int i, .int k] h = some (some (.int (-1)), h, 0) := by
  refine S_call (M := E_m281) rfl (Nat.le_of_ble_eq_true rfl) ?_
  refine S_go rfl ?_
  refine S_get rfl O83 rfl (by decide) ?_
  refine S_go rfl ?_
  refine S_go rfl ?_
  exact S_end rfl
theorem Y_texts {h : E_H} (d : Nat) (w : Int32) (O83 : h[83]? = some (.inr (12, [.ref 84, .int 0, .ref 85, .int 0, .ref 86, .ref 87, .ref 88, .int 0, .int 0, .ref 89, .ref 90, .ref 91, .ref 92, .int 0, .ref 93, .int 0, .int 0, .int 0, .int 0, .int 0, .int 0, .int (-1), .int 0, .ref 94, .ref 95, .long 0, .ref 96, .ref 97, .ref 98, .ref 99, .ref 100, .ref 101, .ref 102, .ref 103, .ref 104, .ref 105, .ref 106, .int 0, .ref 107, .ref 108, .ref 109, .int 0, .ref 110, .int 0, .ref 111, .ref 112, .ref 113, .ref 114, .int 0, .ref 115, .ref 116, .ref 117, .ref 118, .ref 119, .ref 120, .ref 121, .int 0, .ref 122, .ref 123, .int 0, .ref 124, .ref 125, .ref 126, .int 0, .ref 127, .ref 128, .ref 129, .ref 130, .int 0, .ref 131, .int 0, .int 0, .int 0, .long 0]))) : E_call 4000 (d + 1) 282 [.ref 83, .int w] h = some (some (.int (-1)), h, 0) := by
  refine S_call (M := E_m282) rfl (Nat.le_of_ble_eq_true rfl) ?_
  refine S_go rfl ?_
  refine S_get rfl O83 rfl (by decide) ?_
  refine S_go rfl ?_
  refine S_go rfl ?_
  exact S_end rfl
theorem Y_text {h : E_H} (d : Nat) (w i k : Int32) (O83 : h[83]? = some (.inr (12, [.ref 84, .int 0, .ref 85, .int 0, .ref 86, .ref 87, .ref 88, .int 0, .int 0, .ref 89, .ref 90, .ref 91, .ref 92, .int 0, .ref 93, .int 0, .int 0, .int 0, .int 0, .int 0, .int 0, .int (-1), .int 0, .ref 94, .ref 95, .long 0, .ref 96, .ref 97, .ref 98, .ref 99, .ref 100, .ref 101, .ref 102, .ref 103, .ref 104, .ref 105, .ref 106, .int 0, .ref 107, .ref 108, .ref 109, .int 0, .ref 110, .int 0, .ref 111, .ref 112, .ref 113, .ref 114, .int 0, .ref 115, .ref 116, .ref 117, .ref 118, .ref 119, .ref 120, .ref 121, .int 0, .ref 122, .ref 123, .int 0, .ref 124, .ref 125, .ref 126, .int 0, .ref 127, .ref 128, .ref 129, .ref 130, .int 0, .ref 131, .int 0, .int 0, .int 0, .long 0]))) : E_call 4000 (d + 1) 283 [.ref 83, .int w, .int i, .int k] h = some (some (.int (-1)), h, 0) := by
  refine S_call (M := E_m283) rfl (Nat.le_of_ble_eq_true rfl) ?_
  refine S_go rfl ?_
  refine S_get rfl O83 rfl (by decide) ?_
  refine S_go rfl ?_
  refine S_go rfl ?_
  exact S_end rfl
theorem Y_count {h : E_H} (d : Nat) (w : Int32) (hw : w.toInt < 0 ∨ 9 < w.toInt) (O83 : h[83]? = some (.inr (12, [.ref 84, .int 0, .ref 85, .int 0, .ref 86, .ref 87, .ref 88, .int 0, .int 0, .ref 89, .ref 90, .ref 91, .ref 92, .int 0, .ref 93, .int 0, .int 0, .int 0, .int 0, .int 0, .int 0, .int (-1), .int 0, .ref 94, .ref 95, .long 0, .ref 96, .ref 97, .ref 98, .ref 99, .ref 100, .ref 101, .ref 102, .ref 103, .ref 104, .ref 105, .ref 106, .int 0, .ref 107, .ref 108, .ref 109, .int 0, .ref 110, .int 0, .ref 111, .ref 112, .ref 113, .ref 114, .int 0, .ref 115, .ref 116, .ref 117, .ref 118, .ref 119, .ref 120, .ref 121, .int 0, .ref 122, .ref 123, .int 0, .ref 124, .ref 125, .ref 126, .int 0, .ref 127, .ref 128, .ref 129, .ref 130, .int 0, .ref 131, .int 0, .int 0, .int 0, .long 0]))) : E_call 4000 (d + 1) 284 [.ref 83, .int w] h = some (some (.int (-1)), h, 0) := by
  refine S_call (M := E_m284) rfl (Nat.le_of_ble_eq_true rfl) ?_
  refine S_go rfl ?_
  refine S_tswo rfl (hw) rfl ?_
  refine S_go rfl ?_
  exact S_end rfl
theorem Y_end {h : E_H} (d : Nat) (n : Int32) (h0 : ¬ n = 0) (O83 : h[83]? = some (.inr (12, [.ref 84, .int 0, .ref 85, .int 0, .ref 86, .ref 87, .ref 88, .int 0, .int 0, .ref 89, .ref 90, .ref 91, .ref 92, .int 0, .ref 93, .int 0, .int 0, .int 0, .int 0, .int 0, .int 0, .int (-1), .int 0, .ref 94, .ref 95, .long 0, .ref 96, .ref 97, .ref 98, .ref 99, .ref 100, .ref 101, .ref 102, .ref 103, .ref 104, .ref 105, .ref 106, .int 0, .ref 107, .ref 108, .ref 109, .int 0, .ref 110, .int 0, .ref 111, .ref 112, .ref 113, .ref 114, .int 0, .ref 115, .ref 116, .ref 117, .ref 118, .ref 119, .ref 120, .ref 121, .int 0, .ref 122, .ref 123, .int 0, .ref 124, .ref 125, .ref 126, .int 0, .ref 127, .ref 128, .ref 129, .ref 130, .int 0, .ref 131, .int 0, .int 0, .int 0, .long 0]))) : E_call 4000 (d + 1) 176 [.ref 83, .int n] h = some (some (.int 0), h, 0) := by
  by_cases hn : n < 0
  · refine S_call (M := E_m176) rfl (Nat.le_of_ble_eq_true rfl) ?_
    refine S_go rfl ?_
    refine S_ifc (g := fun x => decide (x < 0)) (fun _ => rfl) rfl rfl (fun _ => ?_) (fun hq => absurd (hn) (of_decide_eq_false hq))
    refine S_go rfl ?_
    exact S_end rfl
  refine S_call (M := E_m176) rfl (Nat.le_of_ble_eq_true rfl) ?_
  refine S_go rfl ?_
  refine S_ifc (g := fun x => decide (x < 0)) (fun _ => rfl) rfl rfl (fun hq => absurd (of_decide_eq_true hq) (hn)) (fun _ => ?_)
  refine S_go rfl ?_
  refine S_go rfl ?_
  refine S_get rfl O83 rfl (by decide) ?_
  refine S_icmp (g := fun x y => decide (x ≤ y)) (fun _ => rfl) rfl rfl (fun hq => absurd (of_decide_eq_true hq) (Z_gt hn h0)) (fun _ => ?_)
  refine S_go rfl ?_
  exact S_end rfl
end
section
/-! one call on a fresh object: the evaluator at work -/
def P_m (x : Option E_R) (f : E_H → Nat → Bool) : Bool := match x with
  | some (none, h, s) => f h s
  | _ => false
def P_m3 (x : Option E_R) (o : Nat) (f : E_H → Nat → Bool) : Bool := match x with
  | some (some (.ref k), h, s) => k == o && f h s
  | _ => false
def P_le (a b : Nat) : Bool := decide (a ≤ b)
theorem P_le_ok {a b : Nat} (h : P_le a b = true) : a ≤ b := of_decide_eq_true h
theorem P_opt {x : Option E_R} {f : E_H → Nat → Bool} (h : P_m x f = true) : ∃ hh s, x = some (none, hh, s) ∧ f hh s = true := by
  unfold P_m at h
  split at h
  · exact ⟨_, _, rfl, h⟩
  · cases h
def P_gh (x : Option E_R) : E_H := match x with
  | some r => r.2.1
  | none => []
def P_gs (x : Option E_R) : Nat := match x with
  | some r => r.2.2
  | none => 0
theorem P_opt2 {x : Option E_R} {f : E_H → Nat → Bool} (h : P_m x f = true) : x = some (none, P_gh x, P_gs x) ∧ f (P_gh x) (P_gs x) = true := by
  obtain ⟨hh, s, e, k⟩ := P_opt h
  subst e
  exact ⟨rfl, k⟩
theorem P_opt3 {x : Option E_R} {o : Nat} {f : E_H → Nat → Bool} (h : P_m3 x o f = true) : x = some (some (.ref o), P_gh x, P_gs x) ∧ f (P_gh x) (P_gs x) = true := by
  unfold P_m3 at h
  split at h
  · rename_i k hh s
    rw [Bool.and_eq_true, beq_iff_eq] at h
    obtain ⟨rfl, h2⟩ := h
    exact ⟨rfl, h2⟩
  · cases h
def E_isO (x : Option E_O) (ci : Nat) (fs : List Value) : Bool := match x with
  | some (.inr (c, f)) => decide (c = ci) && decide (f = fs)
  | _ => false
theorem E_isO_ok {x : Option E_O} {ci : Nat} {fs : List Value} (h : E_isO x ci fs = true) : x = some (.inr (ci, fs)) := by
  unfold E_isO at h
  split at h
  · rw [Bool.and_eq_true] at h
    rw [of_decide_eq_true h.1, of_decide_eq_true h.2]
  · cases h
def P_r1 : Option E_R := E_call 4000 60 144 [.ref 0] [.inr (11, E_dfl 11)]
def P_f1 (h : E_H) (s : Nat) : Bool := h.length == 83
theorem P_k1 : P_m P_r1 P_f1 = true := by decide +kernel
def P_r2 : Option E_R := E_call 4000 60 174 [.ref 83] (P_gh P_r1 ++ [.inr (12, E_dfl 12)])
def P_f2 (h : E_H) (s : Nat) : Bool := P_le h.length 1000 && P_le (0 + 7 + P_gs P_r1 + 74 + s) 2000000 && E_isO h[0]? 11 [.ref 1, .int 0, .ref 2, .ref 8, .ref 21, .ref 68, .ref 78] && E_isO h[2]? 8 [.ref 3, .ref 4, .ref 6, .int 0, .int 0, .int 0] && E_isO h[21]? 5 [.ref 9, .ref 22, .ref 23, .ref 26, .ref 29, .ref 31, .ref 33, .ref 35, .ref 37, .ref 48, .ref 49] && E_isO h[78]? 6 [.ref 79, .ref 81, .int 0, .int 0, .int 0, .int 0, .int 0] && E_isO h[79]? 7 [.ref 80, .int 0] && E_isO h[83]? 12 [.ref 84, .int 0, .ref 85, .int 0, .ref 86, .ref 87, .ref 88, .int 0, .int 0, .ref 89, .ref 90, .ref 91, .ref 92, .int 0, .ref 93, .int 0, .int 0, .int 0, .int 0, .int 0, .int 0, .int (-1), .int 0, .ref 94, .ref 95, .long 0, .ref 96, .ref 97, .ref 98, .ref 99, .ref 100, .ref 101, .ref 102, .ref 103, .ref 104, .ref 105, .ref 106, .int 0, .ref 107, .ref 108, .ref 109, .int 0, .ref 110, .int 0, .ref 111, .ref 112, .ref 113, .ref 114, .int 0, .ref 115, .ref 116, .ref 117, .ref 118, .ref 119, .ref 120, .ref 121, .int 0, .ref 122, .ref 123, .int 0, .ref 124, .ref 125, .ref 126, .int 0, .ref 127, .ref 128, .ref 129, .ref 130, .int 0, .ref 131, .int 0, .int 0, .int 0, .long 0]
set_option maxRecDepth 100000 in
theorem P_k2 : P_m P_r2 P_f2 = true := by decide +kernel
def P_h : E_H := P_gh P_r2
def P_sl : Nat := 0 + 7 + P_gs P_r1 + 74 + P_gs P_r2
def P_r3 : Option E_R := E_call 4000 59 55 [.ref 21] P_h
def P_f3 (h : E_H) (s : Nat) : Bool := P_le h.length 1000 && P_le s 2000000 && E_isO h[0]? 11 [.ref 1, .int 0, .ref 2, .ref 8, .ref 21, .ref 68, .ref 78] && E_isO h[78]? 6 [.ref 79, .ref 81, .int 0, .int 0, .int 0, .int 0, .int 0] && E_isO h[83]? 12 [.ref 84, .int 0, .ref 85, .int 0, .ref 86, .ref 87, .ref 88, .int 0, .int 0, .ref 89, .ref 90, .ref 91, .ref 92, .int 0, .ref 93, .int 0, .int 0, .int 0, .int 0, .int 0, .int 0, .int (-1), .int 0, .ref 94, .ref 95, .long 0, .ref 96, .ref 97, .ref 98, .ref 99, .ref 100, .ref 101, .ref 102, .ref 103, .ref 104, .ref 105, .ref 106, .int 0, .ref 107, .ref 108, .ref 109, .int 0, .ref 110, .int 0, .ref 111, .ref 112, .ref 113, .ref 114, .int 0, .ref 115, .ref 116, .ref 117, .ref 118, .ref 119, .ref 120, .ref 121, .int 0, .ref 122, .ref 123, .int 0, .ref 124, .ref 125, .ref 126, .int 0, .ref 127, .ref 128, .ref 129, .ref 130, .int 0, .ref 131, .int 0, .int 0, .int 0, .long 0] && E_isO h[132]? 4 [.int 0, .int 0, .ref 133, .ref 144, .ref 146, .ref 148]
set_option maxRecDepth 100000 in
theorem P_k3 : P_m3 P_r3 132 P_f3 = true := by decide +kernel
def P_w : E_H := P_gh P_r3
end
section
theorem P_fa : P_h[0]? = some (.inr (11, [.ref 1, .int 0, .ref 2, .ref 8, .ref 21, .ref 68, .ref 78])) ∧ P_h[2]? = some (.inr (8, [.ref 3, .ref 4, .ref 6, .int 0, .int 0, .int 0])) ∧ P_h[21]? = some (.inr (5, [.ref 9, .ref 22, .ref 23, .ref 26, .ref 29, .ref 31, .ref 33, .ref 35, .ref 37, .ref 48, .ref 49])) ∧ P_h[78]? = some (.inr (6, [.ref 79, .ref 81, .int 0, .int 0, .int 0, .int 0, .int 0])) ∧ P_h[79]? = some (.inr (7, [.ref 80, .int 0])) ∧ P_h[83]? = some (.inr (12, [.ref 84, .int 0, .ref 85, .int 0, .ref 86, .ref 87, .ref 88, .int 0, .int 0, .ref 89, .ref 90, .ref 91, .ref 92, .int 0, .ref 93, .int 0, .int 0, .int 0, .int 0, .int 0, .int 0, .int (-1), .int 0, .ref 94, .ref 95, .long 0, .ref 96, .ref 97, .ref 98, .ref 99, .ref 100, .ref 101, .ref 102, .ref 103, .ref 104, .ref 105, .ref 106, .int 0, .ref 107, .ref 108, .ref 109, .int 0, .ref 110, .int 0, .ref 111, .ref 112, .ref 113, .ref 114, .int 0, .ref 115, .ref 116, .ref 117, .ref 118, .ref 119, .ref 120, .ref 121, .int 0, .ref 122, .ref 123, .int 0, .ref 124, .ref 125, .ref 126, .int 0, .ref 127, .ref 128, .ref 129, .ref 130, .int 0, .ref 131, .int 0, .int 0, .int 0, .long 0])) ∧ P_h.length ≤ 1000 ∧ P_sl ≤ 2000000 := by
  have h := (P_opt2 P_k2).2
  unfold P_f2 at h
  simp only [Bool.and_eq_true] at h
  obtain ⟨⟨⟨⟨⟨⟨⟨h1, h2⟩, o0⟩, o2⟩, o21⟩, o78⟩, o79⟩, o83⟩ := h
  unfold P_h P_sl
  exact ⟨E_isO_ok o0, E_isO_ok o2, E_isO_ok o21, E_isO_ok o78, E_isO_ok o79, E_isO_ok o83, P_le_ok h1, P_le_ok h2⟩
theorem P_fw : P_w[0]? = some (.inr (11, [.ref 1, .int 0, .ref 2, .ref 8, .ref 21, .ref 68, .ref 78])) ∧ P_w[78]? = some (.inr (6, [.ref 79, .ref 81, .int 0, .int 0, .int 0, .int 0, .int 0])) ∧ P_w[83]? = some (.inr (12, [.ref 84, .int 0, .ref 85, .int 0, .ref 86, .ref 87, .ref 88, .int 0, .int 0, .ref 89, .ref 90, .ref 91, .ref 92, .int 0, .ref 93, .int 0, .int 0, .int 0, .int 0, .int 0, .int 0, .int (-1), .int 0, .ref 94, .ref 95, .long 0, .ref 96, .ref 97, .ref 98, .ref 99, .ref 100, .ref 101, .ref 102, .ref 103, .ref 104, .ref 105, .ref 106, .int 0, .ref 107, .ref 108, .ref 109, .int 0, .ref 110, .int 0, .ref 111, .ref 112, .ref 113, .ref 114, .int 0, .ref 115, .ref 116, .ref 117, .ref 118, .ref 119, .ref 120, .ref 121, .int 0, .ref 122, .ref 123, .int 0, .ref 124, .ref 125, .ref 126, .int 0, .ref 127, .ref 128, .ref 129, .ref 130, .int 0, .ref 131, .int 0, .int 0, .int 0, .long 0])) ∧ P_w[132]? = some (.inr (4, [.int 0, .int 0, .ref 133, .ref 144, .ref 146, .ref 148])) ∧ P_w.length ≤ 1000 ∧ P_gs P_r3 ≤ 2000000 := by
  have h := (P_opt3 P_k3).2
  unfold P_f3 at h
  simp only [Bool.and_eq_true] at h
  obtain ⟨⟨⟨⟨⟨h1, h2⟩, o0⟩, o78⟩, o83⟩, ow⟩ := h
  unfold P_w
  exact ⟨E_isO_ok o0, E_isO_ok o78, E_isO_ok o83, E_isO_ok ow, P_le_ok h1, P_le_ok h2⟩
/-- what holds behind t turns: at most one is made -/
def P_J (t : Nat) (h : E_H) (sl : Nat) : Prop := (t = 0 → h = P_h ∧ sl = P_sl) ∧ h.length ≤ room_1.cells ∧ sl ≤ room_1.slots
theorem P_two {x y : Nat} {as : List Int32} {v : Int32} (q1 : E_call 4000 60 x (.ref 0 :: as.map Value.int) P_h = some (some (.int v), P_h, 0)) (q2 : E_call 4000 60 y (.ref 83 :: as.map Value.int) P_h = some (some (.int v), P_h, 0)) : L_two 4000 60 x y room_1.cells room_1.slots as P_h P_sl (P_J 1) := by
  obtain ⟨o0, -, -, -, -, o83, l1, l2⟩ := P_fa
  have r1 : P_h.length ≤ room_1.cells := Nat.le_trans l1 (Nat.le_of_ble_eq_true rfl)
  have r9 : 2000000 ≤ room_1.slots := Nat.le_of_ble_eq_true rfl
  have r2 : P_sl + 0 + 0 ≤ room_1.slots := by omega
  exact ⟨v, P_h, 0, P_h, 0, _, _, q1, q2, o0, o83, r1, r1, r2, fun h => absurd h (by decide), r1, r2⟩
/-- closed turns, by computing -/
def P_is12 (x : Option E_O) : Bool := match x with
  | some (.inr (ci, _)) => ci == 12
  | _ => false
theorem P_is12_ok {x : Option E_O} (h : P_is12 x = true) : ∃ gs, x = some (.inr (12, gs)) := by
  unfold P_is12 at h
  split at h
  · rw [beq_iff_eq] at h
    rw [h]
    exact ⟨_, rfl⟩
  · cases h
def P_chk (x y : Nat) (as : List Int32) : Bool := match E_call 4000 60 x (.ref 0 :: as.map Value.int) P_h with
  | some (some (.int v), h1, s1) => P_is12 h1[83]? && P_le h1.length 600000 && (match E_call 4000 60 y (.ref 83 :: as.map Value.int) h1 with
    | some (some (.int w), h2, s2) => decide (v = w) && P_le h2.length 600000 && P_le (P_sl + s1 + s2) 2100000
    | _ => false)
  | _ => false
theorem P_chk_two {x y : Nat} {as : List Int32} (h : P_chk x y as = true) : L_two 4000 60 x y room_1.cells room_1.slots as P_h P_sl (P_J 1) := by
  unfold P_chk at h
  split at h
  · rename_i v h1 s1 e1
    simp only [Bool.and_eq_true] at h
    obtain ⟨⟨c1, c2⟩, c3⟩ := h
    obtain ⟨gs, e83⟩ := P_is12_ok c1
    split at c3
    · rename_i w h2 s2 e2
      simp only [Bool.and_eq_true] at c3
      obtain ⟨⟨d1, d2⟩, d3⟩ := c3
      have d1 := of_decide_eq_true d1
      subst d1
      have r0 : 600000 ≤ room_1.cells := Nat.le_of_ble_eq_true rfl
      have r9 : 2100000 ≤ room_1.slots := Nat.le_of_ble_eq_true rfl
      have r1 : h1.length ≤ room_1.cells := Nat.le_trans (P_le_ok c2) r0
      have r2 : h2.length ≤ room_1.cells := Nat.le_trans (P_le_ok d2) r0
      have r3 : P_sl + s1 + s2 ≤ room_1.slots := Nat.le_trans (P_le_ok d3) r9
      exact ⟨v, h1, s1, h2, s2, _, _, e1, e2, P_fa.1, e83, r1, r2, r3, fun h => absurd h (by decide), r2, r3⟩
    · cases c3
  · cases h
theorem X_gram {h w : E_H} {sw : Nat} (i k : Int32) (O0 : h[0]? = some (.inr (11, [.ref 1, .int 0, .ref 2, .ref 8, .ref 21, .ref 68, .ref 78]))) (O21 : h[21]? = some (.inr (5, [.ref 9, .ref 22, .ref 23, .ref 26, .ref 29, .ref 31, .ref 33, .ref 35, .ref 37, .ref 48, .ref 49]))) (W0 : w[0]? = some (.inr (11, [.ref 1, .int 0, .ref 2, .ref 8, .ref 21, .ref 68, .ref 78]))) (W78 : w[78]? = some (.inr (6, [.ref 79, .ref 81, .int 0, .int 0, .int 0, .int 0, .int 0]))) (W132 : w[132]? = some (.inr (4, [.int 0, .int 0, .ref 133, .ref 144, .ref 146, .ref 148]))) (hq : E_call 4000 59 55 [.ref 21] h = some (some (.ref 132), w, sw)) : E_call 4000 60 158 [.ref 0, .int i, .int k] h = some (some (.int (-1)), w, 0 + sw) := by
  refine S_call (M := E_m158) rfl (Nat.le_of_ble_eq_true rfl) ?_
  refine S_go rfl ?_
  refine S_get rfl O0 rfl (by decide) ?_
  refine S_callV (M2 := E_m55) (o := 21) (As := []) rfl (by decide) rfl rfl rfl (by decide +kernel) O21 (by decide) (Nat.le_of_ble_eq_true rfl) hq ?_
  refine S_get rfl W132 rfl (by decide) ?_
  refine S_go rfl ?_
  refine S_go rfl ?_
  refine S_get rfl W0 rfl (by decide) ?_
  refine S_get rfl W78 rfl (by decide) ?_
  refine S_go rfl ?_
  refine S_go rfl ?_
  exact S_end rfl
end
section
theorem P_x_gram (i k : Int32) : E_call 4000 60 158 [.ref 0, .int i, .int k] P_h = some (some (.int (-1)), P_w, 0 + P_gs P_r3) := by
  obtain ⟨O0, -, O21, -, -, -, -⟩ := P_fa
  obtain ⟨W0, W78, -, W132, -⟩ := P_fw
  exact X_gram i k O0 O21 W0 W78 W132 (P_opt3 P_k3).1
theorem P_gram (i k : Int32) : L_two 4000 60 158 281 room_1.cells room_1.slots [i, k] P_h P_sl (P_J 1) := by
  obtain ⟨o0, -, -, -, -, -, l1, l2⟩ := P_fa
  obtain ⟨-, -, W83, -, l3, l4⟩ := P_fw
  have r1 : P_w.length ≤ room_1.cells := Nat.le_trans l3 (Nat.le_of_ble_eq_true rfl)
  have r9 : 4000000 ≤ room_1.slots := Nat.le_of_ble_eq_true rfl
  have r2 : P_sl + (0 + P_gs P_r3) + 0 ≤ room_1.slots := by omega
  exact ⟨-1, P_w, 0 + P_gs P_r3, P_w, 0, _, _, P_x_gram i k, Y_gram 59 i k W83, o0, W83, r1, r1, r2, fun h => absurd h (by decide), r1, r2⟩
end
section
set_option maxRecDepth 100000 in
theorem P_z_add : P_chk 147 180 [] = true := by decide +kernel
set_option maxRecDepth 100000 in
theorem P_z_s0 : P_chk 153 276 [0] = true := by decide +kernel
set_option maxRecDepth 100000 in
theorem P_z_s1 : P_chk 153 276 [1] = true := by decide +kernel
set_option maxRecDepth 100000 in
theorem P_z_f0 : P_chk 154 277 [0] = true := by decide +kernel
set_option maxRecDepth 100000 in
theorem P_z_f1 : P_chk 154 277 [1] = true := by decide +kernel
set_option maxRecDepth 100000 in
theorem P_z_e0 : P_chk 146 176 [0] = true := by decide +kernel
set_option maxRecDepth 100000 in
theorem P_z_c0 : P_chk 161 284 [nI 0] = true := by decide +kernel
set_option maxRecDepth 100000 in
theorem P_z_c1 : P_chk 161 284 [nI 1] = true := by decide +kernel
set_option maxRecDepth 100000 in
theorem P_z_c2 : P_chk 161 284 [nI 2] = true := by decide +kernel
set_option maxRecDepth 100000 in
theorem P_z_c3 : P_chk 161 284 [nI 3] = true := by decide +kernel
set_option maxRecDepth 100000 in
theorem P_z_c4 : P_chk 161 284 [nI 4] = true := by decide +kernel
set_option maxRecDepth 100000 in
theorem P_z_c5 : P_chk 161 284 [nI 5] = true := by decide +kernel
set_option maxRecDepth 100000 in
theorem P_z_c6 : P_chk 161 284 [nI 6] = true := by decide +kernel
set_option maxRecDepth 100000 in
theorem P_z_c7 : P_chk 161 284 [nI 7] = true := by decide +kernel
set_option maxRecDepth 100000 in
theorem P_z_c8 : P_chk 161 284 [nI 8] = true := by decide +kernel
set_option maxRecDepth 100000 in
theorem P_z_c9 : P_chk 161 284 [nI 9] = true := by decide +kernel
end
section
/-! feed: what comes onto the tape isn't known, how much is -/
def T_W (Φ : E_R → Prop) (x : Option E_R) : Prop := ∃ r, x = some r ∧ Φ r
theorem T_of {Φ : E_R → Prop} {x y : Option E_R} (e : x = y) (k : T_W Φ y) : T_W Φ x := e ▸ k
section TY
variable {orc : Nat → List Value → E_H → Option E_R} {M : E_MI} {h : E_H} {sl n pc a b : Nat} {L : E_L} {st : List Value} {Φ : E_R → Prop}
theorem T_end {f : E_F} {x : E_R} (hs : E_step orc M f h sl = some (.inr x)) (k : Φ x) : T_W Φ (E_run orc M (n + 1) f h sl) := ⟨x, S_end hs, k⟩
theorem T_putf {i o : Nat} {fs : List Value} {v : Value} (hf : E_find M.2.2.2.2.2.2.2 pc = some (.putfield i, 3, a, b)) (ho : h[o]? = some (.inr (a, fs))) (hN : b < E_N a ∧ b < fs.length ∧ E_fin a b = false ∧ narrow (E_cty a b) v = v ∧ fits (E_cty a b) v = true) (k : ∀ h2 : E_H, h2[o]? = some (.inr (a, fs.set b v)) → (∀ j, j ≠ o → h2[j]? = h[j]?) → h2.length = h.length → T_W Φ (E_run orc M n (pc + 3, L, st) h2 sl)) : T_W Φ (E_run orc M (n + 1) (pc, L, v :: .ref o :: st) h sl) := by
  have hl : o < h.length := (List.getElem?_eq_some_iff.mp ho).1
  refine T_of (S_putf hf ho hN rfl) (k _ ?_ (fun j hj => ?_) (List.length_set ..))
  · rw [List.getElem?_set, if_pos rfl, if_pos hl]
  · rw [List.getElem?_set, if_neg (fun e => hj e.symm)]
theorem T_bst {o m : Nat} {g : Nat → Int32} {x i : Int32} (hf : E_find M.2.2.2.2.2.2.2 pc = some (.bastore, 1, a, b)) (ho : h[o]? = some (.inl (1, m, .inl g))) (hi : E_inb i m = true) (k : ∀ (h2 : E_H) (g2 : Nat → Int32), h2[o]? = some (.inl (1, m, .inl g2)) → (∀ j, j ≠ o → h2[j]? = h[j]?) → h2.length = h.length → T_W Φ (E_run orc M n (pc + 1, L, st) h2 sl)) : T_W Φ (E_run orc M (n + 1) (pc, L, .int x :: .int i :: .ref o :: st) h sl) := by
  have hl : o < h.length := (List.getElem?_eq_some_iff.mp ho).1
  refine T_of (S_go (f2 := (pc + 1, L, st)) (h2 := h.set o (.inl (1, m, .inl (upd g i.toNatClampNeg (vp_nar .byte x))))) (s2 := sl) ?_ rfl) (k _ (upd g i.toNatClampNeg (vp_nar .byte x)) ?_ (fun j hj => ?_) (List.length_set ..))
  · unfold E_step
    rw [hf]
    dsimp only
    unfold E_heap E_bst
    dsimp only
    rw [ho]
    dsimp only
    rw [if_pos ⟨rfl, hi⟩, if_pos rfl]
    rfl
  · rw [List.getElem?_set, if_pos rfl, if_pos hl]
  · rw [List.getElem?_set, if_neg (fun e => hj e.symm)]
theorem T_ast {o m : Nat} {g : Nat → Int32} {x i : Int32} (hf : E_find M.2.2.2.2.2.2.2 pc = some (.iastore, 1, a, b)) (ho : h[o]? = some (.inl (0, m, .inl g))) (hi : E_inb i m = true) (k : ∀ (h2 : E_H) (g2 : Nat → Int32), h2[o]? = some (.inl (0, m, .inl g2)) → (∀ j, j ≠ o → h2[j]? = h[j]?) → h2.length = h.length → T_W Φ (E_run orc M n (pc + 1, L, st) h2 sl)) : T_W Φ (E_run orc M (n + 1) (pc, L, .int x :: .int i :: .ref o :: st) h sl) := by
  have hl : o < h.length := (List.getElem?_eq_some_iff.mp ho).1
  refine T_of (S_go (f2 := (pc + 1, L, st)) (h2 := h.set o (.inl (0, m, .inl (upd g i.toNatClampNeg x)))) (s2 := sl) ?_ rfl) (k _ (upd g i.toNatClampNeg x) ?_ (fun j hj => ?_) (List.length_set ..))
  · unfold E_step
    rw [hf]
    dsimp only
    unfold E_heap E_ast
    dsimp only
    rw [ho]
    dsimp only
    rw [if_pos ⟨rfl, rfl, hi⟩]
    rfl
  · rw [List.getElem?_set, if_pos rfl, if_pos hl]
  · rw [List.getElem?_set, if_neg (fun e => hj e.symm)]
theorem T_alen {o t m : Nat} {g : Nat → Int32} (hf : E_find M.2.2.2.2.2.2.2 pc = some (.arraylength, 1, a, b)) (ho : h[o]? = some (.inl (t, m, .inl g))) (ht : t < 8) (k : T_W Φ (E_run orc M n (pc + 1, L, .int (Int32.ofNat m) :: st) h sl)) : T_W Φ (E_run orc M (n + 1) (pc, L, .ref o :: st) h sl) := by
  refine T_of (S_go (f2 := (pc + 1, L, .int (Int32.ofNat m) :: st)) (h2 := h) (s2 := sl) ?_ rfl) k
  unfold E_step
  rw [hf]
  dsimp only
  unfold E_heap E_alen
  dsimp only
  rw [ho]
  dsimp only
  rw [if_pos ⟨rfl, ht⟩]
  rfl
theorem T_callV {i : Nat} {M2 : E_MI} {rest : List Value} {o : Nat} {As : List Value} {fs : List Value} {Ψ : E_R → Prop} (hf : E_find M.2.2.2.2.2.2.2 pc = some (.invokevirtual i, 3, a, b)) (ha : a < 900) (hM : E_mi a = some M2) (hp : E_pop2 (!M2.2.2.2.2.2.1) M2.2.2.2.2.2.2.1 st = some (.ref o :: As, rest)) (hk1 : M2.2.2.2.2.2.1 = false) (hk2 : E_isI M2 = false) (ho : h[o]? = some (.inr (M2.1, fs))) (h13 : M2.1 < 13) (hc : E_catS rest ≤ 8) (hO : T_W Ψ (orc a (.ref o :: As) h)) (k : ∀ (x : Option Value) (h2 : E_H) (s2 : Nat), Ψ (x, h2, s2) → T_W Φ (E_run orc M n (pc + 3, L, x.toList ++ rest) h2 (sl + s2))) : T_W Φ (E_run orc M (n + 1) (pc, L, st) h sl) := by
  obtain ⟨⟨x, h2, s2⟩, e, hΨ⟩ := hO
  exact T_of (S_callV hf ha hM hp hk1 hk2 ho h13 hc e rfl) (k x h2 s2 hΨ)
end TY
theorem T_call {fuel d a : Nat} {M : E_MI} {vs : List Value} {h : E_H} {Φ : E_R → Prop} (hM : E_mi a = some M) (hl : (lg_sl vs).length ≤ M.2.2.2.1) (k : T_W Φ (E_run (E_call fuel d) M fuel (0, lv_args 0 vs, []) h 0)) : T_W Φ (E_call fuel (d + 1) a vs h) := T_of (S_call hM hl rfl) k
set_option maxRecDepth 100000 in
theorem X_wn0 {h : E_H} {g : Nat → Int32} (d : Nat) (v : Int32) (OM : h[0]? = some (.inr (11, [.ref 1, .int 0, .ref 2, .ref 8, .ref 21, .ref 68, .ref 78]))) (OA : h[1]? = some (.inl (1, 1000, .inl g))) : T_W (fun r => match r with | (x, h2, s2) => x = none ∧ s2 = 0 ∧ h2[0]? = some (.inr (11, [.ref 1, .int 4, .ref 2, .ref 8, .ref 21, .ref 68, .ref 78])) ∧ (∃ g2, h2[1]? = some (.inl (1, 1000, .inl g2))) ∧ (∀ j, j ≠ 0 → j ≠ 1 → h2[j]? = h[j]?) ∧ h2.length = h.length) (E_call 4000 (d + 1) 162 [.ref 0, .int v] h) := by
  refine T_call (M := E_m162) rfl (Nat.le_of_ble_eq_true rfl) ?_
  refine T_of (S_go rfl rfl) ?_
  refine T_of (S_go rfl rfl) ?_
  refine T_of (S_go rfl rfl) ?_
  refine T_of (S_go rfl rfl) ?_
  refine T_of (S_go rfl rfl) ?_
  refine T_of (S_get rfl OM rfl (by decide) rfl) ?_
  refine T_of (S_go rfl rfl) ?_
  show T_W _ (E_run _ E_m162 3993 (14, [(2, .int 24), (0, .ref 0), (1, .int v)], []) _ 0)
  refine T_of (S_go rfl rfl) ?_
  refine T_of (S_get rfl OM rfl (by decide) rfl) ?_
  refine T_of (S_go rfl rfl) ?_
  refine T_of (S_get rfl OM rfl (by decide) rfl) ?_
  refine T_alen rfl OA (by decide) ?_
  refine T_of (S_go rfl rfl) ?_
  show T_W _ (E_run _ E_m162 3987 (26, [(2, .int 24), (0, .ref 0), (1, .int v)], []) _ 0)
  refine T_of (S_go rfl rfl) ?_
  refine T_of (S_get rfl OM rfl (by decide) rfl) ?_
  refine T_of (S_go rfl rfl) ?_
  refine T_of (S_get rfl OM rfl (by decide) rfl) ?_
  refine T_of (S_go rfl rfl) ?_
  refine T_of (S_go rfl rfl) ?_
  refine T_of (S_go rfl rfl) ?_
  refine T_of (S_go rfl rfl) ?_
  refine T_bst rfl OA (by decide) (fun h1 g1 oa1 ek1 el1 => ?_)
  have om1 := (ek1 0 (by decide)).trans OM
  show T_W _ (E_run _ E_m162 3978 (39, [(2, .int 24), (0, .ref 0), (1, .int v)], []) _ 0)
  refine T_of (S_go rfl rfl) ?_
  refine T_of (S_go rfl rfl) ?_
  refine T_of (S_get rfl om1 rfl (by decide) rfl) ?_
  refine T_of (S_go rfl rfl) ?_
  refine T_of (S_go rfl rfl) ?_
  refine T_putf rfl om1 (by decide +kernel) (fun h2 oz2 ek2 el2 => ?_)
  have om2 : h2[0]? = some (.inr (11, [.ref 1, .int 1, .ref 2, .ref 8, .ref 21, .ref 68, .ref 78])) := oz2
  have oa2 := (ek2 1 (by decide)).trans oa1
  show T_W _ (E_run _ E_m162 3972 (49, [(2, .int 24), (0, .ref 0), (1, .int v)], []) _ 0)
  refine T_of (S_go rfl rfl) ?_
  refine T_of (S_go rfl rfl) ?_
  refine T_of (S_go rfl rfl) ?_
  refine T_of (S_go rfl rfl) ?_
  refine T_of (S_go rfl rfl) ?_
  refine T_of (S_get rfl om2 rfl (by decide) rfl) ?_
  refine T_of (S_go rfl rfl) ?_
  show T_W _ (E_run _ E_m162 3965 (14, [(2, .int 16), (0, .ref 0), (1, .int v)], []) _ 0)
  refine T_of (S_go rfl rfl) ?_
  refine T_of (S_get rfl om2 rfl (by decide) rfl) ?_
  refine T_of (S_go rfl rfl) ?_
  refine T_of (S_get rfl om2 rfl (by decide) rfl) ?_
  refine T_alen rfl oa2 (by decide) ?_
  refine T_of (S_go rfl rfl) ?_
  show T_W _ (E_run _ E_m162 3959 (26, [(2, .int 16), (0, .ref 0), (1, .int v)], []) _ 0)
  refine T_of (S_go rfl rfl) ?_
  refine T_of (S_get rfl om2 rfl (by decide) rfl) ?_
  refine T_of (S_go rfl rfl) ?_
  refine T_of (S_get rfl om2 rfl (by decide) rfl) ?_
  refine T_of (S_go rfl rfl) ?_
  refine T_of (S_go rfl rfl) ?_
  refine T_of (S_go rfl rfl) ?_
  refine T_of (S_go rfl rfl) ?_
  refine T_bst rfl oa2 (by decide) (fun h3 g3 oa3 ek3 el3 => ?_)
  have om3 := (ek3 0 (by decide)).trans om2
  show T_W _ (E_run _ E_m162 3950 (39, [(2, .int 16), (0, .ref 0), (1, .int v)], []) _ 0)
  refine T_of (S_go rfl rfl) ?_
  refine T_of (S_go rfl rfl) ?_
  refine T_of (S_get rfl om3 rfl (by decide) rfl) ?_
  refine T_of (S_go rfl rfl) ?_
  refine T_of (S_go rfl rfl) ?_
  refine T_putf rfl om3 (by decide +kernel) (fun h4 oz4 ek4 el4 => ?_)
  have om4 : h4[0]? = some (.inr (11, [.ref 1, .int 2, .ref 2, .ref 8, .ref 21, .ref 68, .ref 78])) := oz4
  have oa4 := (ek4 1 (by decide)).trans oa3
  show T_W _ (E_run _ E_m162 3944 (49, [(2, .int 16), (0, .ref 0), (1, .int v)], []) _ 0)
  refine T_of (S_go rfl rfl) ?_
  refine T_of (S_go rfl rfl) ?_
  refine T_of (S_go rfl rfl) ?_
  refine T_of (S_go rfl rfl) ?_
  refine T_of (S_go rfl rfl) ?_
  refine T_of (S_get rfl om4 rfl (by decide) rfl) ?_
  refine T_of (S_go rfl rfl) ?_
  show T_W _ (E_run _ E_m162 3937 (14, [(2, .int 8), (0, .ref 0), (1, .int v)], []) _ 0)
  refine T_of (S_go rfl rfl) ?_
  refine T_of (S_get rfl om4 rfl (by decide) rfl) ?_
  refine T_of (S_go rfl rfl) ?_
  refine T_of (S_get rfl om4 rfl (by decide) rfl) ?_
  refine T_alen rfl oa4 (by decide) ?_
  refine T_of (S_go rfl rfl) ?_
  show T_W _ (E_run _ E_m162 3931 (26, [(2, .int 8), (0, .ref 0), (1, .int v)], []) _ 0)
  refine T_of (S_go rfl rfl) ?_
  refine T_of (S_get rfl om4 rfl (by decide) rfl) ?_
  refine T_of (S_go rfl rfl) ?_
  refine T_of (S_get rfl om4 rfl (by decide) rfl) ?_
  refine T_of (S_go rfl rfl) ?_
  refine T_of (S_go rfl rfl) ?_
  refine T_of (S_go rfl rfl) ?_
  refine T_of (S_go rfl rfl) ?_
  refine T_bst rfl oa4 (by decide) (fun h5 g5 oa5 ek5 el5 => ?_)
  have om5 := (ek5 0 (by decide)).trans om4
  show T_W _ (E_run _ E_m162 3922 (39, [(2, .int 8), (0, .ref 0), (1, .int v)], []) _ 0)
  refine T_of (S_go rfl rfl) ?_
  refine T_of (S_go rfl rfl) ?_
  refine T_of (S_get rfl om5 rfl (by decide) rfl) ?_
  refine T_of (S_go rfl rfl) ?_
  refine T_of (S_go rfl rfl) ?_
  refine T_putf rfl om5 (by decide +kernel) (fun h6 oz6 ek6 el6 => ?_)
  have om6 : h6[0]? = some (.inr (11, [.ref 1, .int 3, .ref 2, .ref 8, .ref 21, .ref 68, .ref 78])) := oz6
  have oa6 := (ek6 1 (by decide)).trans oa5
  show T_W _ (E_run _ E_m162 3916 (49, [(2, .int 8), (0, .ref 0), (1, .int v)], []) _ 0)
  refine T_of (S_go rfl rfl) ?_
  refine T_of (S_go rfl rfl) ?_
  refine T_of (S_go rfl rfl) ?_
  refine T_of (S_go rfl rfl) ?_
  refine T_of (S_go rfl rfl) ?_
  refine T_of (S_get rfl om6 rfl (by decide) rfl) ?_
  refine T_of (S_go rfl rfl) ?_
  show T_W _ (E_run _ E_m162 3909 (14, [(2, .int 0), (0, .ref 0), (1, .int v)], []) _ 0)
  refine T_of (S_go rfl rfl) ?_
  refine T_of (S_get rfl om6 rfl (by decide) rfl) ?_
  refine T_of (S_go rfl rfl) ?_
  refine T_of (S_get rfl om6 rfl (by decide) rfl) ?_
  refine T_alen rfl oa6 (by decide) ?_
  refine T_of (S_go rfl rfl) ?_
  show T_W _ (E_run _ E_m162 3903 (26, [(2, .int 0), (0, .ref 0), (1, .int v)], []) _ 0)
  refine T_of (S_go rfl rfl) ?_
  refine T_of (S_get rfl om6 rfl (by decide) rfl) ?_
  refine T_of (S_go rfl rfl) ?_
  refine T_of (S_get rfl om6 rfl (by decide) rfl) ?_
  refine T_of (S_go rfl rfl) ?_
  refine T_of (S_go rfl rfl) ?_
  refine T_of (S_go rfl rfl) ?_
  refine T_of (S_go rfl rfl) ?_
  refine T_bst rfl oa6 (by decide) (fun h7 g7 oa7 ek7 el7 => ?_)
  have om7 := (ek7 0 (by decide)).trans om6
  show T_W _ (E_run _ E_m162 3894 (39, [(2, .int 0), (0, .ref 0), (1, .int v)], []) _ 0)
  refine T_of (S_go rfl rfl) ?_
  refine T_of (S_go rfl rfl) ?_
  refine T_of (S_get rfl om7 rfl (by decide) rfl) ?_
  refine T_of (S_go rfl rfl) ?_
  refine T_of (S_go rfl rfl) ?_
  refine T_putf rfl om7 (by decide +kernel) (fun h8 oz8 ek8 el8 => ?_)
  have om8 : h8[0]? = some (.inr (11, [.ref 1, .int 4, .ref 2, .ref 8, .ref 21, .ref 68, .ref 78])) := oz8
  have oa8 := (ek8 1 (by decide)).trans oa7
  show T_W _ (E_run _ E_m162 3888 (49, [(2, .int 0), (0, .ref 0), (1, .int v)], []) _ 0)
  refine T_of (S_go rfl rfl) ?_
  refine T_of (S_go rfl rfl) ?_
  refine T_of (S_go rfl rfl) ?_
  refine T_of (S_go rfl rfl) ?_
  exact T_end rfl ⟨rfl, rfl, om8, ⟨_, oa8⟩, fun j j0 j1 => (ek8 j j0).trans ((ek7 j j1).trans ((ek6 j j0).trans ((ek5 j j1).trans ((ek4 j j0).trans ((ek3 j j1).trans ((ek2 j j0).trans ((ek1 j j1)))))))), el8.trans (el7.trans (el6.trans (el5.trans (el4.trans (el3.trans (el2.trans (el1)))))))⟩
set_option maxRecDepth 100000 in
theorem X_wn4 {h : E_H} {g : Nat → Int32} (d : Nat) (v : Int32) (OM : h[0]? = some (.inr (11, [.ref 1, .int 4, .ref 2, .ref 8, .ref 21, .ref 68, .ref 78]))) (OA : h[1]? = some (.inl (1, 1000, .inl g))) : T_W (fun r => match r with | (x, h2, s2) => x = none ∧ s2 = 0 ∧ h2[0]? = some (.inr (11, [.ref 1, .int 8, .ref 2, .ref 8, .ref 21, .ref 68, .ref 78])) ∧ (∃ g2, h2[1]? = some (.inl (1, 1000, .inl g2))) ∧ (∀ j, j ≠ 0 → j ≠ 1 → h2[j]? = h[j]?) ∧ h2.length = h.length) (E_call 4000 (d + 1) 162 [.ref 0, .int v] h) := by
  refine T_call (M := E_m162) rfl (Nat.le_of_ble_eq_true rfl) ?_
  refine T_of (S_go rfl rfl) ?_
  refine T_of (S_go rfl rfl) ?_
  refine T_of (S_go rfl rfl) ?_
  refine T_of (S_go rfl rfl) ?_
  refine T_of (S_go rfl rfl) ?_
  refine T_of (S_get rfl OM rfl (by decide) rfl) ?_
  refine T_of (S_go rfl rfl) ?_
  show T_W _ (E_run _ E_m162 3993 (14, [(2, .int 24), (0, .ref 0), (1, .int v)], []) _ 0)
  refine T_of (S_go rfl rfl) ?_
  refine T_of (S_get rfl OM rfl (by decide) rfl) ?_
  refine T_of (S_go rfl rfl) ?_
  refine T_of (S_get rfl OM rfl (by decide) rfl) ?_
  refine T_alen rfl OA (by decide) ?_
  refine T_of (S_go rfl rfl) ?_
  show T_W _ (E_run _ E_m162 3987 (26, [(2, .int 24), (0, .ref 0), (1, .int v)], []) _ 0)
  refine T_of (S_go rfl rfl) ?_
  refine T_of (S_get rfl OM rfl (by decide) rfl) ?_
  refine T_of (S_go rfl rfl) ?_
  refine T_of (S_get rfl OM rfl (by decide) rfl) ?_
  refine T_of (S_go rfl rfl) ?_
  refine T_of (S_go rfl rfl) ?_
  refine T_of (S_go rfl rfl) ?_
  refine T_of (S_go rfl rfl) ?_
  refine T_bst rfl OA (by decide) (fun h1 g1 oa1 ek1 el1 => ?_)
  have om1 := (ek1 0 (by decide)).trans OM
  show T_W _ (E_run _ E_m162 3978 (39, [(2, .int 24), (0, .ref 0), (1, .int v)], []) _ 0)
  refine T_of (S_go rfl rfl) ?_
  refine T_of (S_go rfl rfl) ?_
  refine T_of (S_get rfl om1 rfl (by decide) rfl) ?_
  refine T_of (S_go rfl rfl) ?_
  refine T_of (S_go rfl rfl) ?_
  refine T_putf rfl om1 (by decide +kernel) (fun h2 oz2 ek2 el2 => ?_)
  have om2 : h2[0]? = some (.inr (11, [.ref 1, .int 5, .ref 2, .ref 8, .ref 21, .ref 68, .ref 78])) := oz2
  have oa2 := (ek2 1 (by decide)).trans oa1
  show T_W _ (E_run _ E_m162 3972 (49, [(2, .int 24), (0, .ref 0), (1, .int v)], []) _ 0)
  refine T_of (S_go rfl rfl) ?_
  refine T_of (S_go rfl rfl) ?_
  refine T_of (S_go rfl rfl) ?_
  refine T_of (S_go rfl rfl) ?_
  refine T_of (S_go rfl rfl) ?_
  refine T_of (S_get rfl om2 rfl (by decide) rfl) ?_
  refine T_of (S_go rfl rfl) ?_
  show T_W _ (E_run _ E_m162 3965 (14, [(2, .int 16), (0, .ref 0), (1, .int v)], []) _ 0)
  refine T_of (S_go rfl rfl) ?_
  refine T_of (S_get rfl om2 rfl (by decide) rfl) ?_
  refine T_of (S_go rfl rfl) ?_
  refine T_of (S_get rfl om2 rfl (by decide) rfl) ?_
  refine T_alen rfl oa2 (by decide) ?_
  refine T_of (S_go rfl rfl) ?_
  show T_W _ (E_run _ E_m162 3959 (26, [(2, .int 16), (0, .ref 0), (1, .int v)], []) _ 0)
  refine T_of (S_go rfl rfl) ?_
  refine T_of (S_get rfl om2 rfl (by decide) rfl) ?_
  refine T_of (S_go rfl rfl) ?_
  refine T_of (S_get rfl om2 rfl (by decide) rfl) ?_
  refine T_of (S_go rfl rfl) ?_
  refine T_of (S_go rfl rfl) ?_
  refine T_of (S_go rfl rfl) ?_
  refine T_of (S_go rfl rfl) ?_
  refine T_bst rfl oa2 (by decide) (fun h3 g3 oa3 ek3 el3 => ?_)
  have om3 := (ek3 0 (by decide)).trans om2
  show T_W _ (E_run _ E_m162 3950 (39, [(2, .int 16), (0, .ref 0), (1, .int v)], []) _ 0)
  refine T_of (S_go rfl rfl) ?_
  refine T_of (S_go rfl rfl) ?_
  refine T_of (S_get rfl om3 rfl (by decide) rfl) ?_
  refine T_of (S_go rfl rfl) ?_
  refine T_of (S_go rfl rfl) ?_
  refine T_putf rfl om3 (by decide +kernel) (fun h4 oz4 ek4 el4 => ?_)
  have om4 : h4[0]? = some (.inr (11, [.ref 1, .int 6, .ref 2, .ref 8, .ref 21, .ref 68, .ref 78])) := oz4
  have oa4 := (ek4 1 (by decide)).trans oa3
  show T_W _ (E_run _ E_m162 3944 (49, [(2, .int 16), (0, .ref 0), (1, .int v)], []) _ 0)
  refine T_of (S_go rfl rfl) ?_
  refine T_of (S_go rfl rfl) ?_
  refine T_of (S_go rfl rfl) ?_
  refine T_of (S_go rfl rfl) ?_
  refine T_of (S_go rfl rfl) ?_
  refine T_of (S_get rfl om4 rfl (by decide) rfl) ?_
  refine T_of (S_go rfl rfl) ?_
  show T_W _ (E_run _ E_m162 3937 (14, [(2, .int 8), (0, .ref 0), (1, .int v)], []) _ 0)
  refine T_of (S_go rfl rfl) ?_
  refine T_of (S_get rfl om4 rfl (by decide) rfl) ?_
  refine T_of (S_go rfl rfl) ?_
  refine T_of (S_get rfl om4 rfl (by decide) rfl) ?_
  refine T_alen rfl oa4 (by decide) ?_
  refine T_of (S_go rfl rfl) ?_
  show T_W _ (E_run _ E_m162 3931 (26, [(2, .int 8), (0, .ref 0), (1, .int v)], []) _ 0)
  refine T_of (S_go rfl rfl) ?_
  refine T_of (S_get rfl om4 rfl (by decide) rfl) ?_
  refine T_of (S_go rfl rfl) ?_
  refine T_of (S_get rfl om4 rfl (by decide) rfl) ?_
  refine T_of (S_go rfl rfl) ?_
  refine T_of (S_go rfl rfl) ?_
  refine T_of (S_go rfl rfl) ?_
  refine T_of (S_go rfl rfl) ?_
  refine T_bst rfl oa4 (by decide) (fun h5 g5 oa5 ek5 el5 => ?_)
  have om5 := (ek5 0 (by decide)).trans om4
  show T_W _ (E_run _ E_m162 3922 (39, [(2, .int 8), (0, .ref 0), (1, .int v)], []) _ 0)
  refine T_of (S_go rfl rfl) ?_
  refine T_of (S_go rfl rfl) ?_
  refine T_of (S_get rfl om5 rfl (by decide) rfl) ?_
  refine T_of (S_go rfl rfl) ?_
  refine T_of (S_go rfl rfl) ?_
  refine T_putf rfl om5 (by decide +kernel) (fun h6 oz6 ek6 el6 => ?_)
  have om6 : h6[0]? = some (.inr (11, [.ref 1, .int 7, .ref 2, .ref 8, .ref 21, .ref 68, .ref 78])) := oz6
  have oa6 := (ek6 1 (by decide)).trans oa5
  show T_W _ (E_run _ E_m162 3916 (49, [(2, .int 8), (0, .ref 0), (1, .int v)], []) _ 0)
  refine T_of (S_go rfl rfl) ?_
  refine T_of (S_go rfl rfl) ?_
  refine T_of (S_go rfl rfl) ?_
  refine T_of (S_go rfl rfl) ?_
  refine T_of (S_go rfl rfl) ?_
  refine T_of (S_get rfl om6 rfl (by decide) rfl) ?_
  refine T_of (S_go rfl rfl) ?_
  show T_W _ (E_run _ E_m162 3909 (14, [(2, .int 0), (0, .ref 0), (1, .int v)], []) _ 0)
  refine T_of (S_go rfl rfl) ?_
  refine T_of (S_get rfl om6 rfl (by decide) rfl) ?_
  refine T_of (S_go rfl rfl) ?_
  refine T_of (S_get rfl om6 rfl (by decide) rfl) ?_
  refine T_alen rfl oa6 (by decide) ?_
  refine T_of (S_go rfl rfl) ?_
  show T_W _ (E_run _ E_m162 3903 (26, [(2, .int 0), (0, .ref 0), (1, .int v)], []) _ 0)
  refine T_of (S_go rfl rfl) ?_
  refine T_of (S_get rfl om6 rfl (by decide) rfl) ?_
  refine T_of (S_go rfl rfl) ?_
  refine T_of (S_get rfl om6 rfl (by decide) rfl) ?_
  refine T_of (S_go rfl rfl) ?_
  refine T_of (S_go rfl rfl) ?_
  refine T_of (S_go rfl rfl) ?_
  refine T_of (S_go rfl rfl) ?_
  refine T_bst rfl oa6 (by decide) (fun h7 g7 oa7 ek7 el7 => ?_)
  have om7 := (ek7 0 (by decide)).trans om6
  show T_W _ (E_run _ E_m162 3894 (39, [(2, .int 0), (0, .ref 0), (1, .int v)], []) _ 0)
  refine T_of (S_go rfl rfl) ?_
  refine T_of (S_go rfl rfl) ?_
  refine T_of (S_get rfl om7 rfl (by decide) rfl) ?_
  refine T_of (S_go rfl rfl) ?_
  refine T_of (S_go rfl rfl) ?_
  refine T_putf rfl om7 (by decide +kernel) (fun h8 oz8 ek8 el8 => ?_)
  have om8 : h8[0]? = some (.inr (11, [.ref 1, .int 8, .ref 2, .ref 8, .ref 21, .ref 68, .ref 78])) := oz8
  have oa8 := (ek8 1 (by decide)).trans oa7
  show T_W _ (E_run _ E_m162 3888 (49, [(2, .int 0), (0, .ref 0), (1, .int v)], []) _ 0)
  refine T_of (S_go rfl rfl) ?_
  refine T_of (S_go rfl rfl) ?_
  refine T_of (S_go rfl rfl) ?_
  refine T_of (S_go rfl rfl) ?_
  exact T_end rfl ⟨rfl, rfl, om8, ⟨_, oa8⟩, fun j j0 j1 => (ek8 j j0).trans ((ek7 j j1).trans ((ek6 j j0).trans ((ek5 j j1).trans ((ek4 j j0).trans ((ek3 j j1).trans ((ek2 j j0).trans ((ek1 j j1)))))))), el8.trans (el7.trans (el6.trans (el5.trans (el4.trans (el3.trans (el2.trans (el1)))))))⟩
set_option maxRecDepth 100000 in
theorem X_wn8 {h : E_H} {g : Nat → Int32} (d : Nat) (v : Int32) (OM : h[0]? = some (.inr (11, [.ref 1, .int 8, .ref 2, .ref 8, .ref 21, .ref 68, .ref 78]))) (OA : h[1]? = some (.inl (1, 1000, .inl g))) : T_W (fun r => match r with | (x, h2, s2) => x = none ∧ s2 = 0 ∧ h2[0]? = some (.inr (11, [.ref 1, .int 12, .ref 2, .ref 8, .ref 21, .ref 68, .ref 78])) ∧ (∃ g2, h2[1]? = some (.inl (1, 1000, .inl g2))) ∧ (∀ j, j ≠ 0 → j ≠ 1 → h2[j]? = h[j]?) ∧ h2.length = h.length) (E_call 4000 (d + 1) 162 [.ref 0, .int v] h) := by
  refine T_call (M := E_m162) rfl (Nat.le_of_ble_eq_true rfl) ?_
  refine T_of (S_go rfl rfl) ?_
  refine T_of (S_go rfl rfl) ?_
  refine T_of (S_go rfl rfl) ?_
  refine T_of (S_go rfl rfl) ?_
  refine T_of (S_go rfl rfl) ?_
  refine T_of (S_get rfl OM rfl (by decide) rfl) ?_
  refine T_of (S_go rfl rfl) ?_
  show T_W _ (E_run _ E_m162 3993 (14, [(2, .int 24), (0, .ref 0), (1, .int v)], []) _ 0)
  refine T_of (S_go rfl rfl) ?_
  refine T_of (S_get rfl OM rfl (by decide) rfl) ?_
  refine T_of (S_go rfl rfl) ?_
  refine T_of (S_get rfl OM rfl (by decide) rfl) ?_
  refine T_alen rfl OA (by decide) ?_
  refine T_of (S_go rfl rfl) ?_
  show T_W _ (E_run _ E_m162 3987 (26, [(2, .int 24), (0, .ref 0), (1, .int v)], []) _ 0)
  refine T_of (S_go rfl rfl) ?_
  refine T_of (S_get rfl OM rfl (by decide) rfl) ?_
  refine T_of (S_go rfl rfl) ?_
  refine T_of (S_get rfl OM rfl (by decide) rfl) ?_
  refine T_of (S_go rfl rfl) ?_
  refine T_of (S_go rfl rfl) ?_
  refine T_of (S_go rfl rfl) ?_
  refine T_of (S_go rfl rfl) ?_
  refine T_bst rfl OA (by decide) (fun h1 g1 oa1 ek1 el1 => ?_)
  have om1 := (ek1 0 (by decide)).trans OM
  show T_W _ (E_run _ E_m162 3978 (39, [(2, .int 24), (0, .ref 0), (1, .int v)], []) _ 0)
  refine T_of (S_go rfl rfl) ?_
  refine T_of (S_go rfl rfl) ?_
  refine T_of (S_get rfl om1 rfl (by decide) rfl) ?_
  refine T_of (S_go rfl rfl) ?_
  refine T_of (S_go rfl rfl) ?_
  refine T_putf rfl om1 (by decide +kernel) (fun h2 oz2 ek2 el2 => ?_)
  have om2 : h2[0]? = some (.inr (11, [.ref 1, .int 9, .ref 2, .ref 8, .ref 21, .ref 68, .ref 78])) := oz2
  have oa2 := (ek2 1 (by decide)).trans oa1
  show T_W _ (E_run _ E_m162 3972 (49, [(2, .int 24), (0, .ref 0), (1, .int v)], []) _ 0)
  refine T_of (S_go rfl rfl) ?_
  refine T_of (S_go rfl rfl) ?_
  refine T_of (S_go rfl rfl) ?_
  refine T_of (S_go rfl rfl) ?_
  refine T_of (S_go rfl rfl) ?_
  refine T_of (S_get rfl om2 rfl (by decide) rfl) ?_
  refine T_of (S_go rfl rfl) ?_
  show T_W _ (E_run _ E_m162 3965 (14, [(2, .int 16), (0, .ref 0), (1, .int v)], []) _ 0)
  refine T_of (S_go rfl rfl) ?_
  refine T_of (S_get rfl om2 rfl (by decide) rfl) ?_
  refine T_of (S_go rfl rfl) ?_
  refine T_of (S_get rfl om2 rfl (by decide) rfl) ?_
  refine T_alen rfl oa2 (by decide) ?_
  refine T_of (S_go rfl rfl) ?_
  show T_W _ (E_run _ E_m162 3959 (26, [(2, .int 16), (0, .ref 0), (1, .int v)], []) _ 0)
  refine T_of (S_go rfl rfl) ?_
  refine T_of (S_get rfl om2 rfl (by decide) rfl) ?_
  refine T_of (S_go rfl rfl) ?_
  refine T_of (S_get rfl om2 rfl (by decide) rfl) ?_
  refine T_of (S_go rfl rfl) ?_
  refine T_of (S_go rfl rfl) ?_
  refine T_of (S_go rfl rfl) ?_
  refine T_of (S_go rfl rfl) ?_
  refine T_bst rfl oa2 (by decide) (fun h3 g3 oa3 ek3 el3 => ?_)
  have om3 := (ek3 0 (by decide)).trans om2
  show T_W _ (E_run _ E_m162 3950 (39, [(2, .int 16), (0, .ref 0), (1, .int v)], []) _ 0)
  refine T_of (S_go rfl rfl) ?_
  refine T_of (S_go rfl rfl) ?_
  refine T_of (S_get rfl om3 rfl (by decide) rfl) ?_
  refine T_of (S_go rfl rfl) ?_
  refine T_of (S_go rfl rfl) ?_
  refine T_putf rfl om3 (by decide +kernel) (fun h4 oz4 ek4 el4 => ?_)
  have om4 : h4[0]? = some (.inr (11, [.ref 1, .int 10, .ref 2, .ref 8, .ref 21, .ref 68, .ref 78])) := oz4
  have oa4 := (ek4 1 (by decide)).trans oa3
  show T_W _ (E_run _ E_m162 3944 (49, [(2, .int 16), (0, .ref 0), (1, .int v)], []) _ 0)
  refine T_of (S_go rfl rfl) ?_
  refine T_of (S_go rfl rfl) ?_
  refine T_of (S_go rfl rfl) ?_
  refine T_of (S_go rfl rfl) ?_
  refine T_of (S_go rfl rfl) ?_
  refine T_of (S_get rfl om4 rfl (by decide) rfl) ?_
  refine T_of (S_go rfl rfl) ?_
  show T_W _ (E_run _ E_m162 3937 (14, [(2, .int 8), (0, .ref 0), (1, .int v)], []) _ 0)
  refine T_of (S_go rfl rfl) ?_
  refine T_of (S_get rfl om4 rfl (by decide) rfl) ?_
  refine T_of (S_go rfl rfl) ?_
  refine T_of (S_get rfl om4 rfl (by decide) rfl) ?_
  refine T_alen rfl oa4 (by decide) ?_
  refine T_of (S_go rfl rfl) ?_
  show T_W _ (E_run _ E_m162 3931 (26, [(2, .int 8), (0, .ref 0), (1, .int v)], []) _ 0)
  refine T_of (S_go rfl rfl) ?_
  refine T_of (S_get rfl om4 rfl (by decide) rfl) ?_
  refine T_of (S_go rfl rfl) ?_
  refine T_of (S_get rfl om4 rfl (by decide) rfl) ?_
  refine T_of (S_go rfl rfl) ?_
  refine T_of (S_go rfl rfl) ?_
  refine T_of (S_go rfl rfl) ?_
  refine T_of (S_go rfl rfl) ?_
  refine T_bst rfl oa4 (by decide) (fun h5 g5 oa5 ek5 el5 => ?_)
  have om5 := (ek5 0 (by decide)).trans om4
  show T_W _ (E_run _ E_m162 3922 (39, [(2, .int 8), (0, .ref 0), (1, .int v)], []) _ 0)
  refine T_of (S_go rfl rfl) ?_
  refine T_of (S_go rfl rfl) ?_
  refine T_of (S_get rfl om5 rfl (by decide) rfl) ?_
  refine T_of (S_go rfl rfl) ?_
  refine T_of (S_go rfl rfl) ?_
  refine T_putf rfl om5 (by decide +kernel) (fun h6 oz6 ek6 el6 => ?_)
  have om6 : h6[0]? = some (.inr (11, [.ref 1, .int 11, .ref 2, .ref 8, .ref 21, .ref 68, .ref 78])) := oz6
  have oa6 := (ek6 1 (by decide)).trans oa5
  show T_W _ (E_run _ E_m162 3916 (49, [(2, .int 8), (0, .ref 0), (1, .int v)], []) _ 0)
  refine T_of (S_go rfl rfl) ?_
  refine T_of (S_go rfl rfl) ?_
  refine T_of (S_go rfl rfl) ?_
  refine T_of (S_go rfl rfl) ?_
  refine T_of (S_go rfl rfl) ?_
  refine T_of (S_get rfl om6 rfl (by decide) rfl) ?_
  refine T_of (S_go rfl rfl) ?_
  show T_W _ (E_run _ E_m162 3909 (14, [(2, .int 0), (0, .ref 0), (1, .int v)], []) _ 0)
  refine T_of (S_go rfl rfl) ?_
  refine T_of (S_get rfl om6 rfl (by decide) rfl) ?_
  refine T_of (S_go rfl rfl) ?_
  refine T_of (S_get rfl om6 rfl (by decide) rfl) ?_
  refine T_alen rfl oa6 (by decide) ?_
  refine T_of (S_go rfl rfl) ?_
  show T_W _ (E_run _ E_m162 3903 (26, [(2, .int 0), (0, .ref 0), (1, .int v)], []) _ 0)
  refine T_of (S_go rfl rfl) ?_
  refine T_of (S_get rfl om6 rfl (by decide) rfl) ?_
  refine T_of (S_go rfl rfl) ?_
  refine T_of (S_get rfl om6 rfl (by decide) rfl) ?_
  refine T_of (S_go rfl rfl) ?_
  refine T_of (S_go rfl rfl) ?_
  refine T_of (S_go rfl rfl) ?_
  refine T_of (S_go rfl rfl) ?_
  refine T_bst rfl oa6 (by decide) (fun h7 g7 oa7 ek7 el7 => ?_)
  have om7 := (ek7 0 (by decide)).trans om6
  show T_W _ (E_run _ E_m162 3894 (39, [(2, .int 0), (0, .ref 0), (1, .int v)], []) _ 0)
  refine T_of (S_go rfl rfl) ?_
  refine T_of (S_go rfl rfl) ?_
  refine T_of (S_get rfl om7 rfl (by decide) rfl) ?_
  refine T_of (S_go rfl rfl) ?_
  refine T_of (S_go rfl rfl) ?_
  refine T_putf rfl om7 (by decide +kernel) (fun h8 oz8 ek8 el8 => ?_)
  have om8 : h8[0]? = some (.inr (11, [.ref 1, .int 12, .ref 2, .ref 8, .ref 21, .ref 68, .ref 78])) := oz8
  have oa8 := (ek8 1 (by decide)).trans oa7
  show T_W _ (E_run _ E_m162 3888 (49, [(2, .int 0), (0, .ref 0), (1, .int v)], []) _ 0)
  refine T_of (S_go rfl rfl) ?_
  refine T_of (S_go rfl rfl) ?_
  refine T_of (S_go rfl rfl) ?_
  refine T_of (S_go rfl rfl) ?_
  exact T_end rfl ⟨rfl, rfl, om8, ⟨_, oa8⟩, fun j j0 j1 => (ek8 j j0).trans ((ek7 j j1).trans ((ek6 j j0).trans ((ek5 j j1).trans ((ek4 j j0).trans ((ek3 j j1).trans ((ek2 j j0).trans ((ek1 j j1)))))))), el8.trans (el7.trans (el6.trans (el5.trans (el4.trans (el3.trans (el2.trans (el1)))))))⟩
set_option maxRecDepth 100000 in
theorem X_wn12 {h : E_H} {g : Nat → Int32} (d : Nat) (v : Int32) (OM : h[0]? = some (.inr (11, [.ref 1, .int 12, .ref 2, .ref 8, .ref 21, .ref 68, .ref 78]))) (OA : h[1]? = some (.inl (1, 1000, .inl g))) : T_W (fun r => match r with | (x, h2, s2) => x = none ∧ s2 = 0 ∧ h2[0]? = some (.inr (11, [.ref 1, .int 16, .ref 2, .ref 8, .ref 21, .ref 68, .ref 78])) ∧ (∃ g2, h2[1]? = some (.inl (1, 1000, .inl g2))) ∧ (∀ j, j ≠ 0 → j ≠ 1 → h2[j]? = h[j]?) ∧ h2.length = h.length) (E_call 4000 (d + 1) 162 [.ref 0, .int v] h) := by
  refine T_call (M := E_m162) rfl (Nat.le_of_ble_eq_true rfl) ?_
  refine T_of (S_go rfl rfl) ?_
  refine T_of (S_go rfl rfl) ?_
  refine T_of (S_go rfl rfl) ?_
  refine T_of (S_go rfl rfl) ?_
  refine T_of (S_go rfl rfl) ?_
  refine T_of (S_get rfl OM rfl (by decide) rfl) ?_
  refine T_of (S_go rfl rfl) ?_
  show T_W _ (E_run _ E_m162 3993 (14, [(2, .int 24), (0, .ref 0), (1, .int v)], []) _ 0)
  refine T_of (S_go rfl rfl) ?_
  refine T_of (S_get rfl OM rfl (by decide) rfl) ?_
  refine T_of (S_go rfl rfl) ?_
  refine T_of (S_get rfl OM rfl (by decide) rfl) ?_
  refine T_alen rfl OA (by decide) ?_
  refine T_of (S_go rfl rfl) ?_
  show T_W _ (E_run _ E_m162 3987 (26, [(2, .int 24), (0, .ref 0), (1, .int v)], []) _ 0)
  refine T_of (S_go rfl rfl) ?_
  refine T_of (S_get rfl OM rfl (by decide) rfl) ?_
  refine T_of (S_go rfl rfl) ?_
  refine T_of (S_get rfl OM rfl (by decide) rfl) ?_
  refine T_of (S_go rfl rfl) ?_
  refine T_of (S_go rfl rfl) ?_
  refine T_of (S_go rfl rfl) ?_
  refine T_of (S_go rfl rfl) ?_
  refine T_bst rfl OA (by decide) (fun h1 g1 oa1 ek1 el1 => ?_)
  have om1 := (ek1 0 (by decide)).trans OM
  show T_W _ (E_run _ E_m162 3978 (39, [(2, .int 24), (0, .ref 0), (1, .int v)], []) _ 0)
  refine T_of (S_go rfl rfl) ?_
  refine T_of (S_go rfl rfl) ?_
  refine T_of (S_get rfl om1 rfl (by decide) rfl) ?_
  refine T_of (S_go rfl rfl) ?_
  refine T_of (S_go rfl rfl) ?_
  refine T_putf rfl om1 (by decide +kernel) (fun h2 oz2 ek2 el2 => ?_)
  have om2 : h2[0]? = some (.inr (11, [.ref 1, .int 13, .ref 2, .ref 8, .ref 21, .ref 68, .ref 78])) := oz2
  have oa2 := (ek2 1 (by decide)).trans oa1
  show T_W _ (E_run _ E_m162 3972 (49, [(2, .int 24), (0, .ref 0), (1, .int v)], []) _ 0)
  refine T_of (S_go rfl rfl) ?_
  refine T_of (S_go rfl rfl) ?_
  refine T_of (S_go rfl rfl) ?_
  refine T_of (S_go rfl rfl) ?_
  refine T_of (S_go rfl rfl) ?_
  refine T_of (S_get rfl om2 rfl (by decide) rfl) ?_
  refine T_of (S_go rfl rfl) ?_
  show T_W _ (E_run _ E_m162 3965 (14, [(2, .int 16), (0, .ref 0), (1, .int v)], []) _ 0)
  refine T_of (S_go rfl rfl) ?_
  refine T_of (S_get rfl om2 rfl (by decide) rfl) ?_
  refine T_of (S_go rfl rfl) ?_
  refine T_of (S_get rfl om2 rfl (by decide) rfl) ?_
  refine T_alen rfl oa2 (by decide) ?_
  refine T_of (S_go rfl rfl) ?_
  show T_W _ (E_run _ E_m162 3959 (26, [(2, .int 16), (0, .ref 0), (1, .int v)], []) _ 0)
  refine T_of (S_go rfl rfl) ?_
  refine T_of (S_get rfl om2 rfl (by decide) rfl) ?_
  refine T_of (S_go rfl rfl) ?_
  refine T_of (S_get rfl om2 rfl (by decide) rfl) ?_
  refine T_of (S_go rfl rfl) ?_
  refine T_of (S_go rfl rfl) ?_
  refine T_of (S_go rfl rfl) ?_
  refine T_of (S_go rfl rfl) ?_
  refine T_bst rfl oa2 (by decide) (fun h3 g3 oa3 ek3 el3 => ?_)
  have om3 := (ek3 0 (by decide)).trans om2
  show T_W _ (E_run _ E_m162 3950 (39, [(2, .int 16), (0, .ref 0), (1, .int v)], []) _ 0)
  refine T_of (S_go rfl rfl) ?_
  refine T_of (S_go rfl rfl) ?_
  refine T_of (S_get rfl om3 rfl (by decide) rfl) ?_
  refine T_of (S_go rfl rfl) ?_
  refine T_of (S_go rfl rfl) ?_
  refine T_putf rfl om3 (by decide +kernel) (fun h4 oz4 ek4 el4 => ?_)
  have om4 : h4[0]? = some (.inr (11, [.ref 1, .int 14, .ref 2, .ref 8, .ref 21, .ref 68, .ref 78])) := oz4
  have oa4 := (ek4 1 (by decide)).trans oa3
  show T_W _ (E_run _ E_m162 3944 (49, [(2, .int 16), (0, .ref 0), (1, .int v)], []) _ 0)
  refine T_of (S_go rfl rfl) ?_
  refine T_of (S_go rfl rfl) ?_
  refine T_of (S_go rfl rfl) ?_
  refine T_of (S_go rfl rfl) ?_
  refine T_of (S_go rfl rfl) ?_
  refine T_of (S_get rfl om4 rfl (by decide) rfl) ?_
  refine T_of (S_go rfl rfl) ?_
  show T_W _ (E_run _ E_m162 3937 (14, [(2, .int 8), (0, .ref 0), (1, .int v)], []) _ 0)
  refine T_of (S_go rfl rfl) ?_
  refine T_of (S_get rfl om4 rfl (by decide) rfl) ?_
  refine T_of (S_go rfl rfl) ?_
  refine T_of (S_get rfl om4 rfl (by decide) rfl) ?_
  refine T_alen rfl oa4 (by decide) ?_
  refine T_of (S_go rfl rfl) ?_
  show T_W _ (E_run _ E_m162 3931 (26, [(2, .int 8), (0, .ref 0), (1, .int v)], []) _ 0)
  refine T_of (S_go rfl rfl) ?_
  refine T_of (S_get rfl om4 rfl (by decide) rfl) ?_
  refine T_of (S_go rfl rfl) ?_
  refine T_of (S_get rfl om4 rfl (by decide) rfl) ?_
  refine T_of (S_go rfl rfl) ?_
  refine T_of (S_go rfl rfl) ?_
  refine T_of (S_go rfl rfl) ?_
  refine T_of (S_go rfl rfl) ?_
  refine T_bst rfl oa4 (by decide) (fun h5 g5 oa5 ek5 el5 => ?_)
  have om5 := (ek5 0 (by decide)).trans om4
  show T_W _ (E_run _ E_m162 3922 (39, [(2, .int 8), (0, .ref 0), (1, .int v)], []) _ 0)
  refine T_of (S_go rfl rfl) ?_
  refine T_of (S_go rfl rfl) ?_
  refine T_of (S_get rfl om5 rfl (by decide) rfl) ?_
  refine T_of (S_go rfl rfl) ?_
  refine T_of (S_go rfl rfl) ?_
  refine T_putf rfl om5 (by decide +kernel) (fun h6 oz6 ek6 el6 => ?_)
  have om6 : h6[0]? = some (.inr (11, [.ref 1, .int 15, .ref 2, .ref 8, .ref 21, .ref 68, .ref 78])) := oz6
  have oa6 := (ek6 1 (by decide)).trans oa5
  show T_W _ (E_run _ E_m162 3916 (49, [(2, .int 8), (0, .ref 0), (1, .int v)], []) _ 0)
  refine T_of (S_go rfl rfl) ?_
  refine T_of (S_go rfl rfl) ?_
  refine T_of (S_go rfl rfl) ?_
  refine T_of (S_go rfl rfl) ?_
  refine T_of (S_go rfl rfl) ?_
  refine T_of (S_get rfl om6 rfl (by decide) rfl) ?_
  refine T_of (S_go rfl rfl) ?_
  show T_W _ (E_run _ E_m162 3909 (14, [(2, .int 0), (0, .ref 0), (1, .int v)], []) _ 0)
  refine T_of (S_go rfl rfl) ?_
  refine T_of (S_get rfl om6 rfl (by decide) rfl) ?_
  refine T_of (S_go rfl rfl) ?_
  refine T_of (S_get rfl om6 rfl (by decide) rfl) ?_
  refine T_alen rfl oa6 (by decide) ?_
  refine T_of (S_go rfl rfl) ?_
  show T_W _ (E_run _ E_m162 3903 (26, [(2, .int 0), (0, .ref 0), (1, .int v)], []) _ 0)
  refine T_of (S_go rfl rfl) ?_
  refine T_of (S_get rfl om6 rfl (by decide) rfl) ?_
  refine T_of (S_go rfl rfl) ?_
  refine T_of (S_get rfl om6 rfl (by decide) rfl) ?_
  refine T_of (S_go rfl rfl) ?_
  refine T_of (S_go rfl rfl) ?_
  refine T_of (S_go rfl rfl) ?_
  refine T_of (S_go rfl rfl) ?_
  refine T_bst rfl oa6 (by decide) (fun h7 g7 oa7 ek7 el7 => ?_)
  have om7 := (ek7 0 (by decide)).trans om6
  show T_W _ (E_run _ E_m162 3894 (39, [(2, .int 0), (0, .ref 0), (1, .int v)], []) _ 0)
  refine T_of (S_go rfl rfl) ?_
  refine T_of (S_go rfl rfl) ?_
  refine T_of (S_get rfl om7 rfl (by decide) rfl) ?_
  refine T_of (S_go rfl rfl) ?_
  refine T_of (S_go rfl rfl) ?_
  refine T_putf rfl om7 (by decide +kernel) (fun h8 oz8 ek8 el8 => ?_)
  have om8 : h8[0]? = some (.inr (11, [.ref 1, .int 16, .ref 2, .ref 8, .ref 21, .ref 68, .ref 78])) := oz8
  have oa8 := (ek8 1 (by decide)).trans oa7
  show T_W _ (E_run _ E_m162 3888 (49, [(2, .int 0), (0, .ref 0), (1, .int v)], []) _ 0)
  refine T_of (S_go rfl rfl) ?_
  refine T_of (S_go rfl rfl) ?_
  refine T_of (S_go rfl rfl) ?_
  refine T_of (S_go rfl rfl) ?_
  exact T_end rfl ⟨rfl, rfl, om8, ⟨_, oa8⟩, fun j j0 j1 => (ek8 j j0).trans ((ek7 j j1).trans ((ek6 j j0).trans ((ek5 j j1).trans ((ek4 j j0).trans ((ek3 j j1).trans ((ek2 j j0).trans ((ek1 j j1)))))))), el8.trans (el7.trans (el6.trans (el5.trans (el4.trans (el3.trans (el2.trans (el1)))))))⟩
set_option maxRecDepth 100000 in
theorem X_wn16 {h : E_H} {g : Nat → Int32} (d : Nat) (v : Int32) (OM : h[0]? = some (.inr (11, [.ref 1, .int 16, .ref 2, .ref 8, .ref 21, .ref 68, .ref 78]))) (OA : h[1]? = some (.inl (1, 1000, .inl g))) : T_W (fun r => match r with | (x, h2, s2) => x = none ∧ s2 = 0 ∧ h2[0]? = some (.inr (11, [.ref 1, .int 20, .ref 2, .ref 8, .ref 21, .ref 68, .ref 78])) ∧ (∃ g2, h2[1]? = some (.inl (1, 1000, .inl g2))) ∧ (∀ j, j ≠ 0 → j ≠ 1 → h2[j]? = h[j]?) ∧ h2.length = h.length) (E_call 4000 (d + 1) 162 [.ref 0, .int v] h) := by
  refine T_call (M := E_m162) rfl (Nat.le_of_ble_eq_true rfl) ?_
  refine T_of (S_go rfl rfl) ?_
  refine T_of (S_go rfl rfl) ?_
  refine T_of (S_go rfl rfl) ?_
  refine T_of (S_go rfl rfl) ?_
  refine T_of (S_go rfl rfl) ?_
  refine T_of (S_get rfl OM rfl (by decide) rfl) ?_
  refine T_of (S_go rfl rfl) ?_
  show T_W _ (E_run _ E_m162 3993 (14, [(2, .int 24), (0, .ref 0), (1, .int v)], []) _ 0)
  refine T_of (S_go rfl rfl) ?_
  refine T_of (S_get rfl OM rfl (by decide) rfl) ?_
  refine T_of (S_go rfl rfl) ?_
  refine T_of (S_get rfl OM rfl (by decide) rfl) ?_
  refine T_alen rfl OA (by decide) ?_
  refine T_of (S_go rfl rfl) ?_
  show T_W _ (E_run _ E_m162 3987 (26, [(2, .int 24), (0, .ref 0), (1, .int v)], []) _ 0)
  refine T_of (S_go rfl rfl) ?_
  refine T_of (S_get rfl OM rfl (by decide) rfl) ?_
  refine T_of (S_go rfl rfl) ?_
  refine T_of (S_get rfl OM rfl (by decide) rfl) ?_
  refine T_of (S_go rfl rfl) ?_
  refine T_of (S_go rfl rfl) ?_
  refine T_of (S_go rfl rfl) ?_
  refine T_of (S_go rfl rfl) ?_
  refine T_bst rfl OA (by decide) (fun h1 g1 oa1 ek1 el1 => ?_)
  have om1 := (ek1 0 (by decide)).trans OM
  show T_W _ (E_run _ E_m162 3978 (39, [(2, .int 24), (0, .ref 0), (1, .int v)], []) _ 0)
  refine T_of (S_go rfl rfl) ?_
  refine T_of (S_go rfl rfl) ?_
  refine T_of (S_get rfl om1 rfl (by decide) rfl) ?_
  refine T_of (S_go rfl rfl) ?_
  refine T_of (S_go rfl rfl) ?_
  refine T_putf rfl om1 (by decide +kernel) (fun h2 oz2 ek2 el2 => ?_)
  have om2 : h2[0]? = some (.inr (11, [.ref 1, .int 17, .ref 2, .ref 8, .ref 21, .ref 68, .ref 78])) := oz2
  have oa2 := (ek2 1 (by decide)).trans oa1
  show T_W _ (E_run _ E_m162 3972 (49, [(2, .int 24), (0, .ref 0), (1, .int v)], []) _ 0)
  refine T_of (S_go rfl rfl) ?_
  refine T_of (S_go rfl rfl) ?_
  refine T_of (S_go rfl rfl) ?_
  refine T_of (S_go rfl rfl) ?_
  refine T_of (S_go rfl rfl) ?_
  refine T_of (S_get rfl om2 rfl (by decide) rfl) ?_
  refine T_of (S_go rfl rfl) ?_
  show T_W _ (E_run _ E_m162 3965 (14, [(2, .int 16), (0, .ref 0), (1, .int v)], []) _ 0)
  refine T_of (S_go rfl rfl) ?_
  refine T_of (S_get rfl om2 rfl (by decide) rfl) ?_
  refine T_of (S_go rfl rfl) ?_
  refine T_of (S_get rfl om2 rfl (by decide) rfl) ?_
  refine T_alen rfl oa2 (by decide) ?_
  refine T_of (S_go rfl rfl) ?_
  show T_W _ (E_run _ E_m162 3959 (26, [(2, .int 16), (0, .ref 0), (1, .int v)], []) _ 0)
  refine T_of (S_go rfl rfl) ?_
  refine T_of (S_get rfl om2 rfl (by decide) rfl) ?_
  refine T_of (S_go rfl rfl) ?_
  refine T_of (S_get rfl om2 rfl (by decide) rfl) ?_
  refine T_of (S_go rfl rfl) ?_
  refine T_of (S_go rfl rfl) ?_
  refine T_of (S_go rfl rfl) ?_
  refine T_of (S_go rfl rfl) ?_
  refine T_bst rfl oa2 (by decide) (fun h3 g3 oa3 ek3 el3 => ?_)
  have om3 := (ek3 0 (by decide)).trans om2
  show T_W _ (E_run _ E_m162 3950 (39, [(2, .int 16), (0, .ref 0), (1, .int v)], []) _ 0)
  refine T_of (S_go rfl rfl) ?_
  refine T_of (S_go rfl rfl) ?_
  refine T_of (S_get rfl om3 rfl (by decide) rfl) ?_
  refine T_of (S_go rfl rfl) ?_
  refine T_of (S_go rfl rfl) ?_
  refine T_putf rfl om3 (by decide +kernel) (fun h4 oz4 ek4 el4 => ?_)
  have om4 : h4[0]? = some (.inr (11, [.ref 1, .int 18, .ref 2, .ref 8, .ref 21, .ref 68, .ref 78])) := oz4
  have oa4 := (ek4 1 (by decide)).trans oa3
  show T_W _ (E_run _ E_m162 3944 (49, [(2, .int 16), (0, .ref 0), (1, .int v)], []) _ 0)
  refine T_of (S_go rfl rfl) ?_
  refine T_of (S_go rfl rfl) ?_
  refine T_of (S_go rfl rfl) ?_
  refine T_of (S_go rfl rfl) ?_
  refine T_of (S_go rfl rfl) ?_
  refine T_of (S_get rfl om4 rfl (by decide) rfl) ?_
  refine T_of (S_go rfl rfl) ?_
  show T_W _ (E_run _ E_m162 3937 (14, [(2, .int 8), (0, .ref 0), (1, .int v)], []) _ 0)
  refine T_of (S_go rfl rfl) ?_
  refine T_of (S_get rfl om4 rfl (by decide) rfl) ?_
  refine T_of (S_go rfl rfl) ?_
  refine T_of (S_get rfl om4 rfl (by decide) rfl) ?_
  refine T_alen rfl oa4 (by decide) ?_
  refine T_of (S_go rfl rfl) ?_
  show T_W _ (E_run _ E_m162 3931 (26, [(2, .int 8), (0, .ref 0), (1, .int v)], []) _ 0)
  refine T_of (S_go rfl rfl) ?_
  refine T_of (S_get rfl om4 rfl (by decide) rfl) ?_
  refine T_of (S_go rfl rfl) ?_
  refine T_of (S_get rfl om4 rfl (by decide) rfl) ?_
  refine T_of (S_go rfl rfl) ?_
  refine T_of (S_go rfl rfl) ?_
  refine T_of (S_go rfl rfl) ?_
  refine T_of (S_go rfl rfl) ?_
  refine T_bst rfl oa4 (by decide) (fun h5 g5 oa5 ek5 el5 => ?_)
  have om5 := (ek5 0 (by decide)).trans om4
  show T_W _ (E_run _ E_m162 3922 (39, [(2, .int 8), (0, .ref 0), (1, .int v)], []) _ 0)
  refine T_of (S_go rfl rfl) ?_
  refine T_of (S_go rfl rfl) ?_
  refine T_of (S_get rfl om5 rfl (by decide) rfl) ?_
  refine T_of (S_go rfl rfl) ?_
  refine T_of (S_go rfl rfl) ?_
  refine T_putf rfl om5 (by decide +kernel) (fun h6 oz6 ek6 el6 => ?_)
  have om6 : h6[0]? = some (.inr (11, [.ref 1, .int 19, .ref 2, .ref 8, .ref 21, .ref 68, .ref 78])) := oz6
  have oa6 := (ek6 1 (by decide)).trans oa5
  show T_W _ (E_run _ E_m162 3916 (49, [(2, .int 8), (0, .ref 0), (1, .int v)], []) _ 0)
  refine T_of (S_go rfl rfl) ?_
  refine T_of (S_go rfl rfl) ?_
  refine T_of (S_go rfl rfl) ?_
  refine T_of (S_go rfl rfl) ?_
  refine T_of (S_go rfl rfl) ?_
  refine T_of (S_get rfl om6 rfl (by decide) rfl) ?_
  refine T_of (S_go rfl rfl) ?_
  show T_W _ (E_run _ E_m162 3909 (14, [(2, .int 0), (0, .ref 0), (1, .int v)], []) _ 0)
  refine T_of (S_go rfl rfl) ?_
  refine T_of (S_get rfl om6 rfl (by decide) rfl) ?_
  refine T_of (S_go rfl rfl) ?_
  refine T_of (S_get rfl om6 rfl (by decide) rfl) ?_
  refine T_alen rfl oa6 (by decide) ?_
  refine T_of (S_go rfl rfl) ?_
  show T_W _ (E_run _ E_m162 3903 (26, [(2, .int 0), (0, .ref 0), (1, .int v)], []) _ 0)
  refine T_of (S_go rfl rfl) ?_
  refine T_of (S_get rfl om6 rfl (by decide) rfl) ?_
  refine T_of (S_go rfl rfl) ?_
  refine T_of (S_get rfl om6 rfl (by decide) rfl) ?_
  refine T_of (S_go rfl rfl) ?_
  refine T_of (S_go rfl rfl) ?_
  refine T_of (S_go rfl rfl) ?_
  refine T_of (S_go rfl rfl) ?_
  refine T_bst rfl oa6 (by decide) (fun h7 g7 oa7 ek7 el7 => ?_)
  have om7 := (ek7 0 (by decide)).trans om6
  show T_W _ (E_run _ E_m162 3894 (39, [(2, .int 0), (0, .ref 0), (1, .int v)], []) _ 0)
  refine T_of (S_go rfl rfl) ?_
  refine T_of (S_go rfl rfl) ?_
  refine T_of (S_get rfl om7 rfl (by decide) rfl) ?_
  refine T_of (S_go rfl rfl) ?_
  refine T_of (S_go rfl rfl) ?_
  refine T_putf rfl om7 (by decide +kernel) (fun h8 oz8 ek8 el8 => ?_)
  have om8 : h8[0]? = some (.inr (11, [.ref 1, .int 20, .ref 2, .ref 8, .ref 21, .ref 68, .ref 78])) := oz8
  have oa8 := (ek8 1 (by decide)).trans oa7
  show T_W _ (E_run _ E_m162 3888 (49, [(2, .int 0), (0, .ref 0), (1, .int v)], []) _ 0)
  refine T_of (S_go rfl rfl) ?_
  refine T_of (S_go rfl rfl) ?_
  refine T_of (S_go rfl rfl) ?_
  refine T_of (S_go rfl rfl) ?_
  exact T_end rfl ⟨rfl, rfl, om8, ⟨_, oa8⟩, fun j j0 j1 => (ek8 j j0).trans ((ek7 j j1).trans ((ek6 j j0).trans ((ek5 j j1).trans ((ek4 j j0).trans ((ek3 j j1).trans ((ek2 j j0).trans ((ek1 j j1)))))))), el8.trans (el7.trans (el6.trans (el5.trans (el4.trans (el3.trans (el2.trans (el1)))))))⟩
set_option maxRecDepth 100000 in
theorem X_feed {h : E_H} {g : Nat → Int32} (d : Nat) (a b c e f : Int32) (OM : h[0]? = some (.inr (11, [.ref 1, .int 0, .ref 2, .ref 8, .ref 21, .ref 68, .ref 78]))) (OA : h[1]? = some (.inl (1, 1000, .inl g))) : T_W (fun r => match r with | (x, h2, s2) => x = some (.int 20) ∧ s2 = 0 ∧ h2[0]? = some (.inr (11, [.ref 1, .int 20, .ref 2, .ref 8, .ref 21, .ref 68, .ref 78])) ∧ (∃ g2, h2[1]? = some (.inl (1, 1000, .inl g2))) ∧ (∀ j, j ≠ 0 → j ≠ 1 → h2[j]? = h[j]?) ∧ h2.length = h.length) (E_call 4000 (d + 2) 145 [.ref 0, .int a, .int b, .int c, .int e, .int f] h) := by
  refine T_call (M := E_m145) rfl (Nat.le_of_ble_eq_true rfl) ?_
  refine T_of (S_go rfl rfl) ?_
  refine T_of (S_get rfl OM rfl (by decide) rfl) ?_
  refine T_of (S_go rfl rfl) ?_
  refine T_of (S_go rfl rfl) ?_
  refine T_of (S_go rfl rfl) ?_
  refine T_of (S_go rfl rfl) ?_
  show T_W _ (E_run _ E_m145 3994 (15, [(0, .ref 0), (1, .int a), (2, .int b), (3, .int c), (4, .int e), (5, .int f)], []) _ 0)
  refine T_of (S_go rfl rfl) ?_
  refine T_of (S_go rfl rfl) ?_
  refine T_callV (M2 := E_m162) (o := 0) (As := [.int a]) rfl (by decide) rfl rfl rfl (by decide +kernel) OM (by decide) (Nat.le_of_ble_eq_true rfl) (X_wn0 _ a OM OA) (fun x1 h1 s1 hq1 => ?_)
  obtain ⟨rfl, rfl, om1, ⟨g1, oa1⟩, ek1, el1⟩ := hq1
  refine T_of (S_go rfl rfl) ?_
  refine T_of (S_go rfl rfl) ?_
  refine T_callV (M2 := E_m162) (o := 0) (As := [.int b]) rfl (by decide) rfl rfl rfl (by decide +kernel) om1 (by decide) (Nat.le_of_ble_eq_true rfl) (X_wn4 _ b om1 oa1) (fun x2 h2 s2 hq2 => ?_)
  obtain ⟨rfl, rfl, om2, ⟨g2, oa2⟩, ek2, el2⟩ := hq2
  show T_W _ (E_run _ E_m145 3988 (25, [(0, .ref 0), (1, .int a), (2, .int b), (3, .int c), (4, .int e), (5, .int f)], []) _ 0)
  refine T_of (S_go rfl rfl) ?_
  refine T_of (S_go rfl rfl) ?_
  refine T_callV (M2 := E_m162) (o := 0) (As := [.int c]) rfl (by decide) rfl rfl rfl (by decide +kernel) om2 (by decide) (Nat.le_of_ble_eq_true rfl) (X_wn8 _ c om2 oa2) (fun x3 h3 s3 hq3 => ?_)
  obtain ⟨rfl, rfl, om3, ⟨g3, oa3⟩, ek3, el3⟩ := hq3
  refine T_of (S_go rfl rfl) ?_
  refine T_of (S_go rfl rfl) ?_
  refine T_callV (M2 := E_m162) (o := 0) (As := [.int e]) rfl (by decide) rfl rfl rfl (by decide +kernel) om3 (by decide) (Nat.le_of_ble_eq_true rfl) (X_wn12 _ e om3 oa3) (fun x4 h4 s4 hq4 => ?_)
  obtain ⟨rfl, rfl, om4, ⟨g4, oa4⟩, ek4, el4⟩ := hq4
  show T_W _ (E_run _ E_m145 3982 (36, [(0, .ref 0), (1, .int a), (2, .int b), (3, .int c), (4, .int e), (5, .int f)], []) _ 0)
  refine T_of (S_go rfl rfl) ?_
  refine T_of (S_go rfl rfl) ?_
  refine T_callV (M2 := E_m162) (o := 0) (As := [.int f]) rfl (by decide) rfl rfl rfl (by decide +kernel) om4 (by decide) (Nat.le_of_ble_eq_true rfl) (X_wn16 _ f om4 oa4) (fun x5 h5 s5 hq5 => ?_)
  obtain ⟨rfl, rfl, om5, ⟨g5, oa5⟩, ek5, el5⟩ := hq5
  refine T_of (S_go rfl rfl) ?_
  refine T_of (S_get rfl om5 rfl (by decide) rfl) ?_
  exact T_end rfl ⟨rfl, rfl, om5, ⟨_, oa5⟩, fun j j0 j1 => (ek5 j j0 j1).trans ((ek4 j j0 j1).trans ((ek3 j j0 j1).trans ((ek2 j j0 j1).trans ((ek1 j j0 j1))))), el5.trans (el4.trans (el3.trans (el2.trans (el1))))⟩
set_option maxRecDepth 100000 in
set_option maxHeartbeats 4000000 in
theorem Y_feed {h : E_H} {g : Nat → Int32} (d : Nat) (a b c e f : Int32) (OM : h[83]? = some (.inr (12, [.ref 84, .int 0, .ref 85, .int 0, .ref 86, .ref 87, .ref 88, .int 0, .int 0, .ref 89, .ref 90, .ref 91, .ref 92, .int 0, .ref 93, .int 0, .int 0, .int 0, .int 0, .int 0, .int 0, .int (-1), .int 0, .ref 94, .ref 95, .long 0, .ref 96, .ref 97, .ref 98, .ref 99, .ref 100, .ref 101, .ref 102, .ref 103, .ref 104, .ref 105, .ref 106, .int 0, .ref 107, .ref 108, .ref 109, .int 0, .ref 110, .int 0, .ref 111, .ref 112, .ref 113, .ref 114, .int 0, .ref 115, .ref 116, .ref 117, .ref 118, .ref 119, .ref 120, .ref 121, .int 0, .ref 122, .ref 123, .int 0, .ref 124, .ref 125, .ref 126, .int 0, .ref 127, .ref 128, .ref 129, .ref 130, .int 0, .ref 131, .int 0, .int 0, .int 0, .long 0]))) (OA : h[84]? = some (.inl (0, 1000, .inl g))) : T_W (fun r => match r with | (x, h2, s2) => x = some (.int 20) ∧ s2 = 0 ∧ h2[83]? = some (.inr (12, [.ref 84, .int 20, .ref 85, .int 0, .ref 86, .ref 87, .ref 88, .int 0, .int 0, .ref 89, .ref 90, .ref 91, .ref 92, .int 0, .ref 93, .int 0, .int 0, .int 0, .int 0, .int 0, .int 0, .int (-1), .int 0, .ref 94, .ref 95, .long 0, .ref 96, .ref 97, .ref 98, .ref 99, .ref 100, .ref 101, .ref 102, .ref 103, .ref 104, .ref 105, .ref 106, .int 0, .ref 107, .ref 108, .ref 109, .int 0, .ref 110, .int 0, .ref 111, .ref 112, .ref 113, .ref 114, .int 0, .ref 115, .ref 116, .ref 117, .ref 118, .ref 119, .ref 120, .ref 121, .int 0, .ref 122, .ref 123, .int 0, .ref 124, .ref 125, .ref 126, .int 0, .ref 127, .ref 128, .ref 129, .ref 130, .int 0, .ref 131, .int 0, .int 0, .int 0, .long 0])) ∧ (∃ g2, h2[84]? = some (.inl (0, 1000, .inl g2))) ∧ (∀ j, j ≠ 83 → j ≠ 84 → h2[j]? = h[j]?) ∧ h2.length = h.length) (E_call 4000 (d + 1) 175 [.ref 83, .int a, .int b, .int c, .int e, .int f] h) := by
  refine T_call (M := E_m175) rfl (Nat.le_of_ble_eq_true rfl) ?_
  refine T_of (S_go rfl rfl) ?_
  refine T_of (S_get rfl OM rfl (by decide) rfl) ?_
  refine T_of (S_go rfl rfl) ?_
  refine T_of (S_go rfl rfl) ?_
  refine T_of (S_go rfl rfl) ?_
  refine T_of (S_go rfl rfl) ?_
  show T_W _ (E_run _ E_m175 3994 (15, [(0, .ref 83), (1, .int a), (2, .int b), (3, .int c), (4, .int e), (5, .int f)], []) _ 0)
  refine T_of (S_go rfl rfl) ?_
  refine T_of (S_go rfl rfl) ?_
  refine T_of (S_go rfl rfl) ?_
  refine T_of (S_go rfl rfl) ?_
  refine T_of (S_go rfl rfl) ?_
  show T_W _ (E_run _ E_m175 3989 (25, [(6, .int 0), (0, .ref 83), (1, .int a), (2, .int b), (3, .int c), (4, .int e), (5, .int f)], []) _ 0)
  refine T_of (S_go rfl rfl) ?_
  refine T_of (S_go rfl rfl) ?_
  refine T_of (S_go rfl rfl) ?_
  refine T_of (S_go rfl rfl) ?_
  refine T_of (S_go rfl rfl) ?_
  refine T_of (S_go rfl rfl) ?_
  show T_W _ (E_run _ E_m175 3983 (73, [(7, .int a), (6, .int 0), (0, .ref 83), (1, .int a), (2, .int b), (3, .int c), (4, .int e), (5, .int f)], []) _ 0)
  refine T_of (S_go rfl rfl) ?_
  refine T_of (S_get rfl OM rfl (by decide) rfl) ?_
  refine T_of (S_go rfl rfl) ?_
  refine T_of (S_get rfl OM rfl (by decide) rfl) ?_
  refine T_of (S_go rfl rfl) ?_
  refine T_of (S_go rfl rfl) ?_
  refine T_of (S_go rfl rfl) ?_
  refine T_of (S_go rfl rfl) ?_
  refine T_of (S_go rfl rfl) ?_
  refine T_of (S_go rfl rfl) ?_
  refine T_of (S_go rfl rfl) ?_
  refine T_of (S_go rfl rfl) ?_
  refine T_of (S_go rfl rfl) ?_
  refine T_of (S_go rfl rfl) ?_
  refine T_of (S_go rfl rfl) ?_
  refine T_ast rfl OA (by decide) (fun h1 g1 oa1 ek1 el1 => ?_)
  have om1 := (ek1 83 (by decide)).trans OM
  show T_W _ (E_run _ E_m175 3967 (99, [(7, .int a), (6, .int 0), (0, .ref 83), (1, .int a), (2, .int b), (3, .int c), (4, .int e), (5, .int f)], []) _ 0)
  refine T_of (S_go rfl rfl) ?_
  refine T_of (S_go rfl rfl) ?_
  refine T_of (S_get rfl om1 rfl (by decide) rfl) ?_
  refine T_of (S_go rfl rfl) ?_
  refine T_of (S_go rfl rfl) ?_
  refine T_putf rfl om1 (by decide +kernel) (fun h2 oz2 ek2 el2 => ?_)
  have om2 : h2[83]? = some (.inr (12, [.ref 84, .int 1, .ref 85, .int 0, .ref 86, .ref 87, .ref 88, .int 0, .int 0, .ref 89, .ref 90, .ref 91, .ref 92, .int 0, .ref 93, .int 0, .int 0, .int 0, .int 0, .int 0, .int 0, .int (-1), .int 0, .ref 94, .ref 95, .long 0, .ref 96, .ref 97, .ref 98, .ref 99, .ref 100, .ref 101, .ref 102, .ref 103, .ref 104, .ref 105, .ref 106, .int 0, .ref 107, .ref 108, .ref 109, .int 0, .ref 110, .int 0, .ref 111, .ref 112, .ref 113, .ref 114, .int 0, .ref 115, .ref 116, .ref 117, .ref 118, .ref 119, .ref 120, .ref 121, .int 0, .ref 122, .ref 123, .int 0, .ref 124, .ref 125, .ref 126, .int 0, .ref 127, .ref 128, .ref 129, .ref 130, .int 0, .ref 131, .int 0, .int 0, .int 0, .long 0])) := oz2
  have oa2 := (ek2 84 (by decide)).trans oa1
  show T_W _ (E_run _ E_m175 3961 (109, [(7, .int a), (6, .int 0), (0, .ref 83), (1, .int a), (2, .int b), (3, .int c), (4, .int e), (5, .int f)], []) _ 0)
  refine T_of (S_go rfl rfl) ?_
  refine T_of (S_go rfl rfl) ?_
  refine T_of (S_go rfl rfl) ?_
  refine T_of (S_go rfl rfl) ?_
  refine T_of (S_go rfl rfl) ?_
  show T_W _ (E_run _ E_m175 3956 (25, [(6, .int 1), (7, .int a), (0, .ref 83), (1, .int a), (2, .int b), (3, .int c), (4, .int e), (5, .int f)], []) _ 0)
  refine T_of (S_go rfl rfl) ?_
  refine T_of (S_go rfl rfl) ?_
  refine T_of (S_go rfl rfl) ?_
  refine T_of (S_go rfl rfl) ?_
  refine T_of (S_go rfl rfl) ?_
  refine T_of (S_go rfl rfl) ?_
  show T_W _ (E_run _ E_m175 3950 (73, [(7, .int a), (6, .int 1), (0, .ref 83), (1, .int a), (2, .int b), (3, .int c), (4, .int e), (5, .int f)], []) _ 0)
  refine T_of (S_go rfl rfl) ?_
  refine T_of (S_get rfl om2 rfl (by decide) rfl) ?_
  refine T_of (S_go rfl rfl) ?_
  refine T_of (S_get rfl om2 rfl (by decide) rfl) ?_
  refine T_of (S_go rfl rfl) ?_
  refine T_of (S_go rfl rfl) ?_
  refine T_of (S_go rfl rfl) ?_
  refine T_of (S_go rfl rfl) ?_
  refine T_of (S_go rfl rfl) ?_
  refine T_of (S_go rfl rfl) ?_
  refine T_of (S_go rfl rfl) ?_
  refine T_of (S_go rfl rfl) ?_
  refine T_of (S_go rfl rfl) ?_
  refine T_of (S_go rfl rfl) ?_
  refine T_of (S_go rfl rfl) ?_
  refine T_ast rfl oa2 (by decide) (fun h3 g3 oa3 ek3 el3 => ?_)
  have om3 := (ek3 83 (by decide)).trans om2
  show T_W _ (E_run _ E_m175 3934 (99, [(7, .int a), (6, .int 1), (0, .ref 83), (1, .int a), (2, .int b), (3, .int c), (4, .int e), (5, .int f)], []) _ 0)
  refine T_of (S_go rfl rfl) ?_
  refine T_of (S_go rfl rfl) ?_
  refine T_of (S_get rfl om3 rfl (by decide) rfl) ?_
  refine T_of (S_go rfl rfl) ?_
  refine T_of (S_go rfl rfl) ?_
  refine T_putf rfl om3 (by decide +kernel) (fun h4 oz4 ek4 el4 => ?_)
  have om4 : h4[83]? = some (.inr (12, [.ref 84, .int 2, .ref 85, .int 0, .ref 86, .ref 87, .ref 88, .int 0, .int 0, .ref 89, .ref 90, .ref 91, .ref 92, .int 0, .ref 93, .int 0, .int 0, .int 0, .int 0, .int 0, .int 0, .int (-1), .int 0, .ref 94, .ref 95, .long 0, .ref 96, .ref 97, .ref 98, .ref 99, .ref 100, .ref 101, .ref 102, .ref 103, .ref 104, .ref 105, .ref 106, .int 0, .ref 107, .ref 108, .ref 109, .int 0, .ref 110, .int 0, .ref 111, .ref 112, .ref 113, .ref 114, .int 0, .ref 115, .ref 116, .ref 117, .ref 118, .ref 119, .ref 120, .ref 121, .int 0, .ref 122, .ref 123, .int 0, .ref 124, .ref 125, .ref 126, .int 0, .ref 127, .ref 128, .ref 129, .ref 130, .int 0, .ref 131, .int 0, .int 0, .int 0, .long 0])) := oz4
  have oa4 := (ek4 84 (by decide)).trans oa3
  show T_W _ (E_run _ E_m175 3928 (109, [(7, .int a), (6, .int 1), (0, .ref 83), (1, .int a), (2, .int b), (3, .int c), (4, .int e), (5, .int f)], []) _ 0)
  refine T_of (S_go rfl rfl) ?_
  refine T_of (S_go rfl rfl) ?_
  refine T_of (S_go rfl rfl) ?_
  refine T_of (S_go rfl rfl) ?_
  refine T_of (S_go rfl rfl) ?_
  show T_W _ (E_run _ E_m175 3923 (25, [(6, .int 2), (7, .int a), (0, .ref 83), (1, .int a), (2, .int b), (3, .int c), (4, .int e), (5, .int f)], []) _ 0)
  refine T_of (S_go rfl rfl) ?_
  refine T_of (S_go rfl rfl) ?_
  refine T_of (S_go rfl rfl) ?_
  refine T_of (S_go rfl rfl) ?_
  refine T_of (S_go rfl rfl) ?_
  refine T_of (S_go rfl rfl) ?_
  show T_W _ (E_run _ E_m175 3917 (73, [(7, .int a), (6, .int 2), (0, .ref 83), (1, .int a), (2, .int b), (3, .int c), (4, .int e), (5, .int f)], []) _ 0)
  refine T_of (S_go rfl rfl) ?_
  refine T_of (S_get rfl om4 rfl (by decide) rfl) ?_
  refine T_of (S_go rfl rfl) ?_
  refine T_of (S_get rfl om4 rfl (by decide) rfl) ?_
  refine T_of (S_go rfl rfl) ?_
  refine T_of (S_go rfl rfl) ?_
  refine T_of (S_go rfl rfl) ?_
  refine T_of (S_go rfl rfl) ?_
  refine T_of (S_go rfl rfl) ?_
  refine T_of (S_go rfl rfl) ?_
  refine T_of (S_go rfl rfl) ?_
  refine T_of (S_go rfl rfl) ?_
  refine T_of (S_go rfl rfl) ?_
  refine T_of (S_go rfl rfl) ?_
  refine T_of (S_go rfl rfl) ?_
  refine T_ast rfl oa4 (by decide) (fun h5 g5 oa5 ek5 el5 => ?_)
  have om5 := (ek5 83 (by decide)).trans om4
  show T_W _ (E_run _ E_m175 3901 (99, [(7, .int a), (6, .int 2), (0, .ref 83), (1, .int a), (2, .int b), (3, .int c), (4, .int e), (5, .int f)], []) _ 0)
  refine T_of (S_go rfl rfl) ?_
  refine T_of (S_go rfl rfl) ?_
  refine T_of (S_get rfl om5 rfl (by decide) rfl) ?_
  refine T_of (S_go rfl rfl) ?_
  refine T_of (S_go rfl rfl) ?_
  refine T_putf rfl om5 (by decide +kernel) (fun h6 oz6 ek6 el6 => ?_)
  have om6 : h6[83]? = some (.inr (12, [.ref 84, .int 3, .ref 85, .int 0, .ref 86, .ref 87, .ref 88, .int 0, .int 0, .ref 89, .ref 90, .ref 91, .ref 92, .int 0, .ref 93, .int 0, .int 0, .int 0, .int 0, .int 0, .int 0, .int (-1), .int 0, .ref 94, .ref 95, .long 0, .ref 96, .ref 97, .ref 98, .ref 99, .ref 100, .ref 101, .ref 102, .ref 103, .ref 104, .ref 105, .ref 106, .int 0, .ref 107, .ref 108, .ref 109, .int 0, .ref 110, .int 0, .ref 111, .ref 112, .ref 113, .ref 114, .int 0, .ref 115, .ref 116, .ref 117, .ref 118, .ref 119, .ref 120, .ref 121, .int 0, .ref 122, .ref 123, .int 0, .ref 124, .ref 125, .ref 126, .int 0, .ref 127, .ref 128, .ref 129, .ref 130, .int 0, .ref 131, .int 0, .int 0, .int 0, .long 0])) := oz6
  have oa6 := (ek6 84 (by decide)).trans oa5
  show T_W _ (E_run _ E_m175 3895 (109, [(7, .int a), (6, .int 2), (0, .ref 83), (1, .int a), (2, .int b), (3, .int c), (4, .int e), (5, .int f)], []) _ 0)
  refine T_of (S_go rfl rfl) ?_
  refine T_of (S_go rfl rfl) ?_
  refine T_of (S_go rfl rfl) ?_
  refine T_of (S_go rfl rfl) ?_
  refine T_of (S_go rfl rfl) ?_
  show T_W _ (E_run _ E_m175 3890 (25, [(6, .int 3), (7, .int a), (0, .ref 83), (1, .int a), (2, .int b), (3, .int c), (4, .int e), (5, .int f)], []) _ 0)
  refine T_of (S_go rfl rfl) ?_
  refine T_of (S_go rfl rfl) ?_
  refine T_of (S_go rfl rfl) ?_
  refine T_of (S_go rfl rfl) ?_
  refine T_of (S_go rfl rfl) ?_
  refine T_of (S_go rfl rfl) ?_
  show T_W _ (E_run _ E_m175 3884 (73, [(7, .int a), (6, .int 3), (0, .ref 83), (1, .int a), (2, .int b), (3, .int c), (4, .int e), (5, .int f)], []) _ 0)
  refine T_of (S_go rfl rfl) ?_
  refine T_of (S_get rfl om6 rfl (by decide) rfl) ?_
  refine T_of (S_go rfl rfl) ?_
  refine T_of (S_get rfl om6 rfl (by decide) rfl) ?_
  refine T_of (S_go rfl rfl) ?_
  refine T_of (S_go rfl rfl) ?_
  refine T_of (S_go rfl rfl) ?_
  refine T_of (S_go rfl rfl) ?_
  refine T_of (S_go rfl rfl) ?_
  refine T_of (S_go rfl rfl) ?_
  refine T_of (S_go rfl rfl) ?_
  refine T_of (S_go rfl rfl) ?_
  refine T_of (S_go rfl rfl) ?_
  refine T_of (S_go rfl rfl) ?_
  refine T_of (S_go rfl rfl) ?_
  refine T_ast rfl oa6 (by decide) (fun h7 g7 oa7 ek7 el7 => ?_)
  have om7 := (ek7 83 (by decide)).trans om6
  show T_W _ (E_run _ E_m175 3868 (99, [(7, .int a), (6, .int 3), (0, .ref 83), (1, .int a), (2, .int b), (3, .int c), (4, .int e), (5, .int f)], []) _ 0)
  refine T_of (S_go rfl rfl) ?_
  refine T_of (S_go rfl rfl) ?_
  refine T_of (S_get rfl om7 rfl (by decide) rfl) ?_
  refine T_of (S_go rfl rfl) ?_
  refine T_of (S_go rfl rfl) ?_
  refine T_putf rfl om7 (by decide +kernel) (fun h8 oz8 ek8 el8 => ?_)
  have om8 : h8[83]? = some (.inr (12, [.ref 84, .int 4, .ref 85, .int 0, .ref 86, .ref 87, .ref 88, .int 0, .int 0, .ref 89, .ref 90, .ref 91, .ref 92, .int 0, .ref 93, .int 0, .int 0, .int 0, .int 0, .int 0, .int 0, .int (-1), .int 0, .ref 94, .ref 95, .long 0, .ref 96, .ref 97, .ref 98, .ref 99, .ref 100, .ref 101, .ref 102, .ref 103, .ref 104, .ref 105, .ref 106, .int 0, .ref 107, .ref 108, .ref 109, .int 0, .ref 110, .int 0, .ref 111, .ref 112, .ref 113, .ref 114, .int 0, .ref 115, .ref 116, .ref 117, .ref 118, .ref 119, .ref 120, .ref 121, .int 0, .ref 122, .ref 123, .int 0, .ref 124, .ref 125, .ref 126, .int 0, .ref 127, .ref 128, .ref 129, .ref 130, .int 0, .ref 131, .int 0, .int 0, .int 0, .long 0])) := oz8
  have oa8 := (ek8 84 (by decide)).trans oa7
  show T_W _ (E_run _ E_m175 3862 (109, [(7, .int a), (6, .int 3), (0, .ref 83), (1, .int a), (2, .int b), (3, .int c), (4, .int e), (5, .int f)], []) _ 0)
  refine T_of (S_go rfl rfl) ?_
  refine T_of (S_go rfl rfl) ?_
  refine T_of (S_go rfl rfl) ?_
  refine T_of (S_go rfl rfl) ?_
  refine T_of (S_go rfl rfl) ?_
  show T_W _ (E_run _ E_m175 3857 (25, [(6, .int 4), (7, .int a), (0, .ref 83), (1, .int a), (2, .int b), (3, .int c), (4, .int e), (5, .int f)], []) _ 0)
  refine T_of (S_go rfl rfl) ?_
  refine T_of (S_go rfl rfl) ?_
  refine T_of (S_go rfl rfl) ?_
  refine T_of (S_go rfl rfl) ?_
  refine T_of (S_go rfl rfl) ?_
  refine T_of (S_go rfl rfl) ?_
  show T_W _ (E_run _ E_m175 3851 (42, [(6, .int 4), (7, .int a), (0, .ref 83), (1, .int a), (2, .int b), (3, .int c), (4, .int e), (5, .int f)], []) _ 0)
  refine T_of (S_go rfl rfl) ?_
  refine T_of (S_go rfl rfl) ?_
  refine T_of (S_go rfl rfl) ?_
  refine T_of (S_go rfl rfl) ?_
  refine T_of (S_get rfl om8 rfl (by decide) rfl) ?_
  refine T_of (S_go rfl rfl) ?_
  refine T_of (S_get rfl om8 rfl (by decide) rfl) ?_
  refine T_of (S_go rfl rfl) ?_
  refine T_of (S_go rfl rfl) ?_
  refine T_of (S_go rfl rfl) ?_
  refine T_of (S_go rfl rfl) ?_
  refine T_of (S_go rfl rfl) ?_
  refine T_of (S_go rfl rfl) ?_
  refine T_of (S_go rfl rfl) ?_
  refine T_of (S_go rfl rfl) ?_
  refine T_of (S_go rfl rfl) ?_
  refine T_of (S_go rfl rfl) ?_
  refine T_of (S_go rfl rfl) ?_
  refine T_ast rfl oa8 (by decide) (fun h9 g9 oa9 ek9 el9 => ?_)
  have om9 := (ek9 83 (by decide)).trans om8
  show T_W _ (E_run _ E_m175 3832 (99, [(7, .int b), (6, .int 4), (0, .ref 83), (1, .int a), (2, .int b), (3, .int c), (4, .int e), (5, .int f)], []) _ 0)
  refine T_of (S_go rfl rfl) ?_
  refine T_of (S_go rfl rfl) ?_
  refine T_of (S_get rfl om9 rfl (by decide) rfl) ?_
  refine T_of (S_go rfl rfl) ?_
  refine T_of (S_go rfl rfl) ?_
  refine T_putf rfl om9 (by decide +kernel) (fun h10 oz10 ek10 el10 => ?_)
  have om10 : h10[83]? = some (.inr (12, [.ref 84, .int 5, .ref 85, .int 0, .ref 86, .ref 87, .ref 88, .int 0, .int 0, .ref 89, .ref 90, .ref 91, .ref 92, .int 0, .ref 93, .int 0, .int 0, .int 0, .int 0, .int 0, .int 0, .int (-1), .int 0, .ref 94, .ref 95, .long 0, .ref 96, .ref 97, .ref 98, .ref 99, .ref 100, .ref 101, .ref 102, .ref 103, .ref 104, .ref 105, .ref 106, .int 0, .ref 107, .ref 108, .ref 109, .int 0, .ref 110, .int 0, .ref 111, .ref 112, .ref 113, .ref 114, .int 0, .ref 115, .ref 116, .ref 117, .ref 118, .ref 119, .ref 120, .ref 121, .int 0, .ref 122, .ref 123, .int 0, .ref 124, .ref 125, .ref 126, .int 0, .ref 127, .ref 128, .ref 129, .ref 130, .int 0, .ref 131, .int 0, .int 0, .int 0, .long 0])) := oz10
  have oa10 := (ek10 84 (by decide)).trans oa9
  show T_W _ (E_run _ E_m175 3826 (109, [(7, .int b), (6, .int 4), (0, .ref 83), (1, .int a), (2, .int b), (3, .int c), (4, .int e), (5, .int f)], []) _ 0)
  refine T_of (S_go rfl rfl) ?_
  refine T_of (S_go rfl rfl) ?_
  refine T_of (S_go rfl rfl) ?_
  refine T_of (S_go rfl rfl) ?_
  refine T_of (S_go rfl rfl) ?_
  show T_W _ (E_run _ E_m175 3821 (25, [(6, .int 5), (7, .int b), (0, .ref 83), (1, .int a), (2, .int b), (3, .int c), (4, .int e), (5, .int f)], []) _ 0)
  refine T_of (S_go rfl rfl) ?_
  refine T_of (S_go rfl rfl) ?_
  refine T_of (S_go rfl rfl) ?_
  refine T_of (S_go rfl rfl) ?_
  refine T_of (S_go rfl rfl) ?_
  refine T_of (S_go rfl rfl) ?_
  show T_W _ (E_run _ E_m175 3815 (42, [(6, .int 5), (7, .int b), (0, .ref 83), (1, .int a), (2, .int b), (3, .int c), (4, .int e), (5, .int f)], []) _ 0)
  refine T_of (S_go rfl rfl) ?_
  refine T_of (S_go rfl rfl) ?_
  refine T_of (S_go rfl rfl) ?_
  refine T_of (S_go rfl rfl) ?_
  refine T_of (S_get rfl om10 rfl (by decide) rfl) ?_
  refine T_of (S_go rfl rfl) ?_
  refine T_of (S_get rfl om10 rfl (by decide) rfl) ?_
  refine T_of (S_go rfl rfl) ?_
  refine T_of (S_go rfl rfl) ?_
  refine T_of (S_go rfl rfl) ?_
  refine T_of (S_go rfl rfl) ?_
  refine T_of (S_go rfl rfl) ?_
  refine T_of (S_go rfl rfl) ?_
  refine T_of (S_go rfl rfl) ?_
  refine T_of (S_go rfl rfl) ?_
  refine T_of (S_go rfl rfl) ?_
  refine T_of (S_go rfl rfl) ?_
  refine T_of (S_go rfl rfl) ?_
  refine T_ast rfl oa10 (by decide) (fun h11 g11 oa11 ek11 el11 => ?_)
  have om11 := (ek11 83 (by decide)).trans om10
  show T_W _ (E_run _ E_m175 3796 (99, [(7, .int b), (6, .int 5), (0, .ref 83), (1, .int a), (2, .int b), (3, .int c), (4, .int e), (5, .int f)], []) _ 0)
  refine T_of (S_go rfl rfl) ?_
  refine T_of (S_go rfl rfl) ?_
  refine T_of (S_get rfl om11 rfl (by decide) rfl) ?_
  refine T_of (S_go rfl rfl) ?_
  refine T_of (S_go rfl rfl) ?_
  refine T_putf rfl om11 (by decide +kernel) (fun h12 oz12 ek12 el12 => ?_)
  have om12 : h12[83]? = some (.inr (12, [.ref 84, .int 6, .ref 85, .int 0, .ref 86, .ref 87, .ref 88, .int 0, .int 0, .ref 89, .ref 90, .ref 91, .ref 92, .int 0, .ref 93, .int 0, .int 0, .int 0, .int 0, .int 0, .int 0, .int (-1), .int 0, .ref 94, .ref 95, .long 0, .ref 96, .ref 97, .ref 98, .ref 99, .ref 100, .ref 101, .ref 102, .ref 103, .ref 104, .ref 105, .ref 106, .int 0, .ref 107, .ref 108, .ref 109, .int 0, .ref 110, .int 0, .ref 111, .ref 112, .ref 113, .ref 114, .int 0, .ref 115, .ref 116, .ref 117, .ref 118, .ref 119, .ref 120, .ref 121, .int 0, .ref 122, .ref 123, .int 0, .ref 124, .ref 125, .ref 126, .int 0, .ref 127, .ref 128, .ref 129, .ref 130, .int 0, .ref 131, .int 0, .int 0, .int 0, .long 0])) := oz12
  have oa12 := (ek12 84 (by decide)).trans oa11
  show T_W _ (E_run _ E_m175 3790 (109, [(7, .int b), (6, .int 5), (0, .ref 83), (1, .int a), (2, .int b), (3, .int c), (4, .int e), (5, .int f)], []) _ 0)
  refine T_of (S_go rfl rfl) ?_
  refine T_of (S_go rfl rfl) ?_
  refine T_of (S_go rfl rfl) ?_
  refine T_of (S_go rfl rfl) ?_
  refine T_of (S_go rfl rfl) ?_
  show T_W _ (E_run _ E_m175 3785 (25, [(6, .int 6), (7, .int b), (0, .ref 83), (1, .int a), (2, .int b), (3, .int c), (4, .int e), (5, .int f)], []) _ 0)
  refine T_of (S_go rfl rfl) ?_
  refine T_of (S_go rfl rfl) ?_
  refine T_of (S_go rfl rfl) ?_
  refine T_of (S_go rfl rfl) ?_
  refine T_of (S_go rfl rfl) ?_
  refine T_of (S_go rfl rfl) ?_
  show T_W _ (E_run _ E_m175 3779 (42, [(6, .int 6), (7, .int b), (0, .ref 83), (1, .int a), (2, .int b), (3, .int c), (4, .int e), (5, .int f)], []) _ 0)
  refine T_of (S_go rfl rfl) ?_
  refine T_of (S_go rfl rfl) ?_
  refine T_of (S_go rfl rfl) ?_
  refine T_of (S_go rfl rfl) ?_
  refine T_of (S_get rfl om12 rfl (by decide) rfl) ?_
  refine T_of (S_go rfl rfl) ?_
  refine T_of (S_get rfl om12 rfl (by decide) rfl) ?_
  refine T_of (S_go rfl rfl) ?_
  refine T_of (S_go rfl rfl) ?_
  refine T_of (S_go rfl rfl) ?_
  refine T_of (S_go rfl rfl) ?_
  refine T_of (S_go rfl rfl) ?_
  refine T_of (S_go rfl rfl) ?_
  refine T_of (S_go rfl rfl) ?_
  refine T_of (S_go rfl rfl) ?_
  refine T_of (S_go rfl rfl) ?_
  refine T_of (S_go rfl rfl) ?_
  refine T_of (S_go rfl rfl) ?_
  refine T_ast rfl oa12 (by decide) (fun h13 g13 oa13 ek13 el13 => ?_)
  have om13 := (ek13 83 (by decide)).trans om12
  show T_W _ (E_run _ E_m175 3760 (99, [(7, .int b), (6, .int 6), (0, .ref 83), (1, .int a), (2, .int b), (3, .int c), (4, .int e), (5, .int f)], []) _ 0)
  refine T_of (S_go rfl rfl) ?_
  refine T_of (S_go rfl rfl) ?_
  refine T_of (S_get rfl om13 rfl (by decide) rfl) ?_
  refine T_of (S_go rfl rfl) ?_
  refine T_of (S_go rfl rfl) ?_
  refine T_putf rfl om13 (by decide +kernel) (fun h14 oz14 ek14 el14 => ?_)
  have om14 : h14[83]? = some (.inr (12, [.ref 84, .int 7, .ref 85, .int 0, .ref 86, .ref 87, .ref 88, .int 0, .int 0, .ref 89, .ref 90, .ref 91, .ref 92, .int 0, .ref 93, .int 0, .int 0, .int 0, .int 0, .int 0, .int 0, .int (-1), .int 0, .ref 94, .ref 95, .long 0, .ref 96, .ref 97, .ref 98, .ref 99, .ref 100, .ref 101, .ref 102, .ref 103, .ref 104, .ref 105, .ref 106, .int 0, .ref 107, .ref 108, .ref 109, .int 0, .ref 110, .int 0, .ref 111, .ref 112, .ref 113, .ref 114, .int 0, .ref 115, .ref 116, .ref 117, .ref 118, .ref 119, .ref 120, .ref 121, .int 0, .ref 122, .ref 123, .int 0, .ref 124, .ref 125, .ref 126, .int 0, .ref 127, .ref 128, .ref 129, .ref 130, .int 0, .ref 131, .int 0, .int 0, .int 0, .long 0])) := oz14
  have oa14 := (ek14 84 (by decide)).trans oa13
  show T_W _ (E_run _ E_m175 3754 (109, [(7, .int b), (6, .int 6), (0, .ref 83), (1, .int a), (2, .int b), (3, .int c), (4, .int e), (5, .int f)], []) _ 0)
  refine T_of (S_go rfl rfl) ?_
  refine T_of (S_go rfl rfl) ?_
  refine T_of (S_go rfl rfl) ?_
  refine T_of (S_go rfl rfl) ?_
  refine T_of (S_go rfl rfl) ?_
  show T_W _ (E_run _ E_m175 3749 (25, [(6, .int 7), (7, .int b), (0, .ref 83), (1, .int a), (2, .int b), (3, .int c), (4, .int e), (5, .int f)], []) _ 0)
  refine T_of (S_go rfl rfl) ?_
  refine T_of (S_go rfl rfl) ?_
  refine T_of (S_go rfl rfl) ?_
  refine T_of (S_go rfl rfl) ?_
  refine T_of (S_go rfl rfl) ?_
  refine T_of (S_go rfl rfl) ?_
  show T_W _ (E_run _ E_m175 3743 (42, [(6, .int 7), (7, .int b), (0, .ref 83), (1, .int a), (2, .int b), (3, .int c), (4, .int e), (5, .int f)], []) _ 0)
  refine T_of (S_go rfl rfl) ?_
  refine T_of (S_go rfl rfl) ?_
  refine T_of (S_go rfl rfl) ?_
  refine T_of (S_go rfl rfl) ?_
  refine T_of (S_get rfl om14 rfl (by decide) rfl) ?_
  refine T_of (S_go rfl rfl) ?_
  refine T_of (S_get rfl om14 rfl (by decide) rfl) ?_
  refine T_of (S_go rfl rfl) ?_
  refine T_of (S_go rfl rfl) ?_
  refine T_of (S_go rfl rfl) ?_
  refine T_of (S_go rfl rfl) ?_
  refine T_of (S_go rfl rfl) ?_
  refine T_of (S_go rfl rfl) ?_
  refine T_of (S_go rfl rfl) ?_
  refine T_of (S_go rfl rfl) ?_
  refine T_of (S_go rfl rfl) ?_
  refine T_of (S_go rfl rfl) ?_
  refine T_of (S_go rfl rfl) ?_
  refine T_ast rfl oa14 (by decide) (fun h15 g15 oa15 ek15 el15 => ?_)
  have om15 := (ek15 83 (by decide)).trans om14
  show T_W _ (E_run _ E_m175 3724 (99, [(7, .int b), (6, .int 7), (0, .ref 83), (1, .int a), (2, .int b), (3, .int c), (4, .int e), (5, .int f)], []) _ 0)
  refine T_of (S_go rfl rfl) ?_
  refine T_of (S_go rfl rfl) ?_
  refine T_of (S_get rfl om15 rfl (by decide) rfl) ?_
  refine T_of (S_go rfl rfl) ?_
  refine T_of (S_go rfl rfl) ?_
  refine T_putf rfl om15 (by decide +kernel) (fun h16 oz16 ek16 el16 => ?_)
  have om16 : h16[83]? = some (.inr (12, [.ref 84, .int 8, .ref 85, .int 0, .ref 86, .ref 87, .ref 88, .int 0, .int 0, .ref 89, .ref 90, .ref 91, .ref 92, .int 0, .ref 93, .int 0, .int 0, .int 0, .int 0, .int 0, .int 0, .int (-1), .int 0, .ref 94, .ref 95, .long 0, .ref 96, .ref 97, .ref 98, .ref 99, .ref 100, .ref 101, .ref 102, .ref 103, .ref 104, .ref 105, .ref 106, .int 0, .ref 107, .ref 108, .ref 109, .int 0, .ref 110, .int 0, .ref 111, .ref 112, .ref 113, .ref 114, .int 0, .ref 115, .ref 116, .ref 117, .ref 118, .ref 119, .ref 120, .ref 121, .int 0, .ref 122, .ref 123, .int 0, .ref 124, .ref 125, .ref 126, .int 0, .ref 127, .ref 128, .ref 129, .ref 130, .int 0, .ref 131, .int 0, .int 0, .int 0, .long 0])) := oz16
  have oa16 := (ek16 84 (by decide)).trans oa15
  show T_W _ (E_run _ E_m175 3718 (109, [(7, .int b), (6, .int 7), (0, .ref 83), (1, .int a), (2, .int b), (3, .int c), (4, .int e), (5, .int f)], []) _ 0)
  refine T_of (S_go rfl rfl) ?_
  refine T_of (S_go rfl rfl) ?_
  refine T_of (S_go rfl rfl) ?_
  refine T_of (S_go rfl rfl) ?_
  refine T_of (S_go rfl rfl) ?_
  show T_W _ (E_run _ E_m175 3713 (25, [(6, .int 8), (7, .int b), (0, .ref 83), (1, .int a), (2, .int b), (3, .int c), (4, .int e), (5, .int f)], []) _ 0)
  refine T_of (S_go rfl rfl) ?_
  refine T_of (S_go rfl rfl) ?_
  refine T_of (S_go rfl rfl) ?_
  refine T_of (S_go rfl rfl) ?_
  refine T_of (S_go rfl rfl) ?_
  refine T_of (S_go rfl rfl) ?_
  show T_W _ (E_run _ E_m175 3707 (46, [(6, .int 8), (7, .int b), (0, .ref 83), (1, .int a), (2, .int b), (3, .int c), (4, .int e), (5, .int f)], []) _ 0)
  refine T_of (S_go rfl rfl) ?_
  refine T_of (S_go rfl rfl) ?_
  refine T_of (S_go rfl rfl) ?_
  refine T_of (S_go rfl rfl) ?_
  refine T_of (S_go rfl rfl) ?_
  refine T_of (S_go rfl rfl) ?_
  show T_W _ (E_run _ E_m175 3701 (73, [(7, .int c), (6, .int 8), (0, .ref 83), (1, .int a), (2, .int b), (3, .int c), (4, .int e), (5, .int f)], []) _ 0)
  refine T_of (S_go rfl rfl) ?_
  refine T_of (S_get rfl om16 rfl (by decide) rfl) ?_
  refine T_of (S_go rfl rfl) ?_
  refine T_of (S_get rfl om16 rfl (by decide) rfl) ?_
  refine T_of (S_go rfl rfl) ?_
  refine T_of (S_go rfl rfl) ?_
  refine T_of (S_go rfl rfl) ?_
  refine T_of (S_go rfl rfl) ?_
  refine T_of (S_go rfl rfl) ?_
  refine T_of (S_go rfl rfl) ?_
  refine T_of (S_go rfl rfl) ?_
  refine T_of (S_go rfl rfl) ?_
  refine T_of (S_go rfl rfl) ?_
  refine T_of (S_go rfl rfl) ?_
  refine T_of (S_go rfl rfl) ?_
  refine T_ast rfl oa16 (by decide) (fun h17 g17 oa17 ek17 el17 => ?_)
  have om17 := (ek17 83 (by decide)).trans om16
  show T_W _ (E_run _ E_m175 3685 (99, [(7, .int c), (6, .int 8), (0, .ref 83), (1, .int a), (2, .int b), (3, .int c), (4, .int e), (5, .int f)], []) _ 0)
  refine T_of (S_go rfl rfl) ?_
  refine T_of (S_go rfl rfl) ?_
  refine T_of (S_get rfl om17 rfl (by decide) rfl) ?_
  refine T_of (S_go rfl rfl) ?_
  refine T_of (S_go rfl rfl) ?_
  refine T_putf rfl om17 (by decide +kernel) (fun h18 oz18 ek18 el18 => ?_)
  have om18 : h18[83]? = some (.inr (12, [.ref 84, .int 9, .ref 85, .int 0, .ref 86, .ref 87, .ref 88, .int 0, .int 0, .ref 89, .ref 90, .ref 91, .ref 92, .int 0, .ref 93, .int 0, .int 0, .int 0, .int 0, .int 0, .int 0, .int (-1), .int 0, .ref 94, .ref 95, .long 0, .ref 96, .ref 97, .ref 98, .ref 99, .ref 100, .ref 101, .ref 102, .ref 103, .ref 104, .ref 105, .ref 106, .int 0, .ref 107, .ref 108, .ref 109, .int 0, .ref 110, .int 0, .ref 111, .ref 112, .ref 113, .ref 114, .int 0, .ref 115, .ref 116, .ref 117, .ref 118, .ref 119, .ref 120, .ref 121, .int 0, .ref 122, .ref 123, .int 0, .ref 124, .ref 125, .ref 126, .int 0, .ref 127, .ref 128, .ref 129, .ref 130, .int 0, .ref 131, .int 0, .int 0, .int 0, .long 0])) := oz18
  have oa18 := (ek18 84 (by decide)).trans oa17
  show T_W _ (E_run _ E_m175 3679 (109, [(7, .int c), (6, .int 8), (0, .ref 83), (1, .int a), (2, .int b), (3, .int c), (4, .int e), (5, .int f)], []) _ 0)
  refine T_of (S_go rfl rfl) ?_
  refine T_of (S_go rfl rfl) ?_
  refine T_of (S_go rfl rfl) ?_
  refine T_of (S_go rfl rfl) ?_
  refine T_of (S_go rfl rfl) ?_
  show T_W _ (E_run _ E_m175 3674 (25, [(6, .int 9), (7, .int c), (0, .ref 83), (1, .int a), (2, .int b), (3, .int c), (4, .int e), (5, .int f)], []) _ 0)
  refine T_of (S_go rfl rfl) ?_
  refine T_of (S_go rfl rfl) ?_
  refine T_of (S_go rfl rfl) ?_
  refine T_of (S_go rfl rfl) ?_
  refine T_of (S_go rfl rfl) ?_
  refine T_of (S_go rfl rfl) ?_
  show T_W _ (E_run _ E_m175 3668 (46, [(6, .int 9), (7, .int c), (0, .ref 83), (1, .int a), (2, .int b), (3, .int c), (4, .int e), (5, .int f)], []) _ 0)
  refine T_of (S_go rfl rfl) ?_
  refine T_of (S_go rfl rfl) ?_
  refine T_of (S_go rfl rfl) ?_
  refine T_of (S_go rfl rfl) ?_
  refine T_of (S_go rfl rfl) ?_
  refine T_of (S_go rfl rfl) ?_
  show T_W _ (E_run _ E_m175 3662 (73, [(7, .int c), (6, .int 9), (0, .ref 83), (1, .int a), (2, .int b), (3, .int c), (4, .int e), (5, .int f)], []) _ 0)
  refine T_of (S_go rfl rfl) ?_
  refine T_of (S_get rfl om18 rfl (by decide) rfl) ?_
  refine T_of (S_go rfl rfl) ?_
  refine T_of (S_get rfl om18 rfl (by decide) rfl) ?_
  refine T_of (S_go rfl rfl) ?_
  refine T_of (S_go rfl rfl) ?_
  refine T_of (S_go rfl rfl) ?_
  refine T_of (S_go rfl rfl) ?_
  refine T_of (S_go rfl rfl) ?_
  refine T_of (S_go rfl rfl) ?_
  refine T_of (S_go rfl rfl) ?_
  refine T_of (S_go rfl rfl) ?_
  refine T_of (S_go rfl rfl) ?_
  refine T_of (S_go rfl rfl) ?_
  refine T_of (S_go rfl rfl) ?_
  refine T_ast rfl oa18 (by decide) (fun h19 g19 oa19 ek19 el19 => ?_)
  have om19 := (ek19 83 (by decide)).trans om18
  show T_W _ (E_run _ E_m175 3646 (99, [(7, .int c), (6, .int 9), (0, .ref 83), (1, .int a), (2, .int b), (3, .int c), (4, .int e), (5, .int f)], []) _ 0)
  refine T_of (S_go rfl rfl) ?_
  refine T_of (S_go rfl rfl) ?_
  refine T_of (S_get rfl om19 rfl (by decide) rfl) ?_
  refine T_of (S_go rfl rfl) ?_
  refine T_of (S_go rfl rfl) ?_
  refine T_putf rfl om19 (by decide +kernel) (fun h20 oz20 ek20 el20 => ?_)
  have om20 : h20[83]? = some (.inr (12, [.ref 84, .int 10, .ref 85, .int 0, .ref 86, .ref 87, .ref 88, .int 0, .int 0, .ref 89, .ref 90, .ref 91, .ref 92, .int 0, .ref 93, .int 0, .int 0, .int 0, .int 0, .int 0, .int 0, .int (-1), .int 0, .ref 94, .ref 95, .long 0, .ref 96, .ref 97, .ref 98, .ref 99, .ref 100, .ref 101, .ref 102, .ref 103, .ref 104, .ref 105, .ref 106, .int 0, .ref 107, .ref 108, .ref 109, .int 0, .ref 110, .int 0, .ref 111, .ref 112, .ref 113, .ref 114, .int 0, .ref 115, .ref 116, .ref 117, .ref 118, .ref 119, .ref 120, .ref 121, .int 0, .ref 122, .ref 123, .int 0, .ref 124, .ref 125, .ref 126, .int 0, .ref 127, .ref 128, .ref 129, .ref 130, .int 0, .ref 131, .int 0, .int 0, .int 0, .long 0])) := oz20
  have oa20 := (ek20 84 (by decide)).trans oa19
  show T_W _ (E_run _ E_m175 3640 (109, [(7, .int c), (6, .int 9), (0, .ref 83), (1, .int a), (2, .int b), (3, .int c), (4, .int e), (5, .int f)], []) _ 0)
  refine T_of (S_go rfl rfl) ?_
  refine T_of (S_go rfl rfl) ?_
  refine T_of (S_go rfl rfl) ?_
  refine T_of (S_go rfl rfl) ?_
  refine T_of (S_go rfl rfl) ?_
  show T_W _ (E_run _ E_m175 3635 (25, [(6, .int 10), (7, .int c), (0, .ref 83), (1, .int a), (2, .int b), (3, .int c), (4, .int e), (5, .int f)], []) _ 0)
  refine T_of (S_go rfl rfl) ?_
  refine T_of (S_go rfl rfl) ?_
  refine T_of (S_go rfl rfl) ?_
  refine T_of (S_go rfl rfl) ?_
  refine T_of (S_go rfl rfl) ?_
  refine T_of (S_go rfl rfl) ?_
  show T_W _ (E_run _ E_m175 3629 (46, [(6, .int 10), (7, .int c), (0, .ref 83), (1, .int a), (2, .int b), (3, .int c), (4, .int e), (5, .int f)], []) _ 0)
  refine T_of (S_go rfl rfl) ?_
  refine T_of (S_go rfl rfl) ?_
  refine T_of (S_go rfl rfl) ?_
  refine T_of (S_go rfl rfl) ?_
  refine T_of (S_go rfl rfl) ?_
  refine T_of (S_go rfl rfl) ?_
  show T_W _ (E_run _ E_m175 3623 (73, [(7, .int c), (6, .int 10), (0, .ref 83), (1, .int a), (2, .int b), (3, .int c), (4, .int e), (5, .int f)], []) _ 0)
  refine T_of (S_go rfl rfl) ?_
  refine T_of (S_get rfl om20 rfl (by decide) rfl) ?_
  refine T_of (S_go rfl rfl) ?_
  refine T_of (S_get rfl om20 rfl (by decide) rfl) ?_
  refine T_of (S_go rfl rfl) ?_
  refine T_of (S_go rfl rfl) ?_
  refine T_of (S_go rfl rfl) ?_
  refine T_of (S_go rfl rfl) ?_
  refine T_of (S_go rfl rfl) ?_
  refine T_of (S_go rfl rfl) ?_
  refine T_of (S_go rfl rfl) ?_
  refine T_of (S_go rfl rfl) ?_
  refine T_of (S_go rfl rfl) ?_
  refine T_of (S_go rfl rfl) ?_
  refine T_of (S_go rfl rfl) ?_
  refine T_ast rfl oa20 (by decide) (fun h21 g21 oa21 ek21 el21 => ?_)
  have om21 := (ek21 83 (by decide)).trans om20
  show T_W _ (E_run _ E_m175 3607 (99, [(7, .int c), (6, .int 10), (0, .ref 83), (1, .int a), (2, .int b), (3, .int c), (4, .int e), (5, .int f)], []) _ 0)
  refine T_of (S_go rfl rfl) ?_
  refine T_of (S_go rfl rfl) ?_
  refine T_of (S_get rfl om21 rfl (by decide) rfl) ?_
  refine T_of (S_go rfl rfl) ?_
  refine T_of (S_go rfl rfl) ?_
  refine T_putf rfl om21 (by decide +kernel) (fun h22 oz22 ek22 el22 => ?_)
  have om22 : h22[83]? = some (.inr (12, [.ref 84, .int 11, .ref 85, .int 0, .ref 86, .ref 87, .ref 88, .int 0, .int 0, .ref 89, .ref 90, .ref 91, .ref 92, .int 0, .ref 93, .int 0, .int 0, .int 0, .int 0, .int 0, .int 0, .int (-1), .int 0, .ref 94, .ref 95, .long 0, .ref 96, .ref 97, .ref 98, .ref 99, .ref 100, .ref 101, .ref 102, .ref 103, .ref 104, .ref 105, .ref 106, .int 0, .ref 107, .ref 108, .ref 109, .int 0, .ref 110, .int 0, .ref 111, .ref 112, .ref 113, .ref 114, .int 0, .ref 115, .ref 116, .ref 117, .ref 118, .ref 119, .ref 120, .ref 121, .int 0, .ref 122, .ref 123, .int 0, .ref 124, .ref 125, .ref 126, .int 0, .ref 127, .ref 128, .ref 129, .ref 130, .int 0, .ref 131, .int 0, .int 0, .int 0, .long 0])) := oz22
  have oa22 := (ek22 84 (by decide)).trans oa21
  show T_W _ (E_run _ E_m175 3601 (109, [(7, .int c), (6, .int 10), (0, .ref 83), (1, .int a), (2, .int b), (3, .int c), (4, .int e), (5, .int f)], []) _ 0)
  refine T_of (S_go rfl rfl) ?_
  refine T_of (S_go rfl rfl) ?_
  refine T_of (S_go rfl rfl) ?_
  refine T_of (S_go rfl rfl) ?_
  refine T_of (S_go rfl rfl) ?_
  show T_W _ (E_run _ E_m175 3596 (25, [(6, .int 11), (7, .int c), (0, .ref 83), (1, .int a), (2, .int b), (3, .int c), (4, .int e), (5, .int f)], []) _ 0)
  refine T_of (S_go rfl rfl) ?_
  refine T_of (S_go rfl rfl) ?_
  refine T_of (S_go rfl rfl) ?_
  refine T_of (S_go rfl rfl) ?_
  refine T_of (S_go rfl rfl) ?_
  refine T_of (S_go rfl rfl) ?_
  show T_W _ (E_run _ E_m175 3590 (46, [(6, .int 11), (7, .int c), (0, .ref 83), (1, .int a), (2, .int b), (3, .int c), (4, .int e), (5, .int f)], []) _ 0)
  refine T_of (S_go rfl rfl) ?_
  refine T_of (S_go rfl rfl) ?_
  refine T_of (S_go rfl rfl) ?_
  refine T_of (S_go rfl rfl) ?_
  refine T_of (S_go rfl rfl) ?_
  refine T_of (S_go rfl rfl) ?_
  show T_W _ (E_run _ E_m175 3584 (73, [(7, .int c), (6, .int 11), (0, .ref 83), (1, .int a), (2, .int b), (3, .int c), (4, .int e), (5, .int f)], []) _ 0)
  refine T_of (S_go rfl rfl) ?_
  refine T_of (S_get rfl om22 rfl (by decide) rfl) ?_
  refine T_of (S_go rfl rfl) ?_
  refine T_of (S_get rfl om22 rfl (by decide) rfl) ?_
  refine T_of (S_go rfl rfl) ?_
  refine T_of (S_go rfl rfl) ?_
  refine T_of (S_go rfl rfl) ?_
  refine T_of (S_go rfl rfl) ?_
  refine T_of (S_go rfl rfl) ?_
  refine T_of (S_go rfl rfl) ?_
  refine T_of (S_go rfl rfl) ?_
  refine T_of (S_go rfl rfl) ?_
  refine T_of (S_go rfl rfl) ?_
  refine T_of (S_go rfl rfl) ?_
  refine T_of (S_go rfl rfl) ?_
  refine T_ast rfl oa22 (by decide) (fun h23 g23 oa23 ek23 el23 => ?_)
  have om23 := (ek23 83 (by decide)).trans om22
  show T_W _ (E_run _ E_m175 3568 (99, [(7, .int c), (6, .int 11), (0, .ref 83), (1, .int a), (2, .int b), (3, .int c), (4, .int e), (5, .int f)], []) _ 0)
  refine T_of (S_go rfl rfl) ?_
  refine T_of (S_go rfl rfl) ?_
  refine T_of (S_get rfl om23 rfl (by decide) rfl) ?_
  refine T_of (S_go rfl rfl) ?_
  refine T_of (S_go rfl rfl) ?_
  refine T_putf rfl om23 (by decide +kernel) (fun h24 oz24 ek24 el24 => ?_)
  have om24 : h24[83]? = some (.inr (12, [.ref 84, .int 12, .ref 85, .int 0, .ref 86, .ref 87, .ref 88, .int 0, .int 0, .ref 89, .ref 90, .ref 91, .ref 92, .int 0, .ref 93, .int 0, .int 0, .int 0, .int 0, .int 0, .int 0, .int (-1), .int 0, .ref 94, .ref 95, .long 0, .ref 96, .ref 97, .ref 98, .ref 99, .ref 100, .ref 101, .ref 102, .ref 103, .ref 104, .ref 105, .ref 106, .int 0, .ref 107, .ref 108, .ref 109, .int 0, .ref 110, .int 0, .ref 111, .ref 112, .ref 113, .ref 114, .int 0, .ref 115, .ref 116, .ref 117, .ref 118, .ref 119, .ref 120, .ref 121, .int 0, .ref 122, .ref 123, .int 0, .ref 124, .ref 125, .ref 126, .int 0, .ref 127, .ref 128, .ref 129, .ref 130, .int 0, .ref 131, .int 0, .int 0, .int 0, .long 0])) := oz24
  have oa24 := (ek24 84 (by decide)).trans oa23
  show T_W _ (E_run _ E_m175 3562 (109, [(7, .int c), (6, .int 11), (0, .ref 83), (1, .int a), (2, .int b), (3, .int c), (4, .int e), (5, .int f)], []) _ 0)
  refine T_of (S_go rfl rfl) ?_
  refine T_of (S_go rfl rfl) ?_
  refine T_of (S_go rfl rfl) ?_
  refine T_of (S_go rfl rfl) ?_
  refine T_of (S_go rfl rfl) ?_
  show T_W _ (E_run _ E_m175 3557 (25, [(6, .int 12), (7, .int c), (0, .ref 83), (1, .int a), (2, .int b), (3, .int c), (4, .int e), (5, .int f)], []) _ 0)
  refine T_of (S_go rfl rfl) ?_
  refine T_of (S_go rfl rfl) ?_
  refine T_of (S_go rfl rfl) ?_
  refine T_of (S_go rfl rfl) ?_
  refine T_of (S_go rfl rfl) ?_
  refine T_of (S_go rfl rfl) ?_
  show T_W _ (E_run _ E_m175 3551 (46, [(6, .int 12), (7, .int c), (0, .ref 83), (1, .int a), (2, .int b), (3, .int c), (4, .int e), (5, .int f)], []) _ 0)
  refine T_of (S_go rfl rfl) ?_
  refine T_of (S_go rfl rfl) ?_
  refine T_of (S_go rfl rfl) ?_
  refine T_of (S_go rfl rfl) ?_
  refine T_of (S_go rfl rfl) ?_
  refine T_of (S_go rfl rfl) ?_
  show T_W _ (E_run _ E_m175 3545 (64, [(6, .int 12), (7, .int c), (0, .ref 83), (1, .int a), (2, .int b), (3, .int c), (4, .int e), (5, .int f)], []) _ 0)
  refine T_of (S_go rfl rfl) ?_
  refine T_of (S_go rfl rfl) ?_
  refine T_of (S_go rfl rfl) ?_
  refine T_of (S_go rfl rfl) ?_
  refine T_of (S_get rfl om24 rfl (by decide) rfl) ?_
  refine T_of (S_go rfl rfl) ?_
  refine T_of (S_get rfl om24 rfl (by decide) rfl) ?_
  refine T_of (S_go rfl rfl) ?_
  refine T_of (S_go rfl rfl) ?_
  refine T_of (S_go rfl rfl) ?_
  refine T_of (S_go rfl rfl) ?_
  refine T_of (S_go rfl rfl) ?_
  refine T_of (S_go rfl rfl) ?_
  refine T_of (S_go rfl rfl) ?_
  refine T_of (S_go rfl rfl) ?_
  refine T_of (S_go rfl rfl) ?_
  refine T_of (S_go rfl rfl) ?_
  refine T_of (S_go rfl rfl) ?_
  refine T_ast rfl oa24 (by decide) (fun h25 g25 oa25 ek25 el25 => ?_)
  have om25 := (ek25 83 (by decide)).trans om24
  show T_W _ (E_run _ E_m175 3526 (99, [(7, .int e), (6, .int 12), (0, .ref 83), (1, .int a), (2, .int b), (3, .int c), (4, .int e), (5, .int f)], []) _ 0)
  refine T_of (S_go rfl rfl) ?_
  refine T_of (S_go rfl rfl) ?_
  refine T_of (S_get rfl om25 rfl (by decide) rfl) ?_
  refine T_of (S_go rfl rfl) ?_
  refine T_of (S_go rfl rfl) ?_
  refine T_putf rfl om25 (by decide +kernel) (fun h26 oz26 ek26 el26 => ?_)
  have om26 : h26[83]? = some (.inr (12, [.ref 84, .int 13, .ref 85, .int 0, .ref 86, .ref 87, .ref 88, .int 0, .int 0, .ref 89, .ref 90, .ref 91, .ref 92, .int 0, .ref 93, .int 0, .int 0, .int 0, .int 0, .int 0, .int 0, .int (-1), .int 0, .ref 94, .ref 95, .long 0, .ref 96, .ref 97, .ref 98, .ref 99, .ref 100, .ref 101, .ref 102, .ref 103, .ref 104, .ref 105, .ref 106, .int 0, .ref 107, .ref 108, .ref 109, .int 0, .ref 110, .int 0, .ref 111, .ref 112, .ref 113, .ref 114, .int 0, .ref 115, .ref 116, .ref 117, .ref 118, .ref 119, .ref 120, .ref 121, .int 0, .ref 122, .ref 123, .int 0, .ref 124, .ref 125, .ref 126, .int 0, .ref 127, .ref 128, .ref 129, .ref 130, .int 0, .ref 131, .int 0, .int 0, .int 0, .long 0])) := oz26
  have oa26 := (ek26 84 (by decide)).trans oa25
  show T_W _ (E_run _ E_m175 3520 (109, [(7, .int e), (6, .int 12), (0, .ref 83), (1, .int a), (2, .int b), (3, .int c), (4, .int e), (5, .int f)], []) _ 0)
  refine T_of (S_go rfl rfl) ?_
  refine T_of (S_go rfl rfl) ?_
  refine T_of (S_go rfl rfl) ?_
  refine T_of (S_go rfl rfl) ?_
  refine T_of (S_go rfl rfl) ?_
  show T_W _ (E_run _ E_m175 3515 (25, [(6, .int 13), (7, .int e), (0, .ref 83), (1, .int a), (2, .int b), (3, .int c), (4, .int e), (5, .int f)], []) _ 0)
  refine T_of (S_go rfl rfl) ?_
  refine T_of (S_go rfl rfl) ?_
  refine T_of (S_go rfl rfl) ?_
  refine T_of (S_go rfl rfl) ?_
  refine T_of (S_go rfl rfl) ?_
  refine T_of (S_go rfl rfl) ?_
  show T_W _ (E_run _ E_m175 3509 (46, [(6, .int 13), (7, .int e), (0, .ref 83), (1, .int a), (2, .int b), (3, .int c), (4, .int e), (5, .int f)], []) _ 0)
  refine T_of (S_go rfl rfl) ?_
  refine T_of (S_go rfl rfl) ?_
  refine T_of (S_go rfl rfl) ?_
  refine T_of (S_go rfl rfl) ?_
  refine T_of (S_go rfl rfl) ?_
  refine T_of (S_go rfl rfl) ?_
  show T_W _ (E_run _ E_m175 3503 (64, [(6, .int 13), (7, .int e), (0, .ref 83), (1, .int a), (2, .int b), (3, .int c), (4, .int e), (5, .int f)], []) _ 0)
  refine T_of (S_go rfl rfl) ?_
  refine T_of (S_go rfl rfl) ?_
  refine T_of (S_go rfl rfl) ?_
  refine T_of (S_go rfl rfl) ?_
  refine T_of (S_get rfl om26 rfl (by decide) rfl) ?_
  refine T_of (S_go rfl rfl) ?_
  refine T_of (S_get rfl om26 rfl (by decide) rfl) ?_
  refine T_of (S_go rfl rfl) ?_
  refine T_of (S_go rfl rfl) ?_
  refine T_of (S_go rfl rfl) ?_
  refine T_of (S_go rfl rfl) ?_
  refine T_of (S_go rfl rfl) ?_
  refine T_of (S_go rfl rfl) ?_
  refine T_of (S_go rfl rfl) ?_
  refine T_of (S_go rfl rfl) ?_
  refine T_of (S_go rfl rfl) ?_
  refine T_of (S_go rfl rfl) ?_
  refine T_of (S_go rfl rfl) ?_
  refine T_ast rfl oa26 (by decide) (fun h27 g27 oa27 ek27 el27 => ?_)
  have om27 := (ek27 83 (by decide)).trans om26
  show T_W _ (E_run _ E_m175 3484 (99, [(7, .int e), (6, .int 13), (0, .ref 83), (1, .int a), (2, .int b), (3, .int c), (4, .int e), (5, .int f)], []) _ 0)
  refine T_of (S_go rfl rfl) ?_
  refine T_of (S_go rfl rfl) ?_
  refine T_of (S_get rfl om27 rfl (by decide) rfl) ?_
  refine T_of (S_go rfl rfl) ?_
  refine T_of (S_go rfl rfl) ?_
  refine T_putf rfl om27 (by decide +kernel) (fun h28 oz28 ek28 el28 => ?_)
  have om28 : h28[83]? = some (.inr (12, [.ref 84, .int 14, .ref 85, .int 0, .ref 86, .ref 87, .ref 88, .int 0, .int 0, .ref 89, .ref 90, .ref 91, .ref 92, .int 0, .ref 93, .int 0, .int 0, .int 0, .int 0, .int 0, .int 0, .int (-1), .int 0, .ref 94, .ref 95, .long 0, .ref 96, .ref 97, .ref 98, .ref 99, .ref 100, .ref 101, .ref 102, .ref 103, .ref 104, .ref 105, .ref 106, .int 0, .ref 107, .ref 108, .ref 109, .int 0, .ref 110, .int 0, .ref 111, .ref 112, .ref 113, .ref 114, .int 0, .ref 115, .ref 116, .ref 117, .ref 118, .ref 119, .ref 120, .ref 121, .int 0, .ref 122, .ref 123, .int 0, .ref 124, .ref 125, .ref 126, .int 0, .ref 127, .ref 128, .ref 129, .ref 130, .int 0, .ref 131, .int 0, .int 0, .int 0, .long 0])) := oz28
  have oa28 := (ek28 84 (by decide)).trans oa27
  show T_W _ (E_run _ E_m175 3478 (109, [(7, .int e), (6, .int 13), (0, .ref 83), (1, .int a), (2, .int b), (3, .int c), (4, .int e), (5, .int f)], []) _ 0)
  refine T_of (S_go rfl rfl) ?_
  refine T_of (S_go rfl rfl) ?_
  refine T_of (S_go rfl rfl) ?_
  refine T_of (S_go rfl rfl) ?_
  refine T_of (S_go rfl rfl) ?_
  show T_W _ (E_run _ E_m175 3473 (25, [(6, .int 14), (7, .int e), (0, .ref 83), (1, .int a), (2, .int b), (3, .int c), (4, .int e), (5, .int f)], []) _ 0)
  refine T_of (S_go rfl rfl) ?_
  refine T_of (S_go rfl rfl) ?_
  refine T_of (S_go rfl rfl) ?_
  refine T_of (S_go rfl rfl) ?_
  refine T_of (S_go rfl rfl) ?_
  refine T_of (S_go rfl rfl) ?_
  show T_W _ (E_run _ E_m175 3467 (46, [(6, .int 14), (7, .int e), (0, .ref 83), (1, .int a), (2, .int b), (3, .int c), (4, .int e), (5, .int f)], []) _ 0)
  refine T_of (S_go rfl rfl) ?_
  refine T_of (S_go rfl rfl) ?_
  refine T_of (S_go rfl rfl) ?_
  refine T_of (S_go rfl rfl) ?_
  refine T_of (S_go rfl rfl) ?_
  refine T_of (S_go rfl rfl) ?_
  show T_W _ (E_run _ E_m175 3461 (64, [(6, .int 14), (7, .int e), (0, .ref 83), (1, .int a), (2, .int b), (3, .int c), (4, .int e), (5, .int f)], []) _ 0)
  refine T_of (S_go rfl rfl) ?_
  refine T_of (S_go rfl rfl) ?_
  refine T_of (S_go rfl rfl) ?_
  refine T_of (S_go rfl rfl) ?_
  refine T_of (S_get rfl om28 rfl (by decide) rfl) ?_
  refine T_of (S_go rfl rfl) ?_
  refine T_of (S_get rfl om28 rfl (by decide) rfl) ?_
  refine T_of (S_go rfl rfl) ?_
  refine T_of (S_go rfl rfl) ?_
  refine T_of (S_go rfl rfl) ?_
  refine T_of (S_go rfl rfl) ?_
  refine T_of (S_go rfl rfl) ?_
  refine T_of (S_go rfl rfl) ?_
  refine T_of (S_go rfl rfl) ?_
  refine T_of (S_go rfl rfl) ?_
  refine T_of (S_go rfl rfl) ?_
  refine T_of (S_go rfl rfl) ?_
  refine T_of (S_go rfl rfl) ?_
  refine T_ast rfl oa28 (by decide) (fun h29 g29 oa29 ek29 el29 => ?_)
  have om29 := (ek29 83 (by decide)).trans om28
  show T_W _ (E_run _ E_m175 3442 (99, [(7, .int e), (6, .int 14), (0, .ref 83), (1, .int a), (2, .int b), (3, .int c), (4, .int e), (5, .int f)], []) _ 0)
  refine T_of (S_go rfl rfl) ?_
  refine T_of (S_go rfl rfl) ?_
  refine T_of (S_get rfl om29 rfl (by decide) rfl) ?_
  refine T_of (S_go rfl rfl) ?_
  refine T_of (S_go rfl rfl) ?_
  refine T_putf rfl om29 (by decide +kernel) (fun h30 oz30 ek30 el30 => ?_)
  have om30 : h30[83]? = some (.inr (12, [.ref 84, .int 15, .ref 85, .int 0, .ref 86, .ref 87, .ref 88, .int 0, .int 0, .ref 89, .ref 90, .ref 91, .ref 92, .int 0, .ref 93, .int 0, .int 0, .int 0, .int 0, .int 0, .int 0, .int (-1), .int 0, .ref 94, .ref 95, .long 0, .ref 96, .ref 97, .ref 98, .ref 99, .ref 100, .ref 101, .ref 102, .ref 103, .ref 104, .ref 105, .ref 106, .int 0, .ref 107, .ref 108, .ref 109, .int 0, .ref 110, .int 0, .ref 111, .ref 112, .ref 113, .ref 114, .int 0, .ref 115, .ref 116, .ref 117, .ref 118, .ref 119, .ref 120, .ref 121, .int 0, .ref 122, .ref 123, .int 0, .ref 124, .ref 125, .ref 126, .int 0, .ref 127, .ref 128, .ref 129, .ref 130, .int 0, .ref 131, .int 0, .int 0, .int 0, .long 0])) := oz30
  have oa30 := (ek30 84 (by decide)).trans oa29
  show T_W _ (E_run _ E_m175 3436 (109, [(7, .int e), (6, .int 14), (0, .ref 83), (1, .int a), (2, .int b), (3, .int c), (4, .int e), (5, .int f)], []) _ 0)
  refine T_of (S_go rfl rfl) ?_
  refine T_of (S_go rfl rfl) ?_
  refine T_of (S_go rfl rfl) ?_
  refine T_of (S_go rfl rfl) ?_
  refine T_of (S_go rfl rfl) ?_
  show T_W _ (E_run _ E_m175 3431 (25, [(6, .int 15), (7, .int e), (0, .ref 83), (1, .int a), (2, .int b), (3, .int c), (4, .int e), (5, .int f)], []) _ 0)
  refine T_of (S_go rfl rfl) ?_
  refine T_of (S_go rfl rfl) ?_
  refine T_of (S_go rfl rfl) ?_
  refine T_of (S_go rfl rfl) ?_
  refine T_of (S_go rfl rfl) ?_
  refine T_of (S_go rfl rfl) ?_
  show T_W _ (E_run _ E_m175 3425 (46, [(6, .int 15), (7, .int e), (0, .ref 83), (1, .int a), (2, .int b), (3, .int c), (4, .int e), (5, .int f)], []) _ 0)
  refine T_of (S_go rfl rfl) ?_
  refine T_of (S_go rfl rfl) ?_
  refine T_of (S_go rfl rfl) ?_
  refine T_of (S_go rfl rfl) ?_
  refine T_of (S_go rfl rfl) ?_
  refine T_of (S_go rfl rfl) ?_
  show T_W _ (E_run _ E_m175 3419 (64, [(6, .int 15), (7, .int e), (0, .ref 83), (1, .int a), (2, .int b), (3, .int c), (4, .int e), (5, .int f)], []) _ 0)
  refine T_of (S_go rfl rfl) ?_
  refine T_of (S_go rfl rfl) ?_
  refine T_of (S_go rfl rfl) ?_
  refine T_of (S_go rfl rfl) ?_
  refine T_of (S_get rfl om30 rfl (by decide) rfl) ?_
  refine T_of (S_go rfl rfl) ?_
  refine T_of (S_get rfl om30 rfl (by decide) rfl) ?_
  refine T_of (S_go rfl rfl) ?_
  refine T_of (S_go rfl rfl) ?_
  refine T_of (S_go rfl rfl) ?_
  refine T_of (S_go rfl rfl) ?_
  refine T_of (S_go rfl rfl) ?_
  refine T_of (S_go rfl rfl) ?_
  refine T_of (S_go rfl rfl) ?_
  refine T_of (S_go rfl rfl) ?_
  refine T_of (S_go rfl rfl) ?_
  refine T_of (S_go rfl rfl) ?_
  refine T_of (S_go rfl rfl) ?_
  refine T_ast rfl oa30 (by decide) (fun h31 g31 oa31 ek31 el31 => ?_)
  have om31 := (ek31 83 (by decide)).trans om30
  show T_W _ (E_run _ E_m175 3400 (99, [(7, .int e), (6, .int 15), (0, .ref 83), (1, .int a), (2, .int b), (3, .int c), (4, .int e), (5, .int f)], []) _ 0)
  refine T_of (S_go rfl rfl) ?_
  refine T_of (S_go rfl rfl) ?_
  refine T_of (S_get rfl om31 rfl (by decide) rfl) ?_
  refine T_of (S_go rfl rfl) ?_
  refine T_of (S_go rfl rfl) ?_
  refine T_putf rfl om31 (by decide +kernel) (fun h32 oz32 ek32 el32 => ?_)
  have om32 : h32[83]? = some (.inr (12, [.ref 84, .int 16, .ref 85, .int 0, .ref 86, .ref 87, .ref 88, .int 0, .int 0, .ref 89, .ref 90, .ref 91, .ref 92, .int 0, .ref 93, .int 0, .int 0, .int 0, .int 0, .int 0, .int 0, .int (-1), .int 0, .ref 94, .ref 95, .long 0, .ref 96, .ref 97, .ref 98, .ref 99, .ref 100, .ref 101, .ref 102, .ref 103, .ref 104, .ref 105, .ref 106, .int 0, .ref 107, .ref 108, .ref 109, .int 0, .ref 110, .int 0, .ref 111, .ref 112, .ref 113, .ref 114, .int 0, .ref 115, .ref 116, .ref 117, .ref 118, .ref 119, .ref 120, .ref 121, .int 0, .ref 122, .ref 123, .int 0, .ref 124, .ref 125, .ref 126, .int 0, .ref 127, .ref 128, .ref 129, .ref 130, .int 0, .ref 131, .int 0, .int 0, .int 0, .long 0])) := oz32
  have oa32 := (ek32 84 (by decide)).trans oa31
  show T_W _ (E_run _ E_m175 3394 (109, [(7, .int e), (6, .int 15), (0, .ref 83), (1, .int a), (2, .int b), (3, .int c), (4, .int e), (5, .int f)], []) _ 0)
  refine T_of (S_go rfl rfl) ?_
  refine T_of (S_go rfl rfl) ?_
  refine T_of (S_go rfl rfl) ?_
  refine T_of (S_go rfl rfl) ?_
  refine T_of (S_go rfl rfl) ?_
  show T_W _ (E_run _ E_m175 3389 (25, [(6, .int 16), (7, .int e), (0, .ref 83), (1, .int a), (2, .int b), (3, .int c), (4, .int e), (5, .int f)], []) _ 0)
  refine T_of (S_go rfl rfl) ?_
  refine T_of (S_go rfl rfl) ?_
  refine T_of (S_go rfl rfl) ?_
  refine T_of (S_go rfl rfl) ?_
  refine T_of (S_go rfl rfl) ?_
  refine T_of (S_go rfl rfl) ?_
  show T_W _ (E_run _ E_m175 3383 (46, [(6, .int 16), (7, .int e), (0, .ref 83), (1, .int a), (2, .int b), (3, .int c), (4, .int e), (5, .int f)], []) _ 0)
  refine T_of (S_go rfl rfl) ?_
  refine T_of (S_go rfl rfl) ?_
  refine T_of (S_go rfl rfl) ?_
  refine T_of (S_go rfl rfl) ?_
  refine T_of (S_go rfl rfl) ?_
  refine T_of (S_go rfl rfl) ?_
  show T_W _ (E_run _ E_m175 3377 (69, [(6, .int 16), (7, .int e), (0, .ref 83), (1, .int a), (2, .int b), (3, .int c), (4, .int e), (5, .int f)], []) _ 0)
  refine T_of (S_go rfl rfl) ?_
  refine T_of (S_go rfl rfl) ?_
  refine T_of (S_go rfl rfl) ?_
  refine T_of (S_get rfl om32 rfl (by decide) rfl) ?_
  refine T_of (S_go rfl rfl) ?_
  refine T_of (S_get rfl om32 rfl (by decide) rfl) ?_
  refine T_of (S_go rfl rfl) ?_
  refine T_of (S_go rfl rfl) ?_
  refine T_of (S_go rfl rfl) ?_
  refine T_of (S_go rfl rfl) ?_
  refine T_of (S_go rfl rfl) ?_
  refine T_of (S_go rfl rfl) ?_
  refine T_of (S_go rfl rfl) ?_
  refine T_of (S_go rfl rfl) ?_
  refine T_of (S_go rfl rfl) ?_
  refine T_of (S_go rfl rfl) ?_
  refine T_of (S_go rfl rfl) ?_
  refine T_ast rfl oa32 (by decide) (fun h33 g33 oa33 ek33 el33 => ?_)
  have om33 := (ek33 83 (by decide)).trans om32
  show T_W _ (E_run _ E_m175 3359 (99, [(7, .int f), (6, .int 16), (0, .ref 83), (1, .int a), (2, .int b), (3, .int c), (4, .int e), (5, .int f)], []) _ 0)
  refine T_of (S_go rfl rfl) ?_
  refine T_of (S_go rfl rfl) ?_
  refine T_of (S_get rfl om33 rfl (by decide) rfl) ?_
  refine T_of (S_go rfl rfl) ?_
  refine T_of (S_go rfl rfl) ?_
  refine T_putf rfl om33 (by decide +kernel) (fun h34 oz34 ek34 el34 => ?_)
  have om34 : h34[83]? = some (.inr (12, [.ref 84, .int 17, .ref 85, .int 0, .ref 86, .ref 87, .ref 88, .int 0, .int 0, .ref 89, .ref 90, .ref 91, .ref 92, .int 0, .ref 93, .int 0, .int 0, .int 0, .int 0, .int 0, .int 0, .int (-1), .int 0, .ref 94, .ref 95, .long 0, .ref 96, .ref 97, .ref 98, .ref 99, .ref 100, .ref 101, .ref 102, .ref 103, .ref 104, .ref 105, .ref 106, .int 0, .ref 107, .ref 108, .ref 109, .int 0, .ref 110, .int 0, .ref 111, .ref 112, .ref 113, .ref 114, .int 0, .ref 115, .ref 116, .ref 117, .ref 118, .ref 119, .ref 120, .ref 121, .int 0, .ref 122, .ref 123, .int 0, .ref 124, .ref 125, .ref 126, .int 0, .ref 127, .ref 128, .ref 129, .ref 130, .int 0, .ref 131, .int 0, .int 0, .int 0, .long 0])) := oz34
  have oa34 := (ek34 84 (by decide)).trans oa33
  show T_W _ (E_run _ E_m175 3353 (109, [(7, .int f), (6, .int 16), (0, .ref 83), (1, .int a), (2, .int b), (3, .int c), (4, .int e), (5, .int f)], []) _ 0)
  refine T_of (S_go rfl rfl) ?_
  refine T_of (S_go rfl rfl) ?_
  refine T_of (S_go rfl rfl) ?_
  refine T_of (S_go rfl rfl) ?_
  refine T_of (S_go rfl rfl) ?_
  show T_W _ (E_run _ E_m175 3348 (25, [(6, .int 17), (7, .int f), (0, .ref 83), (1, .int a), (2, .int b), (3, .int c), (4, .int e), (5, .int f)], []) _ 0)
  refine T_of (S_go rfl rfl) ?_
  refine T_of (S_go rfl rfl) ?_
  refine T_of (S_go rfl rfl) ?_
  refine T_of (S_go rfl rfl) ?_
  refine T_of (S_go rfl rfl) ?_
  refine T_of (S_go rfl rfl) ?_
  show T_W _ (E_run _ E_m175 3342 (46, [(6, .int 17), (7, .int f), (0, .ref 83), (1, .int a), (2, .int b), (3, .int c), (4, .int e), (5, .int f)], []) _ 0)
  refine T_of (S_go rfl rfl) ?_
  refine T_of (S_go rfl rfl) ?_
  refine T_of (S_go rfl rfl) ?_
  refine T_of (S_go rfl rfl) ?_
  refine T_of (S_go rfl rfl) ?_
  refine T_of (S_go rfl rfl) ?_
  show T_W _ (E_run _ E_m175 3336 (69, [(6, .int 17), (7, .int f), (0, .ref 83), (1, .int a), (2, .int b), (3, .int c), (4, .int e), (5, .int f)], []) _ 0)
  refine T_of (S_go rfl rfl) ?_
  refine T_of (S_go rfl rfl) ?_
  refine T_of (S_go rfl rfl) ?_
  refine T_of (S_get rfl om34 rfl (by decide) rfl) ?_
  refine T_of (S_go rfl rfl) ?_
  refine T_of (S_get rfl om34 rfl (by decide) rfl) ?_
  refine T_of (S_go rfl rfl) ?_
  refine T_of (S_go rfl rfl) ?_
  refine T_of (S_go rfl rfl) ?_
  refine T_of (S_go rfl rfl) ?_
  refine T_of (S_go rfl rfl) ?_
  refine T_of (S_go rfl rfl) ?_
  refine T_of (S_go rfl rfl) ?_
  refine T_of (S_go rfl rfl) ?_
  refine T_of (S_go rfl rfl) ?_
  refine T_of (S_go rfl rfl) ?_
  refine T_of (S_go rfl rfl) ?_
  refine T_ast rfl oa34 (by decide) (fun h35 g35 oa35 ek35 el35 => ?_)
  have om35 := (ek35 83 (by decide)).trans om34
  show T_W _ (E_run _ E_m175 3318 (99, [(7, .int f), (6, .int 17), (0, .ref 83), (1, .int a), (2, .int b), (3, .int c), (4, .int e), (5, .int f)], []) _ 0)
  refine T_of (S_go rfl rfl) ?_
  refine T_of (S_go rfl rfl) ?_
  refine T_of (S_get rfl om35 rfl (by decide) rfl) ?_
  refine T_of (S_go rfl rfl) ?_
  refine T_of (S_go rfl rfl) ?_
  refine T_putf rfl om35 (by decide +kernel) (fun h36 oz36 ek36 el36 => ?_)
  have om36 : h36[83]? = some (.inr (12, [.ref 84, .int 18, .ref 85, .int 0, .ref 86, .ref 87, .ref 88, .int 0, .int 0, .ref 89, .ref 90, .ref 91, .ref 92, .int 0, .ref 93, .int 0, .int 0, .int 0, .int 0, .int 0, .int 0, .int (-1), .int 0, .ref 94, .ref 95, .long 0, .ref 96, .ref 97, .ref 98, .ref 99, .ref 100, .ref 101, .ref 102, .ref 103, .ref 104, .ref 105, .ref 106, .int 0, .ref 107, .ref 108, .ref 109, .int 0, .ref 110, .int 0, .ref 111, .ref 112, .ref 113, .ref 114, .int 0, .ref 115, .ref 116, .ref 117, .ref 118, .ref 119, .ref 120, .ref 121, .int 0, .ref 122, .ref 123, .int 0, .ref 124, .ref 125, .ref 126, .int 0, .ref 127, .ref 128, .ref 129, .ref 130, .int 0, .ref 131, .int 0, .int 0, .int 0, .long 0])) := oz36
  have oa36 := (ek36 84 (by decide)).trans oa35
  show T_W _ (E_run _ E_m175 3312 (109, [(7, .int f), (6, .int 17), (0, .ref 83), (1, .int a), (2, .int b), (3, .int c), (4, .int e), (5, .int f)], []) _ 0)
  refine T_of (S_go rfl rfl) ?_
  refine T_of (S_go rfl rfl) ?_
  refine T_of (S_go rfl rfl) ?_
  refine T_of (S_go rfl rfl) ?_
  refine T_of (S_go rfl rfl) ?_
  show T_W _ (E_run _ E_m175 3307 (25, [(6, .int 18), (7, .int f), (0, .ref 83), (1, .int a), (2, .int b), (3, .int c), (4, .int e), (5, .int f)], []) _ 0)
  refine T_of (S_go rfl rfl) ?_
  refine T_of (S_go rfl rfl) ?_
  refine T_of (S_go rfl rfl) ?_
  refine T_of (S_go rfl rfl) ?_
  refine T_of (S_go rfl rfl) ?_
  refine T_of (S_go rfl rfl) ?_
  show T_W _ (E_run _ E_m175 3301 (46, [(6, .int 18), (7, .int f), (0, .ref 83), (1, .int a), (2, .int b), (3, .int c), (4, .int e), (5, .int f)], []) _ 0)
  refine T_of (S_go rfl rfl) ?_
  refine T_of (S_go rfl rfl) ?_
  refine T_of (S_go rfl rfl) ?_
  refine T_of (S_go rfl rfl) ?_
  refine T_of (S_go rfl rfl) ?_
  refine T_of (S_go rfl rfl) ?_
  show T_W _ (E_run _ E_m175 3295 (69, [(6, .int 18), (7, .int f), (0, .ref 83), (1, .int a), (2, .int b), (3, .int c), (4, .int e), (5, .int f)], []) _ 0)
  refine T_of (S_go rfl rfl) ?_
  refine T_of (S_go rfl rfl) ?_
  refine T_of (S_go rfl rfl) ?_
  refine T_of (S_get rfl om36 rfl (by decide) rfl) ?_
  refine T_of (S_go rfl rfl) ?_
  refine T_of (S_get rfl om36 rfl (by decide) rfl) ?_
  refine T_of (S_go rfl rfl) ?_
  refine T_of (S_go rfl rfl) ?_
  refine T_of (S_go rfl rfl) ?_
  refine T_of (S_go rfl rfl) ?_
  refine T_of (S_go rfl rfl) ?_
  refine T_of (S_go rfl rfl) ?_
  refine T_of (S_go rfl rfl) ?_
  refine T_of (S_go rfl rfl) ?_
  refine T_of (S_go rfl rfl) ?_
  refine T_of (S_go rfl rfl) ?_
  refine T_of (S_go rfl rfl) ?_
  refine T_ast rfl oa36 (by decide) (fun h37 g37 oa37 ek37 el37 => ?_)
  have om37 := (ek37 83 (by decide)).trans om36
  show T_W _ (E_run _ E_m175 3277 (99, [(7, .int f), (6, .int 18), (0, .ref 83), (1, .int a), (2, .int b), (3, .int c), (4, .int e), (5, .int f)], []) _ 0)
  refine T_of (S_go rfl rfl) ?_
  refine T_of (S_go rfl rfl) ?_
  refine T_of (S_get rfl om37 rfl (by decide) rfl) ?_
  refine T_of (S_go rfl rfl) ?_
  refine T_of (S_go rfl rfl) ?_
  refine T_putf rfl om37 (by decide +kernel) (fun h38 oz38 ek38 el38 => ?_)
  have om38 : h38[83]? = some (.inr (12, [.ref 84, .int 19, .ref 85, .int 0, .ref 86, .ref 87, .ref 88, .int 0, .int 0, .ref 89, .ref 90, .ref 91, .ref 92, .int 0, .ref 93, .int 0, .int 0, .int 0, .int 0, .int 0, .int 0, .int (-1), .int 0, .ref 94, .ref 95, .long 0, .ref 96, .ref 97, .ref 98, .ref 99, .ref 100, .ref 101, .ref 102, .ref 103, .ref 104, .ref 105, .ref 106, .int 0, .ref 107, .ref 108, .ref 109, .int 0, .ref 110, .int 0, .ref 111, .ref 112, .ref 113, .ref 114, .int 0, .ref 115, .ref 116, .ref 117, .ref 118, .ref 119, .ref 120, .ref 121, .int 0, .ref 122, .ref 123, .int 0, .ref 124, .ref 125, .ref 126, .int 0, .ref 127, .ref 128, .ref 129, .ref 130, .int 0, .ref 131, .int 0, .int 0, .int 0, .long 0])) := oz38
  have oa38 := (ek38 84 (by decide)).trans oa37
  show T_W _ (E_run _ E_m175 3271 (109, [(7, .int f), (6, .int 18), (0, .ref 83), (1, .int a), (2, .int b), (3, .int c), (4, .int e), (5, .int f)], []) _ 0)
  refine T_of (S_go rfl rfl) ?_
  refine T_of (S_go rfl rfl) ?_
  refine T_of (S_go rfl rfl) ?_
  refine T_of (S_go rfl rfl) ?_
  refine T_of (S_go rfl rfl) ?_
  show T_W _ (E_run _ E_m175 3266 (25, [(6, .int 19), (7, .int f), (0, .ref 83), (1, .int a), (2, .int b), (3, .int c), (4, .int e), (5, .int f)], []) _ 0)
  refine T_of (S_go rfl rfl) ?_
  refine T_of (S_go rfl rfl) ?_
  refine T_of (S_go rfl rfl) ?_
  refine T_of (S_go rfl rfl) ?_
  refine T_of (S_go rfl rfl) ?_
  refine T_of (S_go rfl rfl) ?_
  show T_W _ (E_run _ E_m175 3260 (46, [(6, .int 19), (7, .int f), (0, .ref 83), (1, .int a), (2, .int b), (3, .int c), (4, .int e), (5, .int f)], []) _ 0)
  refine T_of (S_go rfl rfl) ?_
  refine T_of (S_go rfl rfl) ?_
  refine T_of (S_go rfl rfl) ?_
  refine T_of (S_go rfl rfl) ?_
  refine T_of (S_go rfl rfl) ?_
  refine T_of (S_go rfl rfl) ?_
  show T_W _ (E_run _ E_m175 3254 (69, [(6, .int 19), (7, .int f), (0, .ref 83), (1, .int a), (2, .int b), (3, .int c), (4, .int e), (5, .int f)], []) _ 0)
  refine T_of (S_go rfl rfl) ?_
  refine T_of (S_go rfl rfl) ?_
  refine T_of (S_go rfl rfl) ?_
  refine T_of (S_get rfl om38 rfl (by decide) rfl) ?_
  refine T_of (S_go rfl rfl) ?_
  refine T_of (S_get rfl om38 rfl (by decide) rfl) ?_
  refine T_of (S_go rfl rfl) ?_
  refine T_of (S_go rfl rfl) ?_
  refine T_of (S_go rfl rfl) ?_
  refine T_of (S_go rfl rfl) ?_
  refine T_of (S_go rfl rfl) ?_
  refine T_of (S_go rfl rfl) ?_
  refine T_of (S_go rfl rfl) ?_
  refine T_of (S_go rfl rfl) ?_
  refine T_of (S_go rfl rfl) ?_
  refine T_of (S_go rfl rfl) ?_
  refine T_of (S_go rfl rfl) ?_
  refine T_ast rfl oa38 (by decide) (fun h39 g39 oa39 ek39 el39 => ?_)
  have om39 := (ek39 83 (by decide)).trans om38
  show T_W _ (E_run _ E_m175 3236 (99, [(7, .int f), (6, .int 19), (0, .ref 83), (1, .int a), (2, .int b), (3, .int c), (4, .int e), (5, .int f)], []) _ 0)
  refine T_of (S_go rfl rfl) ?_
  refine T_of (S_go rfl rfl) ?_
  refine T_of (S_get rfl om39 rfl (by decide) rfl) ?_
  refine T_of (S_go rfl rfl) ?_
  refine T_of (S_go rfl rfl) ?_
  refine T_putf rfl om39 (by decide +kernel) (fun h40 oz40 ek40 el40 => ?_)
  have om40 : h40[83]? = some (.inr (12, [.ref 84, .int 20, .ref 85, .int 0, .ref 86, .ref 87, .ref 88, .int 0, .int 0, .ref 89, .ref 90, .ref 91, .ref 92, .int 0, .ref 93, .int 0, .int 0, .int 0, .int 0, .int 0, .int 0, .int (-1), .int 0, .ref 94, .ref 95, .long 0, .ref 96, .ref 97, .ref 98, .ref 99, .ref 100, .ref 101, .ref 102, .ref 103, .ref 104, .ref 105, .ref 106, .int 0, .ref 107, .ref 108, .ref 109, .int 0, .ref 110, .int 0, .ref 111, .ref 112, .ref 113, .ref 114, .int 0, .ref 115, .ref 116, .ref 117, .ref 118, .ref 119, .ref 120, .ref 121, .int 0, .ref 122, .ref 123, .int 0, .ref 124, .ref 125, .ref 126, .int 0, .ref 127, .ref 128, .ref 129, .ref 130, .int 0, .ref 131, .int 0, .int 0, .int 0, .long 0])) := oz40
  have oa40 := (ek40 84 (by decide)).trans oa39
  show T_W _ (E_run _ E_m175 3230 (109, [(7, .int f), (6, .int 19), (0, .ref 83), (1, .int a), (2, .int b), (3, .int c), (4, .int e), (5, .int f)], []) _ 0)
  refine T_of (S_go rfl rfl) ?_
  refine T_of (S_go rfl rfl) ?_
  refine T_of (S_go rfl rfl) ?_
  refine T_of (S_go rfl rfl) ?_
  refine T_of (S_go rfl rfl) ?_
  show T_W _ (E_run _ E_m175 3225 (115, [(6, .int 20), (7, .int f), (0, .ref 83), (1, .int a), (2, .int b), (3, .int c), (4, .int e), (5, .int f)], []) _ 0)
  refine T_of (S_go rfl rfl) ?_
  refine T_of (S_get rfl om40 rfl (by decide) rfl) ?_
  exact T_end rfl ⟨rfl, rfl, om40, ⟨_, oa40⟩, fun j j0 j1 => (ek40 j j0).trans ((ek39 j j1).trans ((ek38 j j0).trans ((ek37 j j1).trans ((ek36 j j0).trans ((ek35 j j1).trans ((ek34 j j0).trans ((ek33 j j1).trans ((ek32 j j0).trans ((ek31 j j1).trans ((ek30 j j0).trans ((ek29 j j1).trans ((ek28 j j0).trans ((ek27 j j1).trans ((ek26 j j0).trans ((ek25 j j1).trans ((ek24 j j0).trans ((ek23 j j1).trans ((ek22 j j0).trans ((ek21 j j1).trans ((ek20 j j0).trans ((ek19 j j1).trans ((ek18 j j0).trans ((ek17 j j1).trans ((ek16 j j0).trans ((ek15 j j1).trans ((ek14 j j0).trans ((ek13 j j1).trans ((ek12 j j0).trans ((ek11 j j1).trans ((ek10 j j0).trans ((ek9 j j1).trans ((ek8 j j0).trans ((ek7 j j1).trans ((ek6 j j0).trans ((ek5 j j1).trans ((ek4 j j0).trans ((ek3 j j1).trans ((ek2 j j0).trans ((ek1 j j1)))))))))))))))))))))))))))))))))))))))), el40.trans (el39.trans (el38.trans (el37.trans (el36.trans (el35.trans (el34.trans (el33.trans (el32.trans (el31.trans (el30.trans (el29.trans (el28.trans (el27.trans (el26.trans (el25.trans (el24.trans (el23.trans (el22.trans (el21.trans (el20.trans (el19.trans (el18.trans (el17.trans (el16.trans (el15.trans (el14.trans (el13.trans (el12.trans (el11.trans (el10.trans (el9.trans (el8.trans (el7.trans (el6.trans (el5.trans (el4.trans (el3.trans (el2.trans (el1)))))))))))))))))))))))))))))))))))))))⟩
end
section
theorem Z_cnt {x : Int32} (h : ¬ (x.toInt < 0 ∨ 9 < x.toInt)) : ∃ k, k ≤ 9 ∧ x = nI k := by
  have h9 : (9 : Int32).toInt = 9 := by decide
  have h0 : (0 : Int32).toInt = 0 := by decide
  refine nI_of2 (M := 9) h9 (fun q => ?_) ?_
  · rw [Int32.lt_iff_toInt_lt] at q
    omega
  · rw [Int32.le_iff_toInt_le]
    omega
def E_isA (x : Option E_O) (t n : Nat) : Bool := match x with
  | some (.inl (t2, n2, .inl _)) => t2 == t && n2 == n
  | _ => false
theorem E_isA_ok {x : Option E_O} {t n : Nat} (h : E_isA x t n = true) : ∃ g : Nat → Int32, x = some (.inl (t, n, .inl g)) := by
  unfold E_isA at h
  split at h
  · rw [Bool.and_eq_true, beq_iff_eq, beq_iff_eq] at h
    rw [h.1, h.2]
    exact ⟨_, rfl⟩
  · cases h
theorem P_ta : (E_isA P_h[1]? 1 1000 && E_isA P_h[84]? 0 1000) = true := by decide +kernel
theorem P_feed (a b c d e : Int32) : L_two 4000 60 145 175 room_1.cells room_1.slots [a, b, c, d, e] P_h P_sl (P_J 1) := by
  obtain ⟨O0, -, -, -, -, O83, l1, l2⟩ := P_fa
  have hta := P_ta
  rw [Bool.and_eq_true] at hta
  obtain ⟨g1, A1⟩ := E_isA_ok hta.1
  obtain ⟨g2, A2⟩ := E_isA_ok hta.2
  obtain ⟨⟨x, h1, s1⟩, e1, ex, es, -, -, ek, el⟩ := X_feed 58 a b c d e O0 A1
  obtain ⟨⟨y, h2, s2⟩, e2, ey, es2, -, -, ek2, el2⟩ := Y_feed 59 a b c d e ((ek 83 (by decide) (by decide)).trans O83) ((ek 84 (by decide) (by decide)).trans A2)
  subst ex
  subst es
  subst ey
  subst es2
  have r9 : 2000000 ≤ room_1.slots := Nat.le_of_ble_eq_true rfl
  have r0 : 1000 ≤ room_1.cells := Nat.le_of_ble_eq_true rfl
  have r1 : h1.length ≤ room_1.cells := by omega
  have r2 : h2.length ≤ room_1.cells := by omega
  have r3 : P_sl + 0 + 0 ≤ room_1.slots := by omega
  exact ⟨20, h1, 0, h2, 0, _, _, e1, e2, O0, (ek 83 (by decide) (by decide)).trans O83, r1, r2, r3, fun h => absurd h (by decide), r2, r3⟩
theorem P_turns (a : Nat → Int32) (j : Nat) (hj : j < 32) : L_turn 4000 60 room_1.cells room_1.slots j a P_h P_sl (P_J 1) := by
  obtain ⟨O0, O2, O21, O78, O79, O83, l1, l2⟩ := P_fa
  match j, hj with
  | 0, _ => exact P_feed _ _ _ _ _
  | 1, _ =>
    show L_two 4000 60 146 176 room_1.cells room_1.slots [a 1] P_h P_sl (P_J 1)
    by_cases h0 : a 1 = 0
    · rw [h0]
      exact P_chk_two P_z_e0
    · exact P_two (as := [a 1]) (X_end 59 _ h0 O0) (Y_end 59 _ h0 O83)
  | 2, _ => exact P_chk_two P_z_add
  | 3, _ => exact P_two (as := [a 1]) (X_change 57 _ O0 O2) (Y_change 58 _ O83)
  | 4, _ => exact P_two (as := [a 1]) (X_remove 57 _ O0 O2) (Y_remove 58 _ O83)
  | 5, _ => exact P_two (as := [a 1]) (X_size 58 _ O0 O2) (Y_size 58 _ O83)
  | 6, _ => exact P_two (as := [a 1, a 2]) (X_byteAt 58 _ _ O0 O2) (Y_byteAt 58 _ _ O83)
  | 7, _ => exact P_two (as := [a 1, a 2]) (X_posting 58 _ _ O0 O2) (Y_posting 59 _ _ O83)
  | 8, _ =>
    show L_two 4000 60 153 276 room_1.cells room_1.slots [if a 1 = 0 then 0 else 1] P_h P_sl (P_J 1)
    by_cases h0 : a 1 = 0
    · rw [if_pos h0]
      exact P_chk_two P_z_s0
    · rw [if_neg h0]
      exact P_chk_two P_z_s1
  | 9, _ =>
    show L_two 4000 60 154 277 room_1.cells room_1.slots [a 1] P_h P_sl (P_J 1)
    by_cases h0 : a 1 = 0
    · rw [h0]
      exact P_chk_two P_z_f0
    · by_cases h1 : a 1 = 1
      · rw [h1]
        exact P_chk_two P_z_f1
      · exact P_two (as := [a 1]) (X_fault 59 _ h0 h1 O0) (Y_fault 59 _ h0 h1 O83)
  | 10, _ => exact P_two (as := [a 1, a 2]) (X_hit 58 _ _ O0 O78) (Y_hit 59 _ _ O83)
  | 11, _ => exact P_two (as := [a 1]) (X_opened 57 _ O0 O78 O79) (Y_opened 59 _ O83)
  | 12, _ => exact P_two (as := [a 1]) (X_choice 59 _ O0 O78) (Y_choice 59 _ O83)
  | 13, _ => exact P_gram _ _
  | 14, _ => exact P_two (as := [a 1]) (X_texts 59 _ O0 O78) (Y_texts 59 _ O83)
  | 15, _ => exact P_two (as := [a 1, a 2, a 3]) (X_text 58 _ _ _ O0 O78) (Y_text 59 _ _ _ O83)
  | 16, _ =>
    show L_two 4000 60 161 284 room_1.cells room_1.slots [a 1] P_h P_sl (P_J 1)
    by_cases hw : (a 1).toInt < 0 ∨ 9 < (a 1).toInt
    · exact P_two (as := [a 1]) (X_count 59 _ hw O0) (Y_count 59 _ hw O83)
    · obtain ⟨k, hk, e⟩ := Z_cnt hw
      rw [e]
      match k, hk with
      | 0, _ => exact P_chk_two P_z_c0
      | 1, _ => exact P_chk_two P_z_c1
      | 2, _ => exact P_chk_two P_z_c2
      | 3, _ => exact P_chk_two P_z_c3
      | 4, _ => exact P_chk_two P_z_c4
      | 5, _ => exact P_chk_two P_z_c5
      | 6, _ => exact P_chk_two P_z_c6
      | 7, _ => exact P_chk_two P_z_c7
      | 8, _ => exact P_chk_two P_z_c8
      | 9, _ => exact P_chk_two P_z_c9
      | q + 10, hk => exact absurd hk (by omega)
  | k + 17, _ => exact ⟨fun h => absurd h (by decide), Nat.le_trans l1 (Nat.le_of_ble_eq_true rfl), Nat.le_trans l2 (Nat.le_of_ble_eq_true rfl)⟩
/-- the law, from its entry, on every script of one call at most -/
theorem whole_start {p : Program} {e : Env} {s : State} {m : MethodId} {below : List Frame} {meth : Method} {c : Code} (l : Launch) {b L : Nat} {xs : Nat → Int32} (hL : L ≤ 6) (C0 : lw_At p s m meth c b L xs) : W p l e room_1 s m #[Value.ref b] below meth c s.heap [] 0 0 (lw_Z below #[Value.ref b] s) (entryFrame m ([Value.ref b] : List Value).toArray 4) := by
  have k1 := P_opt2 P_k1
  have k2 := P_opt2 P_k2
  have l83 : (P_gh P_r1).length = 83 := by
    have := k1.2
    unfold P_f1 at this
    exact beq_iff_eq.mp this
  obtain ⟨-, -, -, -, -, -, l1, l2⟩ := P_fa
  have r1 : P_h.length ≤ room_1.cells := Nat.le_trans l1 (Nat.le_of_ble_eq_true rfl)
  have r2 : P_sl ≤ room_1.slots := Nat.le_trans l2 (Nat.le_of_ble_eq_true rfl)
  refine L_start l C0 (fuel := 4000) (d := 60) (TT := 1) (h1 := P_gh P_r1) (h2 := P_h) (s1 := P_gs P_r1) (s2 := P_gs P_r2) (J := P_J) (by decide) (by omega) (by decide) k1.1 l83 k2.1 r1 r2 (fun t h sl ht hJ a j hj => ?_) (fun t h sl hJ => hJ.2) ⟨fun _ => ⟨rfl, rfl⟩, r1, r2⟩
  obtain rfl : t = 0 := by omega
  obtain ⟨e1, e2⟩ := hJ.1 rfl
  rw [e1, e2]
  exact P_turns a j hj
end
section
-- ===== YOUR PART ENDS =====
set_option maxHeartbeats 4000000 in
theorem lw_walk (l : Launch) (b : Addr) (xs : List Int32) : MetFree l x (headSpec (Jvm.Cond.code x code maxLocals ret :: tables_1) room_1) (lw_P b xs) (fun _ _ _ _ _ => True) lw_Q := by
  refine MetFree.of_bodyS (code := code) (maxLocals := maxLocals) (ret := ret) (by decide) ?_ ?_
  · intro args s m h hn
    obtain ⟨meth, c, h1, h2, h3, h4, h5, h6, -, -⟩ := Cond.code_spec hn (atoms_spec (ws := Jvm.Cond.code x code maxLocals ret :: tables_1) h _ List.mem_cons_self)
    exact ⟨meth, c, h1, h2, h3, h4, h5, h6⟩
  · intro p e s m args below meth c s₁ B hml0 hP _
    obtain ⟨rfl, hx, hbd, hgv⟩ := hP
    obtain ⟨scr, harrAt, hlist, hof, hsmall⟩ := hx
    obtain ⟨hcb, hkn, -, -⟩ := State.arrayAt?_spec harrAt
    have hown : s.vm.findClass R_law = some m.cls := findClass_of_methodNamed B.named
    have hts0 : ∀ c ∈ (Jvm.Cond.code x code maxLocals ret :: tables_1), c.before #[Value.ref b] s = true := atoms_spec (ws := Jvm.Cond.code x code maxLocals ret :: tables_1) B.pre
    have hts : ∀ w ∈ lw_tbl, w.before #[Value.ref b] s = true := k2_hts_sels lw_privs (fun w hw => hts0 w (List.mem_cons_of_mem _ hw)) lw_privs_ok
    have hml : c.maxLocals = 4 := B.maxLocals_eq (hts0 _ List.mem_cons_self)
    have X₀ : Stand p l e room_1 s m #[Value.ref b] below meth c s₁ [] 0 0 := Stand.of_body B
    have hh0 : s₁.heap = s.heap := by rw [B.state]; rfl
    have hsz : scr.slots.size = xs.length := by rw [← Array.length_toList, hlist, List.length_map]
    have hval : ∀ j : Nat, j < xs.length → scr.slots[j]? = some (.int (xs.getD j 0)) := fun j hj => by
      rw [← Array.getElem?_toList, hlist]
      simp [hj]
    have hbl : b < s.heap.size := (Array.getElem?_eq_some_iff.mp hcb).1
    have hX : va_X b xs.length (fun j => xs.getD j 0) s s.heap := ⟨scr, hcb, hof, hkn, hsz, hval⟩
    have K : W p l e room_1 s m #[Value.ref b] below meth c s₁.heap [] 0 0 (lw_Z below #[Value.ref b] s) (entryFrame m ([Value.ref b] : List Value).toArray 4) := by
      rw [hh0]
      exact whole_start l hbd ⟨B.exec, B.bytes, B.returns, hml, hown, hts, hX, hbl, B.notSynchronized, hgv⟩
    obtain ⟨t, a1, o, b1, b2, b3⟩ := K s₁ rfl X₀
    exact ⟨t, o, a1, b1, b2, b3⟩
theorem lw_pre_spec {args : Array Value} {s : State} (h : (Jvm.Cond.and given_1 narrow_1).before args s = true) (hr : rest_1_c.before args s = true) : ∃ (b : Addr) (xs : List Int32), lw_P b xs args s := by
  have hs := flat_of_before _ h
  have hq := flat_of_before _ hr
  have hc : (Cond.count 1).before args s = true := hs _ (by decide +kernel)
  have harr : (Cond.arrayOf (.arg 0) .int).before args s = true := hs _ (by decide +kernel)
  have hle : (Cond.le (.length (.arg 0)) (.int 6)).before args s = true := hs _ (by decide +kernel)
  have hlen : (Cond.isInt (.length (.arg 0))).before args s = true := hq _ (by decide +kernel)
  have hall : (Cond.all (.arg 0) (.isInt (.elem (.arg 0) (.index 0)))).before args s = true := hq _ (by decide +kernel)
  obtain ⟨b, xs, hb, hx⟩ := State.ints_of_pre rfl harr hlen hall
  have hsm : xs.length < 2 ^ 31 := hx.choose_spec.2.2.2
  have hev : (Term.length (.arg 0)).eval args s none [] s = some (.int xs.length.toInt32) := hx.length_eval hb
  have hv := Cond.le_ints hev (show (Term.int 6).eval args s none [] s = some (.int 6) from rfl)
  have hd : xs.length.toInt32 ≤ 6 := by
    simpa [Cond.before, Cond.holds, hv] using hle
  have hN : xs.length ≤ 6 := (Int32.ofNat_le_ofNat hsm (by decide)).mp (show Int32.ofNat xs.length ≤ Int32.ofNat 6 from hd)
  exact ⟨b, xs, Cond.one_arg hc (show args[0]? = some (.ref b) from hb), hx, hN, h⟩
theorem lw_comes (l : Launch) : Comes l x (Jvm.Cond.code x code maxLocals ret :: tables_1) room_1 (fun tb e args s => Calls_1 tb e args s ∧ rest_1 tb e args s ∧ Pre_1 tb e args s)
    (fun _ _ args s o t => lw_Q args s o t) := by
  intro p e ha hc hk s m args below hf hfit hheap happ hpre
  obtain ⟨b, xs, hP⟩ := lw_pre_spec hpre.2.2 hpre.2.1
  obtain ⟨k, o, h1, h2, h3, hQ⟩ := lw_walk l b xs p e ha hc hk s m args below hf ((Spec.applies_iff_loose hf).mp happ).1 hP trivial
  exact ⟨k, o, h1, h2, h3, hQ⟩
theorem lw_frame {s t : State} {o : Outcome} {args : Array Value} (h : Framed s o t [] room_1.cells room_1.slots) :
    Framed s o t (fieldLocs frame_1_writes args s ++ arrayLocs frame_1_arrays args s ++ staticLocs frame_1_statics s) room_1.cells room_1.slots := h
theorem lw_limb (L : Cond) (hL : ∀ (args : Array Value) (s t : State), L.after args s (.returned (some (.int 1))) t = true) :
    ArmFor flags0 classFile x code maxLocals ret World_1 tables_1 room_1 Calls_1 rest_1 Pre_1
      (fun tb e a s o t => postC L tb e a s o t ∧ Framed s o t (fieldLocs frame_1_writes a s ++ arrayLocs frame_1_arrays a s ++ staticLocs frame_1_statics s) room_1.cells room_1.slots) := by
  intro l _ _ _ p e ha hc hk s m args below hf hfit hheap happ hpre
  obtain ⟨k, o, h1, h2, h3, rfl, hF⟩ := lw_comes l p e ha hc hk s m args below hf hfit hheap happ hpre
  exact ⟨k, _, h1, h2, h3, hL args s _, lw_frame hF⟩
theorem i_vc : Claimed_1_1 ∧ Claimed_1_2 := ⟨lw_limb limb_1_1 (fun args s t => by simp [limb_1_1, Cond.after, Cond.holds, Cond.value]), lw_limb limb_1_2 (fun args s t => Cond.after_iff.mpr (by
  first | (rw [show limb_1_2 = Cond.eq .result (.int 1) from rfl, Cond.eq_ints (x := 1) (y := 1) rfl rfl]; simp; done) | (simp [limb_1_2, Cond.value, Term.eval]; done)))⟩
end
