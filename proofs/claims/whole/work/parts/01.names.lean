-- ===== PART A: goes FIRST, ahead of the names: the tables' words, and 'selects' of the private methods out of them =====
/-- a private method of a class that the tables say can be made, by its rows of tables_1 -/
def lw_okq (q : MethodName × Nat) : Prop := (q.1.cls ≠ "java/lang/invoke/MethodHandle" ∧ q.1.cls ≠ "java/lang/invoke/VarHandle") ∧ Cond.instantiable q.1.cls q.2 ∈ tables_1 ∧ Cond.privateMethod q.1 ∈ tables_1 ∧ Cond.instanceMethod q.1 ∈ tables_1
theorem lw_p0 : lw_okq (⟨"PurityEffects$Program", "suits", "(III)Z"⟩, 18) := ⟨⟨by decide +kernel, by decide +kernel⟩, List.mem_of_getElem? (i := 20) (by decide +kernel), List.mem_of_getElem? (i := 423) (by decide +kernel), List.mem_of_getElem? (i := 424) (by decide +kernel)⟩
theorem lw_p1 : lw_okq (⟨"PurityEffects$Program", "isLocal", "(I)Z"⟩, 18) := ⟨⟨by decide +kernel, by decide +kernel⟩, List.mem_of_getElem? (i := 20) (by decide +kernel), List.mem_of_getElem? (i := 427) (by decide +kernel), List.mem_of_getElem? (i := 428) (by decide +kernel)⟩
theorem lw_p2 : lw_okq (⟨"PurityEffects$Program", "isFieldOf", "(IZ)Z"⟩, 18) := ⟨⟨by decide +kernel, by decide +kernel⟩, List.mem_of_getElem? (i := 20) (by decide +kernel), List.mem_of_getElem? (i := 432) (by decide +kernel), List.mem_of_getElem? (i := 433) (by decide +kernel)⟩
theorem lw_p3 : lw_okq (⟨"PurityEffects$Foresight", "forget", "()V"⟩, 9) := ⟨⟨by decide +kernel, by decide +kernel⟩, List.mem_of_getElem? (i := 151) (by decide +kernel), List.mem_of_getElem? (i := 523) (by decide +kernel), List.mem_of_getElem? (i := 524) (by decide +kernel)⟩
theorem lw_p4 : lw_okq (⟨"PurityEffects$Foresight", "beginning", "(I)J"⟩, 9) := ⟨⟨by decide +kernel, by decide +kernel⟩, List.mem_of_getElem? (i := 151) (by decide +kernel), List.mem_of_getElem? (i := 528) (by decide +kernel), List.mem_of_getElem? (i := 529) (by decide +kernel)⟩
theorem lw_p5 : lw_okq (⟨"PurityEffects$Foresight", "reach", "(IIJ)V"⟩, 9) := ⟨⟨by decide +kernel, by decide +kernel⟩, List.mem_of_getElem? (i := 151) (by decide +kernel), List.mem_of_getElem? (i := 537) (by decide +kernel), List.mem_of_getElem? (i := 538) (by decide +kernel)⟩
theorem lw_p6 : lw_okq (⟨"PurityEffects$Foresight", "end", "(II)V"⟩, 9) := ⟨⟨by decide +kernel, by decide +kernel⟩, List.mem_of_getElem? (i := 151) (by decide +kernel), List.mem_of_getElem? (i := 541) (by decide +kernel), List.mem_of_getElem? (i := 542) (by decide +kernel)⟩
theorem lw_p7 : lw_okq (⟨"PurityEffects$Foresight", "add", "([III)V"⟩, 9) := ⟨⟨by decide +kernel, by decide +kernel⟩, List.mem_of_getElem? (i := 151) (by decide +kernel), List.mem_of_getElem? (i := 545) (by decide +kernel), List.mem_of_getElem? (i := 546) (by decide +kernel)⟩
theorem lw_p8 : lw_okq (⟨"PurityEffects$Foresight", "weigh", "(II)V"⟩, 9) := ⟨⟨by decide +kernel, by decide +kernel⟩, List.mem_of_getElem? (i := 151) (by decide +kernel), List.mem_of_getElem? (i := 549) (by decide +kernel), List.mem_of_getElem? (i := 550) (by decide +kernel)⟩
theorem lw_p9 : lw_okq (⟨"PurityEffects$Foresight", "weighPart", "(IIJ)I"⟩, 9) := ⟨⟨by decide +kernel, by decide +kernel⟩, List.mem_of_getElem? (i := 151) (by decide +kernel), List.mem_of_getElem? (i := 553) (by decide +kernel), List.mem_of_getElem? (i := 554) (by decide +kernel)⟩
theorem lw_p10 : lw_okq (⟨"PurityEffects$Foresight", "mayTouch", "([IIII)V"⟩, 9) := ⟨⟨by decide +kernel, by decide +kernel⟩, List.mem_of_getElem? (i := 151) (by decide +kernel), List.mem_of_getElem? (i := 560) (by decide +kernel), List.mem_of_getElem? (i := 561) (by decide +kernel)⟩
theorem lw_p11 : lw_okq (⟨"PurityEffects$Foresight", "weighStatic", "(IIJ)V"⟩, 9) := ⟨⟨by decide +kernel, by decide +kernel⟩, List.mem_of_getElem? (i := 151) (by decide +kernel), List.mem_of_getElem? (i := 564) (by decide +kernel), List.mem_of_getElem? (i := 565) (by decide +kernel)⟩
theorem lw_p12 : lw_okq (⟨"PurityEffects$Foresight", "weighCall", "(IIJ)I"⟩, 9) := ⟨⟨by decide +kernel, by decide +kernel⟩, List.mem_of_getElem? (i := 151) (by decide +kernel), List.mem_of_getElem? (i := 568) (by decide +kernel), List.mem_of_getElem? (i := 569) (by decide +kernel)⟩
theorem lw_p13 : lw_okq (⟨"PurityEffects$Foresight", "mayPrint", "(I)V"⟩, 9) := ⟨⟨by decide +kernel, by decide +kernel⟩, List.mem_of_getElem? (i := 151) (by decide +kernel), List.mem_of_getElem? (i := 572) (by decide +kernel), List.mem_of_getElem? (i := 573) (by decide +kernel)⟩
theorem lw_p14 : lw_okq (⟨"PurityEffects$Foresight", "resultThere", "(IIJ)I"⟩, 9) := ⟨⟨by decide +kernel, by decide +kernel⟩, List.mem_of_getElem? (i := 151) (by decide +kernel), List.mem_of_getElem? (i := 576) (by decide +kernel), List.mem_of_getElem? (i := 577) (by decide +kernel)⟩
theorem lw_p15 : lw_okq (⟨"PurityEffects$Foresight", "weighBranch", "(IIJ)V"⟩, 9) := ⟨⟨by decide +kernel, by decide +kernel⟩, List.mem_of_getElem? (i := 151) (by decide +kernel), List.mem_of_getElem? (i := 580) (by decide +kernel), List.mem_of_getElem? (i := 581) (by decide +kernel)⟩
def lw_privs_1 : List (MethodName × Nat) := [(⟨"PurityEffects$Program", "suits", "(III)Z"⟩, 18), (⟨"PurityEffects$Program", "isLocal", "(I)Z"⟩, 18), (⟨"PurityEffects$Program", "isFieldOf", "(IZ)Z"⟩, 18), (⟨"PurityEffects$Foresight", "forget", "()V"⟩, 9), (⟨"PurityEffects$Foresight", "beginning", "(I)J"⟩, 9), (⟨"PurityEffects$Foresight", "reach", "(IIJ)V"⟩, 9), (⟨"PurityEffects$Foresight", "end", "(II)V"⟩, 9), (⟨"PurityEffects$Foresight", "add", "([III)V"⟩, 9), (⟨"PurityEffects$Foresight", "weigh", "(II)V"⟩, 9), (⟨"PurityEffects$Foresight", "weighPart", "(IIJ)I"⟩, 9), (⟨"PurityEffects$Foresight", "mayTouch", "([IIII)V"⟩, 9), (⟨"PurityEffects$Foresight", "weighStatic", "(IIJ)V"⟩, 9), (⟨"PurityEffects$Foresight", "weighCall", "(IIJ)I"⟩, 9), (⟨"PurityEffects$Foresight", "mayPrint", "(I)V"⟩, 9), (⟨"PurityEffects$Foresight", "resultThere", "(IIJ)I"⟩, 9), (⟨"PurityEffects$Foresight", "weighBranch", "(IIJ)V"⟩, 9)]
theorem lw_r1 : ∀ q ∈ lw_privs_1, lw_okq q := List.forall_mem_cons.mpr ⟨lw_p0, List.forall_mem_cons.mpr ⟨lw_p1, List.forall_mem_cons.mpr ⟨lw_p2, List.forall_mem_cons.mpr ⟨lw_p3, List.forall_mem_cons.mpr ⟨lw_p4, List.forall_mem_cons.mpr ⟨lw_p5, List.forall_mem_cons.mpr ⟨lw_p6, List.forall_mem_cons.mpr ⟨lw_p7, List.forall_mem_cons.mpr ⟨lw_p8, List.forall_mem_cons.mpr ⟨lw_p9, List.forall_mem_cons.mpr ⟨lw_p10, List.forall_mem_cons.mpr ⟨lw_p11, List.forall_mem_cons.mpr ⟨lw_p12, List.forall_mem_cons.mpr ⟨lw_p13, List.forall_mem_cons.mpr ⟨lw_p14, List.forall_mem_cons.mpr ⟨lw_p15, fun _ h => absurd h List.not_mem_nil⟩⟩⟩⟩⟩⟩⟩⟩⟩⟩⟩⟩⟩⟩⟩⟩
theorem lw_p16 : lw_okq (⟨"PurityEffects$Foresight", "weighCheckOrEnd", "(IIJ)I"⟩, 9) := ⟨⟨by decide +kernel, by decide +kernel⟩, List.mem_of_getElem? (i := 151) (by decide +kernel), List.mem_of_getElem? (i := 584) (by decide +kernel), List.mem_of_getElem? (i := 585) (by decide +kernel)⟩
theorem lw_p17 : lw_okq (⟨"PurityEffects$Foresight", "weighPlain", "(IIJ)I"⟩, 9) := ⟨⟨by decide +kernel, by decide +kernel⟩, List.mem_of_getElem? (i := 151) (by decide +kernel), List.mem_of_getElem? (i := 588) (by decide +kernel), List.mem_of_getElem? (i := 589) (by decide +kernel)⟩
theorem lw_p18 : lw_okq (⟨"PurityEffects$Foresight", "mayThrow", "(III)V"⟩, 9) := ⟨⟨by decide +kernel, by decide +kernel⟩, List.mem_of_getElem? (i := 151) (by decide +kernel), List.mem_of_getElem? (i := 592) (by decide +kernel), List.mem_of_getElem? (i := 593) (by decide +kernel)⟩
theorem lw_p19 : lw_okq (⟨"PurityEffects", "isAnalysed", "(I)Z"⟩, 11) := ⟨⟨by decide +kernel, by decide +kernel⟩, List.mem_of_getElem? (i := 12) (by decide +kernel), List.mem_of_getElem? (i := 611) (by decide +kernel), List.mem_of_getElem? (i := 612) (by decide +kernel)⟩
theorem lw_p20 : lw_okq (⟨"PurityEffects$Foresight", "isRepeatable", "(I)Z"⟩, 9) := ⟨⟨by decide +kernel, by decide +kernel⟩, List.mem_of_getElem? (i := 151) (by decide +kernel), List.mem_of_getElem? (i := 620) (by decide +kernel), List.mem_of_getElem? (i := 621) (by decide +kernel)⟩
theorem lw_p21 : lw_okq (⟨"PurityEffects$Machine", "enter", "(I)V"⟩, 13) := ⟨⟨by decide +kernel, by decide +kernel⟩, List.mem_of_getElem? (i := 193) (by decide +kernel), List.mem_of_getElem? (i := 663) (by decide +kernel), List.mem_of_getElem? (i := 664) (by decide +kernel)⟩
theorem lw_p22 : lw_okq (⟨"PurityEffects$Machine", "doNext", "()I"⟩, 13) := ⟨⟨by decide +kernel, by decide +kernel⟩, List.mem_of_getElem? (i := 193) (by decide +kernel), List.mem_of_getElem? (i := 667) (by decide +kernel), List.mem_of_getElem? (i := 668) (by decide +kernel)⟩
theorem lw_p23 : lw_okq (⟨"PurityEffects$Machine", "leave", "(I)V"⟩, 13) := ⟨⟨by decide +kernel, by decide +kernel⟩, List.mem_of_getElem? (i := 193) (by decide +kernel), List.mem_of_getElem? (i := 671) (by decide +kernel), List.mem_of_getElem? (i := 672) (by decide +kernel)⟩
theorem lw_p24 : lw_okq (⟨"PurityEffects$Machine", "locals", "()I"⟩, 13) := ⟨⟨by decide +kernel, by decide +kernel⟩, List.mem_of_getElem? (i := 193) (by decide +kernel), List.mem_of_getElem? (i := 675) (by decide +kernel), List.mem_of_getElem? (i := 676) (by decide +kernel)⟩
theorem lw_p25 : lw_okq (⟨"PurityEffects$Machine", "goOn", "()I"⟩, 13) := ⟨⟨by decide +kernel, by decide +kernel⟩, List.mem_of_getElem? (i := 193) (by decide +kernel), List.mem_of_getElem? (i := 679) (by decide +kernel), List.mem_of_getElem? (i := 680) (by decide +kernel)⟩
theorem lw_p26 : lw_okq (⟨"PurityEffects$Machine", "doNumbers", "(II)I"⟩, 13) := ⟨⟨by decide +kernel, by decide +kernel⟩, List.mem_of_getElem? (i := 193) (by decide +kernel), List.mem_of_getElem? (i := 683) (by decide +kernel), List.mem_of_getElem? (i := 684) (by decide +kernel)⟩
theorem lw_p27 : lw_okq (⟨"PurityEffects$Machine", "doReferences", "(II)I"⟩, 13) := ⟨⟨by decide +kernel, by decide +kernel⟩, List.mem_of_getElem? (i := 193) (by decide +kernel), List.mem_of_getElem? (i := 687) (by decide +kernel), List.mem_of_getElem? (i := 688) (by decide +kernel)⟩
theorem lw_p28 : lw_okq (⟨"PurityEffects$Machine", "doField", "(II)I"⟩, 13) := ⟨⟨by decide +kernel, by decide +kernel⟩, List.mem_of_getElem? (i := 193) (by decide +kernel), List.mem_of_getElem? (i := 692) (by decide +kernel), List.mem_of_getElem? (i := 693) (by decide +kernel)⟩
theorem lw_p29 : lw_okq (⟨"PurityEffects$Machine", "note", "(IIZ)V"⟩, 13) := ⟨⟨by decide +kernel, by decide +kernel⟩, List.mem_of_getElem? (i := 193) (by decide +kernel), List.mem_of_getElem? (i := 697) (by decide +kernel), List.mem_of_getElem? (i := 698) (by decide +kernel)⟩
theorem lw_p30 : lw_okq (⟨"PurityEffects$Machine", "foreseenOf", "(IZ)I"⟩, 13) := ⟨⟨by decide +kernel, by decide +kernel⟩, List.mem_of_getElem? (i := 193) (by decide +kernel), List.mem_of_getElem? (i := 701) (by decide +kernel), List.mem_of_getElem? (i := 702) (by decide +kernel)⟩
theorem lw_p31 : lw_okq (⟨"PurityEffects$Machine", "doItem", "(II)I"⟩, 13) := ⟨⟨by decide +kernel, by decide +kernel⟩, List.mem_of_getElem? (i := 193) (by decide +kernel), List.mem_of_getElem? (i := 705) (by decide +kernel), List.mem_of_getElem? (i := 706) (by decide +kernel)⟩
def lw_privs_2 : List (MethodName × Nat) := [(⟨"PurityEffects$Foresight", "weighCheckOrEnd", "(IIJ)I"⟩, 9), (⟨"PurityEffects$Foresight", "weighPlain", "(IIJ)I"⟩, 9), (⟨"PurityEffects$Foresight", "mayThrow", "(III)V"⟩, 9), (⟨"PurityEffects", "isAnalysed", "(I)Z"⟩, 11), (⟨"PurityEffects$Foresight", "isRepeatable", "(I)Z"⟩, 9), (⟨"PurityEffects$Machine", "enter", "(I)V"⟩, 13), (⟨"PurityEffects$Machine", "doNext", "()I"⟩, 13), (⟨"PurityEffects$Machine", "leave", "(I)V"⟩, 13), (⟨"PurityEffects$Machine", "locals", "()I"⟩, 13), (⟨"PurityEffects$Machine", "goOn", "()I"⟩, 13), (⟨"PurityEffects$Machine", "doNumbers", "(II)I"⟩, 13), (⟨"PurityEffects$Machine", "doReferences", "(II)I"⟩, 13), (⟨"PurityEffects$Machine", "doField", "(II)I"⟩, 13), (⟨"PurityEffects$Machine", "note", "(IIZ)V"⟩, 13), (⟨"PurityEffects$Machine", "foreseenOf", "(IZ)I"⟩, 13), (⟨"PurityEffects$Machine", "doItem", "(II)I"⟩, 13)]
theorem lw_r2 : ∀ q ∈ lw_privs_2, lw_okq q := List.forall_mem_cons.mpr ⟨lw_p16, List.forall_mem_cons.mpr ⟨lw_p17, List.forall_mem_cons.mpr ⟨lw_p18, List.forall_mem_cons.mpr ⟨lw_p19, List.forall_mem_cons.mpr ⟨lw_p20, List.forall_mem_cons.mpr ⟨lw_p21, List.forall_mem_cons.mpr ⟨lw_p22, List.forall_mem_cons.mpr ⟨lw_p23, List.forall_mem_cons.mpr ⟨lw_p24, List.forall_mem_cons.mpr ⟨lw_p25, List.forall_mem_cons.mpr ⟨lw_p26, List.forall_mem_cons.mpr ⟨lw_p27, List.forall_mem_cons.mpr ⟨lw_p28, List.forall_mem_cons.mpr ⟨lw_p29, List.forall_mem_cons.mpr ⟨lw_p30, List.forall_mem_cons.mpr ⟨lw_p31, fun _ h => absurd h List.not_mem_nil⟩⟩⟩⟩⟩⟩⟩⟩⟩⟩⟩⟩⟩⟩⟩⟩
theorem lw_p32 : lw_okq (⟨"PurityEffects$Machine", "doStatic", "(II)I"⟩, 13) := ⟨⟨by decide +kernel, by decide +kernel⟩, List.mem_of_getElem? (i := 193) (by decide +kernel), List.mem_of_getElem? (i := 711) (by decide +kernel), List.mem_of_getElem? (i := 712) (by decide +kernel)⟩
theorem lw_p33 : lw_okq (⟨"PurityEffects$Machine", "doSize", "(I)I"⟩, 13) := ⟨⟨by decide +kernel, by decide +kernel⟩, List.mem_of_getElem? (i := 193) (by decide +kernel), List.mem_of_getElem? (i := 715) (by decide +kernel), List.mem_of_getElem? (i := 716) (by decide +kernel)⟩
theorem lw_p34 : lw_okq (⟨"PurityEffects$Machine", "doCall", "(I)I"⟩, 13) := ⟨⟨by decide +kernel, by decide +kernel⟩, List.mem_of_getElem? (i := 193) (by decide +kernel), List.mem_of_getElem? (i := 719) (by decide +kernel), List.mem_of_getElem? (i := 720) (by decide +kernel)⟩
theorem lw_p35 : lw_okq (⟨"PurityEffects$Machine", "doPrint", "(I)I"⟩, 13) := ⟨⟨by decide +kernel, by decide +kernel⟩, List.mem_of_getElem? (i := 193) (by decide +kernel), List.mem_of_getElem? (i := 723) (by decide +kernel), List.mem_of_getElem? (i := 724) (by decide +kernel)⟩
theorem lw_p36 : lw_okq (⟨"PurityEffects$Machine", "holds", "(II)Z"⟩, 13) := ⟨⟨by decide +kernel, by decide +kernel⟩, List.mem_of_getElem? (i := 193) (by decide +kernel), List.mem_of_getElem? (i := 731) (by decide +kernel), List.mem_of_getElem? (i := 732) (by decide +kernel)⟩
theorem lw_p37 : lw_okq (⟨"PurityEffects$Machine", "goOnAt", "(I)I"⟩, 13) := ⟨⟨by decide +kernel, by decide +kernel⟩, List.mem_of_getElem? (i := 193) (by decide +kernel), List.mem_of_getElem? (i := 736) (by decide +kernel), List.mem_of_getElem? (i := 737) (by decide +kernel)⟩
theorem lw_p38 : lw_okq (⟨"PurityEffects$Machine", "doCheckOrEnd", "(II)I"⟩, 13) := ⟨⟨by decide +kernel, by decide +kernel⟩, List.mem_of_getElem? (i := 193) (by decide +kernel), List.mem_of_getElem? (i := 740) (by decide +kernel), List.mem_of_getElem? (i := 741) (by decide +kernel)⟩
theorem lw_p39 : lw_okq (⟨"PurityEffects$Machine", "comeToCatch", "(I)I"⟩, 13) := ⟨⟨by decide +kernel, by decide +kernel⟩, List.mem_of_getElem? (i := 193) (by decide +kernel), List.mem_of_getElem? (i := 744) (by decide +kernel), List.mem_of_getElem? (i := 745) (by decide +kernel)⟩
theorem lw_p40 : lw_okq (⟨"PurityEffects$Machine", "holdAgainst", "(I)V"⟩, 13) := ⟨⟨by decide +kernel, by decide +kernel⟩, List.mem_of_getElem? (i := 193) (by decide +kernel), List.mem_of_getElem? (i := 749) (by decide +kernel), List.mem_of_getElem? (i := 750) (by decide +kernel)⟩
theorem lw_p41 : lw_okq (⟨"PurityEffects", "tryOne", "(II[I)Z"⟩, 11) := ⟨⟨by decide +kernel, by decide +kernel⟩, List.mem_of_getElem? (i := 12) (by decide +kernel), List.mem_of_getElem? (i := 773) (by decide +kernel), List.mem_of_getElem? (i := 774) (by decide +kernel)⟩
theorem lw_p42 : lw_okq (⟨"PurityEffects$Likeness", "printedAlike", "()Z"⟩, 10) := ⟨⟨by decide +kernel, by decide +kernel⟩, List.mem_of_getElem? (i := 281) (by decide +kernel), List.mem_of_getElem? (i := 781) (by decide +kernel), List.mem_of_getElem? (i := 782) (by decide +kernel)⟩
theorem lw_p43 : lw_okq (⟨"PurityEffects$Likeness", "staticsAlike", "()Z"⟩, 10) := ⟨⟨by decide +kernel, by decide +kernel⟩, List.mem_of_getElem? (i := 281) (by decide +kernel), List.mem_of_getElem? (i := 785) (by decide +kernel), List.mem_of_getElem? (i := 786) (by decide +kernel)⟩
theorem lw_p44 : lw_okq (⟨"PurityEffects$Likeness", "valuesAlike", "(ZII)Z"⟩, 10) := ⟨⟨by decide +kernel, by decide +kernel⟩, List.mem_of_getElem? (i := 281) (by decide +kernel), List.mem_of_getElem? (i := 789) (by decide +kernel), List.mem_of_getElem? (i := 790) (by decide +kernel)⟩
theorem lw_p45 : lw_okq (⟨"PurityEffects$Likeness", "heldAlike", "(II)Z"⟩, 10) := ⟨⟨by decide +kernel, by decide +kernel⟩, List.mem_of_getElem? (i := 281) (by decide +kernel), List.mem_of_getElem? (i := 793) (by decide +kernel), List.mem_of_getElem? (i := 794) (by decide +kernel)⟩
theorem lw_p46 : lw_okq (⟨"PurityEffects$Likeness", "endedAlike", "(II)Z"⟩, 10) := ⟨⟨by decide +kernel, by decide +kernel⟩, List.mem_of_getElem? (i := 281) (by decide +kernel), List.mem_of_getElem? (i := 799) (by decide +kernel), List.mem_of_getElem? (i := 800) (by decide +kernel)⟩
theorem lw_p47 : lw_okq (⟨"PurityEffects$Likeness", "metAlike", "()Z"⟩, 10) := ⟨⟨by decide +kernel, by decide +kernel⟩, List.mem_of_getElem? (i := 281) (by decide +kernel), List.mem_of_getElem? (i := 803) (by decide +kernel), List.mem_of_getElem? (i := 804) (by decide +kernel)⟩
def lw_privs_3 : List (MethodName × Nat) := [(⟨"PurityEffects$Machine", "doStatic", "(II)I"⟩, 13), (⟨"PurityEffects$Machine", "doSize", "(I)I"⟩, 13), (⟨"PurityEffects$Machine", "doCall", "(I)I"⟩, 13), (⟨"PurityEffects$Machine", "doPrint", "(I)I"⟩, 13), (⟨"PurityEffects$Machine", "holds", "(II)Z"⟩, 13), (⟨"PurityEffects$Machine", "goOnAt", "(I)I"⟩, 13), (⟨"PurityEffects$Machine", "doCheckOrEnd", "(II)I"⟩, 13), (⟨"PurityEffects$Machine", "comeToCatch", "(I)I"⟩, 13), (⟨"PurityEffects$Machine", "holdAgainst", "(I)V"⟩, 13), (⟨"PurityEffects", "tryOne", "(II[I)Z"⟩, 11), (⟨"PurityEffects$Likeness", "printedAlike", "()Z"⟩, 10), (⟨"PurityEffects$Likeness", "staticsAlike", "()Z"⟩, 10), (⟨"PurityEffects$Likeness", "valuesAlike", "(ZII)Z"⟩, 10), (⟨"PurityEffects$Likeness", "heldAlike", "(II)Z"⟩, 10), (⟨"PurityEffects$Likeness", "endedAlike", "(II)Z"⟩, 10), (⟨"PurityEffects$Likeness", "metAlike", "()Z"⟩, 10)]
theorem lw_r3 : ∀ q ∈ lw_privs_3, lw_okq q := List.forall_mem_cons.mpr ⟨lw_p32, List.forall_mem_cons.mpr ⟨lw_p33, List.forall_mem_cons.mpr ⟨lw_p34, List.forall_mem_cons.mpr ⟨lw_p35, List.forall_mem_cons.mpr ⟨lw_p36, List.forall_mem_cons.mpr ⟨lw_p37, List.forall_mem_cons.mpr ⟨lw_p38, List.forall_mem_cons.mpr ⟨lw_p39, List.forall_mem_cons.mpr ⟨lw_p40, List.forall_mem_cons.mpr ⟨lw_p41, List.forall_mem_cons.mpr ⟨lw_p42, List.forall_mem_cons.mpr ⟨lw_p43, List.forall_mem_cons.mpr ⟨lw_p44, List.forall_mem_cons.mpr ⟨lw_p45, List.forall_mem_cons.mpr ⟨lw_p46, List.forall_mem_cons.mpr ⟨lw_p47, fun _ h => absurd h List.not_mem_nil⟩⟩⟩⟩⟩⟩⟩⟩⟩⟩⟩⟩⟩⟩⟩⟩
theorem lw_p48 : lw_okq (⟨"PurityEffectsModel", "isBelow", "(II)Z"⟩, 71) := ⟨⟨by decide +kernel, by decide +kernel⟩, List.mem_of_getElem? (i := 815) (by decide +kernel), List.mem_of_getElem? (i := 1046) (by decide +kernel), List.mem_of_getElem? (i := 1047) (by decide +kernel)⟩
theorem lw_p49 : lw_okq (⟨"PurityEffectsModel", "fits", "(IIIII)Z"⟩, 71) := ⟨⟨by decide +kernel, by decide +kernel⟩, List.mem_of_getElem? (i := 815) (by decide +kernel), List.mem_of_getElem? (i := 1065) (by decide +kernel), List.mem_of_getElem? (i := 1066) (by decide +kernel)⟩
theorem lw_p50 : lw_okq (⟨"PurityEffectsModel", "aField", "(IZ)Z"⟩, 71) := ⟨⟨by decide +kernel, by decide +kernel⟩, List.mem_of_getElem? (i := 815) (by decide +kernel), List.mem_of_getElem? (i := 1073) (by decide +kernel), List.mem_of_getElem? (i := 1074) (by decide +kernel)⟩
theorem lw_p51 : lw_okq (⟨"PurityEffectsModel", "aStatic", "(IZ)Z"⟩, 71) := ⟨⟨by decide +kernel, by decide +kernel⟩, List.mem_of_getElem? (i := 815) (by decide +kernel), List.mem_of_getElem? (i := 1077) (by decide +kernel), List.mem_of_getElem? (i := 1078) (by decide +kernel)⟩
theorem lw_p52 : lw_okq (⟨"PurityEffectsModel", "clearThing", "(I)V"⟩, 71) := ⟨⟨by decide +kernel, by decide +kernel⟩, List.mem_of_getElem? (i := 815) (by decide +kernel), List.mem_of_getElem? (i := 1091) (by decide +kernel), List.mem_of_getElem? (i := 1092) (by decide +kernel)⟩
theorem lw_p53 : lw_okq (⟨"PurityEffectsModel", "noThing", "(I)Z"⟩, 71) := ⟨⟨by decide +kernel, by decide +kernel⟩, List.mem_of_getElem? (i := 815) (by decide +kernel), List.mem_of_getElem? (i := 1104) (by decide +kernel), List.mem_of_getElem? (i := 1105) (by decide +kernel)⟩
theorem lw_p54 : lw_okq (⟨"PurityEffectsModel", "hasIt", "(II)Z"⟩, 71) := ⟨⟨by decide +kernel, by decide +kernel⟩, List.mem_of_getElem? (i := 815) (by decide +kernel), List.mem_of_getElem? (i := 1108) (by decide +kernel), List.mem_of_getElem? (i := 1109) (by decide +kernel)⟩
theorem lw_p55 : lw_okq (⟨"PurityEffectsModel", "comes", "(II)V"⟩, 71) := ⟨⟨by decide +kernel, by decide +kernel⟩, List.mem_of_getElem? (i := 815) (by decide +kernel), List.mem_of_getElem? (i := 1136) (by decide +kernel), List.mem_of_getElem? (i := 1137) (by decide +kernel)⟩
theorem lw_p56 : lw_okq (⟨"PurityEffectsModel", "goThrough", "(II)V"⟩, 71) := ⟨⟨by decide +kernel, by decide +kernel⟩, List.mem_of_getElem? (i := 815) (by decide +kernel), List.mem_of_getElem? (i := 1140) (by decide +kernel), List.mem_of_getElem? (i := 1141) (by decide +kernel)⟩
theorem lw_p57 : lw_okq (⟨"PurityEffectsModel", "faults", "(III)V"⟩, 71) := ⟨⟨by decide +kernel, by decide +kernel⟩, List.mem_of_getElem? (i := 815) (by decide +kernel), List.mem_of_getElem? (i := 1144) (by decide +kernel), List.mem_of_getElem? (i := 1145) (by decide +kernel)⟩
theorem lw_p58 : lw_okq (⟨"PurityEffectsModel", "catchOf", "(III)I"⟩, 71) := ⟨⟨by decide +kernel, by decide +kernel⟩, List.mem_of_getElem? (i := 815) (by decide +kernel), List.mem_of_getElem? (i := 1148) (by decide +kernel), List.mem_of_getElem? (i := 1149) (by decide +kernel)⟩
theorem lw_p59 : lw_okq (⟨"PurityEffectsModel", "touches", "(IZII)V"⟩, 71) := ⟨⟨by decide +kernel, by decide +kernel⟩, List.mem_of_getElem? (i := 815) (by decide +kernel), List.mem_of_getElem? (i := 1153) (by decide +kernel), List.mem_of_getElem? (i := 1154) (by decide +kernel)⟩
theorem lw_p60 : lw_okq (⟨"PurityEffectsModel", "calls", "(IIIII)V"⟩, 71) := ⟨⟨by decide +kernel, by decide +kernel⟩, List.mem_of_getElem? (i := 815) (by decide +kernel), List.mem_of_getElem? (i := 1157) (by decide +kernel), List.mem_of_getElem? (i := 1158) (by decide +kernel)⟩
theorem lw_p61 : lw_okq (⟨"PurityEffectsModel", "printsMay", "(I)V"⟩, 71) := ⟨⟨by decide +kernel, by decide +kernel⟩, List.mem_of_getElem? (i := 815) (by decide +kernel), List.mem_of_getElem? (i := 1161) (by decide +kernel), List.mem_of_getElem? (i := 1162) (by decide +kernel)⟩
theorem lw_p62 : lw_okq (⟨"PurityEffectsModel", "seen", "(III)I"⟩, 71) := ⟨⟨by decide +kernel, by decide +kernel⟩, List.mem_of_getElem? (i := 815) (by decide +kernel), List.mem_of_getElem? (i := 1165) (by decide +kernel), List.mem_of_getElem? (i := 1166) (by decide +kernel)⟩
theorem lw_p63 : lw_okq (⟨"PurityEffectsModel", "splits", "(IIII)Z"⟩, 71) := ⟨⟨by decide +kernel, by decide +kernel⟩, List.mem_of_getElem? (i := 815) (by decide +kernel), List.mem_of_getElem? (i := 1169) (by decide +kernel), List.mem_of_getElem? (i := 1170) (by decide +kernel)⟩
def lw_privs_4 : List (MethodName × Nat) := [(⟨"PurityEffectsModel", "isBelow", "(II)Z"⟩, 71), (⟨"PurityEffectsModel", "fits", "(IIIII)Z"⟩, 71), (⟨"PurityEffectsModel", "aField", "(IZ)Z"⟩, 71), (⟨"PurityEffectsModel", "aStatic", "(IZ)Z"⟩, 71), (⟨"PurityEffectsModel", "clearThing", "(I)V"⟩, 71), (⟨"PurityEffectsModel", "noThing", "(I)Z"⟩, 71), (⟨"PurityEffectsModel", "hasIt", "(II)Z"⟩, 71), (⟨"PurityEffectsModel", "comes", "(II)V"⟩, 71), (⟨"PurityEffectsModel", "goThrough", "(II)V"⟩, 71), (⟨"PurityEffectsModel", "faults", "(III)V"⟩, 71), (⟨"PurityEffectsModel", "catchOf", "(III)I"⟩, 71), (⟨"PurityEffectsModel", "touches", "(IZII)V"⟩, 71), (⟨"PurityEffectsModel", "calls", "(IIIII)V"⟩, 71), (⟨"PurityEffectsModel", "printsMay", "(I)V"⟩, 71), (⟨"PurityEffectsModel", "seen", "(III)I"⟩, 71), (⟨"PurityEffectsModel", "splits", "(IIII)Z"⟩, 71)]
theorem lw_r4 : ∀ q ∈ lw_privs_4, lw_okq q := List.forall_mem_cons.mpr ⟨lw_p48, List.forall_mem_cons.mpr ⟨lw_p49, List.forall_mem_cons.mpr ⟨lw_p50, List.forall_mem_cons.mpr ⟨lw_p51, List.forall_mem_cons.mpr ⟨lw_p52, List.forall_mem_cons.mpr ⟨lw_p53, List.forall_mem_cons.mpr ⟨lw_p54, List.forall_mem_cons.mpr ⟨lw_p55, List.forall_mem_cons.mpr ⟨lw_p56, List.forall_mem_cons.mpr ⟨lw_p57, List.forall_mem_cons.mpr ⟨lw_p58, List.forall_mem_cons.mpr ⟨lw_p59, List.forall_mem_cons.mpr ⟨lw_p60, List.forall_mem_cons.mpr ⟨lw_p61, List.forall_mem_cons.mpr ⟨lw_p62, List.forall_mem_cons.mpr ⟨lw_p63, fun _ h => absurd h List.not_mem_nil⟩⟩⟩⟩⟩⟩⟩⟩⟩⟩⟩⟩⟩⟩⟩⟩
theorem lw_p64 : lw_okq (⟨"PurityEffectsModel", "endsWith", "(II)V"⟩, 71) := ⟨⟨by decide +kernel, by decide +kernel⟩, List.mem_of_getElem? (i := 815) (by decide +kernel), List.mem_of_getElem? (i := 1173) (by decide +kernel), List.mem_of_getElem? (i := 1174) (by decide +kernel)⟩
theorem lw_p65 : lw_okq (⟨"PurityEffectsModel", "isPure", "(I)Z"⟩, 71) := ⟨⟨by decide +kernel, by decide +kernel⟩, List.mem_of_getElem? (i := 815) (by decide +kernel), List.mem_of_getElem? (i := 1177) (by decide +kernel), List.mem_of_getElem? (i := 1178) (by decide +kernel)⟩
theorem lw_p66 : lw_okq (⟨"PurityEffectsModel", "all", "(IZ)I"⟩, 71) := ⟨⟨by decide +kernel, by decide +kernel⟩, List.mem_of_getElem? (i := 815) (by decide +kernel), List.mem_of_getElem? (i := 1181) (by decide +kernel), List.mem_of_getElem? (i := 1182) (by decide +kernel)⟩
theorem lw_p67 : lw_okq (⟨"PurityEffectsModel", "noMethod", "(I)Z"⟩, 71) := ⟨⟨by decide +kernel, by decide +kernel⟩, List.mem_of_getElem? (i := 815) (by decide +kernel), List.mem_of_getElem? (i := 1189) (by decide +kernel), List.mem_of_getElem? (i := 1190) (by decide +kernel)⟩
theorem lw_p68 : lw_okq (⟨"PurityEffectsModel", "save", "([I)V"⟩, 71) := ⟨⟨by decide +kernel, by decide +kernel⟩, List.mem_of_getElem? (i := 815) (by decide +kernel), List.mem_of_getElem? (i := 1209) (by decide +kernel), List.mem_of_getElem? (i := 1210) (by decide +kernel)⟩
theorem lw_p69 : lw_okq (⟨"PurityEffectsModel", "goes", "(II)Z"⟩, 71) := ⟨⟨by decide +kernel, by decide +kernel⟩, List.mem_of_getElem? (i := 815) (by decide +kernel), List.mem_of_getElem? (i := 1213) (by decide +kernel), List.mem_of_getElem? (i := 1214) (by decide +kernel)⟩
theorem lw_p70 : lw_okq (⟨"PurityEffectsModel", "open", "(I)Z"⟩, 71) := ⟨⟨by decide +kernel, by decide +kernel⟩, List.mem_of_getElem? (i := 815) (by decide +kernel), List.mem_of_getElem? (i := 1217) (by decide +kernel), List.mem_of_getElem? (i := 1218) (by decide +kernel)⟩
theorem lw_p71 : lw_okq (⟨"PurityEffectsModel", "step", "()V"⟩, 71) := ⟨⟨by decide +kernel, by decide +kernel⟩, List.mem_of_getElem? (i := 815) (by decide +kernel), List.mem_of_getElem? (i := 1221) (by decide +kernel), List.mem_of_getElem? (i := 1222) (by decide +kernel)⟩
theorem lw_p72 : lw_okq (⟨"PurityEffectsModel", "close", "(I)V"⟩, 71) := ⟨⟨by decide +kernel, by decide +kernel⟩, List.mem_of_getElem? (i := 815) (by decide +kernel), List.mem_of_getElem? (i := 1225) (by decide +kernel), List.mem_of_getElem? (i := 1226) (by decide +kernel)⟩
theorem lw_p73 : lw_okq (⟨"PurityEffectsModel", "access", "(II)V"⟩, 71) := ⟨⟨by decide +kernel, by decide +kernel⟩, List.mem_of_getElem? (i := 815) (by decide +kernel), List.mem_of_getElem? (i := 1229) (by decide +kernel), List.mem_of_getElem? (i := 1230) (by decide +kernel)⟩
theorem lw_p74 : lw_okq (⟨"PurityEffectsModel", "meets", "(IIII)I"⟩, 71) := ⟨⟨by decide +kernel, by decide +kernel⟩, List.mem_of_getElem? (i := 815) (by decide +kernel), List.mem_of_getElem? (i := 1233) (by decide +kernel), List.mem_of_getElem? (i := 1234) (by decide +kernel)⟩
theorem lw_p75 : lw_okq (⟨"PurityEffectsModel", "thrown", "(I)V"⟩, 71) := ⟨⟨by decide +kernel, by decide +kernel⟩, List.mem_of_getElem? (i := 815) (by decide +kernel), List.mem_of_getElem? (i := 1237) (by decide +kernel), List.mem_of_getElem? (i := 1238) (by decide +kernel)⟩
theorem lw_p76 : lw_okq (⟨"PurityEffectsModel", "reads", "(II)V"⟩, 71) := ⟨⟨by decide +kernel, by decide +kernel⟩, List.mem_of_getElem? (i := 815) (by decide +kernel), List.mem_of_getElem? (i := 1241) (by decide +kernel), List.mem_of_getElem? (i := 1242) (by decide +kernel)⟩
theorem lw_p77 : lw_okq (⟨"PurityEffectsModel", "wrote", "(II)V"⟩, 71) := ⟨⟨by decide +kernel, by decide +kernel⟩, List.mem_of_getElem? (i := 815) (by decide +kernel), List.mem_of_getElem? (i := 1245) (by decide +kernel), List.mem_of_getElem? (i := 1246) (by decide +kernel)⟩
theorem lw_p78 : lw_okq (⟨"PurityEffectsModel", "work", "(II)V"⟩, 71) := ⟨⟨by decide +kernel, by decide +kernel⟩, List.mem_of_getElem? (i := 815) (by decide +kernel), List.mem_of_getElem? (i := 1249) (by decide +kernel), List.mem_of_getElem? (i := 1250) (by decide +kernel)⟩
theorem lw_p79 : lw_okq (⟨"PurityEffectsModel", "made", "(II)I"⟩, 71) := ⟨⟨by decide +kernel, by decide +kernel⟩, List.mem_of_getElem? (i := 815) (by decide +kernel), List.mem_of_getElem? (i := 1256) (by decide +kernel), List.mem_of_getElem? (i := 1257) (by decide +kernel)⟩
def lw_privs_5 : List (MethodName × Nat) := [(⟨"PurityEffectsModel", "endsWith", "(II)V"⟩, 71), (⟨"PurityEffectsModel", "isPure", "(I)Z"⟩, 71), (⟨"PurityEffectsModel", "all", "(IZ)I"⟩, 71), (⟨"PurityEffectsModel", "noMethod", "(I)Z"⟩, 71), (⟨"PurityEffectsModel", "save", "([I)V"⟩, 71), (⟨"PurityEffectsModel", "goes", "(II)Z"⟩, 71), (⟨"PurityEffectsModel", "open", "(I)Z"⟩, 71), (⟨"PurityEffectsModel", "step", "()V"⟩, 71), (⟨"PurityEffectsModel", "close", "(I)V"⟩, 71), (⟨"PurityEffectsModel", "access", "(II)V"⟩, 71), (⟨"PurityEffectsModel", "meets", "(IIII)I"⟩, 71), (⟨"PurityEffectsModel", "thrown", "(I)V"⟩, 71), (⟨"PurityEffectsModel", "reads", "(II)V"⟩, 71), (⟨"PurityEffectsModel", "wrote", "(II)V"⟩, 71), (⟨"PurityEffectsModel", "work", "(II)V"⟩, 71), (⟨"PurityEffectsModel", "made", "(II)I"⟩, 71)]
theorem lw_r5 : ∀ q ∈ lw_privs_5, lw_okq q := List.forall_mem_cons.mpr ⟨lw_p64, List.forall_mem_cons.mpr ⟨lw_p65, List.forall_mem_cons.mpr ⟨lw_p66, List.forall_mem_cons.mpr ⟨lw_p67, List.forall_mem_cons.mpr ⟨lw_p68, List.forall_mem_cons.mpr ⟨lw_p69, List.forall_mem_cons.mpr ⟨lw_p70, List.forall_mem_cons.mpr ⟨lw_p71, List.forall_mem_cons.mpr ⟨lw_p72, List.forall_mem_cons.mpr ⟨lw_p73, List.forall_mem_cons.mpr ⟨lw_p74, List.forall_mem_cons.mpr ⟨lw_p75, List.forall_mem_cons.mpr ⟨lw_p76, List.forall_mem_cons.mpr ⟨lw_p77, List.forall_mem_cons.mpr ⟨lw_p78, List.forall_mem_cons.mpr ⟨lw_p79, fun _ h => absurd h List.not_mem_nil⟩⟩⟩⟩⟩⟩⟩⟩⟩⟩⟩⟩⟩⟩⟩⟩
theorem lw_p80 : lw_okq (⟨"PurityEffectsModel", "row", "(III)V"⟩, 71) := ⟨⟨by decide +kernel, by decide +kernel⟩, List.mem_of_getElem? (i := 815) (by decide +kernel), List.mem_of_getElem? (i := 1260) (by decide +kernel), List.mem_of_getElem? (i := 1261) (by decide +kernel)⟩
theorem lw_p81 : lw_okq (⟨"PurityEffectsModel", "call", "(II)V"⟩, 71) := ⟨⟨by decide +kernel, by decide +kernel⟩, List.mem_of_getElem? (i := 815) (by decide +kernel), List.mem_of_getElem? (i := 1264) (by decide +kernel), List.mem_of_getElem? (i := 1265) (by decide +kernel)⟩
theorem lw_p82 : lw_okq (⟨"PurityEffectsModel", "print", "(I)V"⟩, 71) := ⟨⟨by decide +kernel, by decide +kernel⟩, List.mem_of_getElem? (i := 815) (by decide +kernel), List.mem_of_getElem? (i := 1268) (by decide +kernel), List.mem_of_getElem? (i := 1269) (by decide +kernel)⟩
theorem lw_p83 : lw_okq (⟨"PurityEffectsModel", "jump", "(II)V"⟩, 71) := ⟨⟨by decide +kernel, by decide +kernel⟩, List.mem_of_getElem? (i := 815) (by decide +kernel), List.mem_of_getElem? (i := 1272) (by decide +kernel), List.mem_of_getElem? (i := 1273) (by decide +kernel)⟩
theorem lw_p84 : lw_okq (⟨"PurityEffectsModel", "isObject", "(II)Z"⟩, 71) := ⟨⟨by decide +kernel, by decide +kernel⟩, List.mem_of_getElem? (i := 815) (by decide +kernel), List.mem_of_getElem? (i := 1276) (by decide +kernel), List.mem_of_getElem? (i := 1277) (by decide +kernel)⟩
theorem lw_p85 : lw_okq (⟨"PurityEffectsModel", "restore", "([I)V"⟩, 71) := ⟨⟨by decide +kernel, by decide +kernel⟩, List.mem_of_getElem? (i := 815) (by decide +kernel), List.mem_of_getElem? (i := 1280) (by decide +kernel), List.mem_of_getElem? (i := 1281) (by decide +kernel)⟩
theorem lw_p86 : lw_okq (⟨"PurityEffectsModel", "isForeseen", "(I)Z"⟩, 71) := ⟨⟨by decide +kernel, by decide +kernel⟩, List.mem_of_getElem? (i := 815) (by decide +kernel), List.mem_of_getElem? (i := 1284) (by decide +kernel), List.mem_of_getElem? (i := 1285) (by decide +kernel)⟩
theorem lw_p87 : lw_okq (⟨"PurityEffectsModel", "runsTwo", "(IIIIII)Z"⟩, 71) := ⟨⟨by decide +kernel, by decide +kernel⟩, List.mem_of_getElem? (i := 815) (by decide +kernel), List.mem_of_getElem? (i := 1301) (by decide +kernel), List.mem_of_getElem? (i := 1302) (by decide +kernel)⟩
theorem lw_p88 : lw_okq (⟨"PurityEffectsModel", "likeEnds", "(III)Z"⟩, 71) := ⟨⟨by decide +kernel, by decide +kernel⟩, List.mem_of_getElem? (i := 815) (by decide +kernel), List.mem_of_getElem? (i := 1305) (by decide +kernel), List.mem_of_getElem? (i := 1306) (by decide +kernel)⟩
theorem lw_p89 : lw_okq (⟨"PurityEffectsModel", "likeRefs", "(III)Z"⟩, 71) := ⟨⟨by decide +kernel, by decide +kernel⟩, List.mem_of_getElem? (i := 815) (by decide +kernel), List.mem_of_getElem? (i := 1309) (by decide +kernel), List.mem_of_getElem? (i := 1310) (by decide +kernel)⟩
theorem lw_p90 : lw_okq (⟨"PurityEffectsModel", "likeThings", "(III)Z"⟩, 71) := ⟨⟨by decide +kernel, by decide +kernel⟩, List.mem_of_getElem? (i := 815) (by decide +kernel), List.mem_of_getElem? (i := 1313) (by decide +kernel), List.mem_of_getElem? (i := 1314) (by decide +kernel)⟩
def lw_privs_6 : List (MethodName × Nat) := [(⟨"PurityEffectsModel", "row", "(III)V"⟩, 71), (⟨"PurityEffectsModel", "call", "(II)V"⟩, 71), (⟨"PurityEffectsModel", "print", "(I)V"⟩, 71), (⟨"PurityEffectsModel", "jump", "(II)V"⟩, 71), (⟨"PurityEffectsModel", "isObject", "(II)Z"⟩, 71), (⟨"PurityEffectsModel", "restore", "([I)V"⟩, 71), (⟨"PurityEffectsModel", "isForeseen", "(I)Z"⟩, 71), (⟨"PurityEffectsModel", "runsTwo", "(IIIIII)Z"⟩, 71), (⟨"PurityEffectsModel", "likeEnds", "(III)Z"⟩, 71), (⟨"PurityEffectsModel", "likeRefs", "(III)Z"⟩, 71), (⟨"PurityEffectsModel", "likeThings", "(III)Z"⟩, 71)]
theorem lw_r6 : ∀ q ∈ lw_privs_6, lw_okq q := List.forall_mem_cons.mpr ⟨lw_p80, List.forall_mem_cons.mpr ⟨lw_p81, List.forall_mem_cons.mpr ⟨lw_p82, List.forall_mem_cons.mpr ⟨lw_p83, List.forall_mem_cons.mpr ⟨lw_p84, List.forall_mem_cons.mpr ⟨lw_p85, List.forall_mem_cons.mpr ⟨lw_p86, List.forall_mem_cons.mpr ⟨lw_p87, List.forall_mem_cons.mpr ⟨lw_p88, List.forall_mem_cons.mpr ⟨lw_p89, List.forall_mem_cons.mpr ⟨lw_p90, fun _ h => absurd h List.not_mem_nil⟩⟩⟩⟩⟩⟩⟩⟩⟩⟩⟩
def lw_privs : List (MethodName × Nat) := lw_privs_1 ++ (lw_privs_2 ++ (lw_privs_3 ++ (lw_privs_4 ++ (lw_privs_5 ++ (lw_privs_6)))))
def lw_tbl : List Cond := k2_sels lw_privs ++ tables_1
theorem lw_privs_ok : ∀ q ∈ lw_privs, lw_okq q := by
  show ∀ q ∈ lw_privs_1 ++ (lw_privs_2 ++ (lw_privs_3 ++ (lw_privs_4 ++ (lw_privs_5 ++ (lw_privs_6))))), lw_okq q
  exact List.forall_mem_append.mpr ⟨lw_r1, List.forall_mem_append.mpr ⟨lw_r2, List.forall_mem_append.mpr ⟨lw_r3, List.forall_mem_append.mpr ⟨lw_r4, List.forall_mem_append.mpr ⟨lw_r5, lw_r6⟩⟩⟩⟩⟩
def RX0 : String := "PurityEffects$Deeds"
def TX0 : u_T := fun k => match k with
  | 0 => ("PurityEffects$Deeds", "reads", "I", false)
  | 1 => ("PurityEffects$Deeds", "writes", "I", false)
  | 2 => ("PurityEffects$Deeds", "prints", "I", false)
  | 3 => ("PurityEffects$Deeds", "lines", "I", false)
  | 4 => ("PurityEffects$Deeds", "made", "I", false)
  | 5 => ("PurityEffects$Deeds", "result", "I", false)
  | 6 => ("PurityEffects$Deeds", "fault", "I", false)
  | _ => ("PurityEffects$Deeds", "surprising", "Z", false)
def tyX0 : Nat → FieldType := fun k => match k with
  | 0 => .int
  | 1 => .int
  | 2 => .int
  | 3 => .int
  | 4 => .int
  | 5 => .int
  | 6 => .int
  | _ => .boolean
abbrev wsX00 : List Cond := u_ws RX0 TX0 8
theorem nmX0 : ∀ a, a < 8 → ∀ b, b < 8 → a ≠ b → (TX0 a).2.1 ≠ (TX0 b).2.1 := by decide +kernel
theorem tyX0_ok : ∀ k, k < 8 → parseFieldDescriptor (TX0 k).2.2.1 = some (tyX0 k) := by decide +kernel
abbrev cX0_init : ByteArray := prog_2_method_1_code
def yX0_init : MethodName := ⟨RX0, "<init>", "()V"⟩
abbrev cX0_clear : ByteArray := prog_2_method_2_code
def yX0_clear : MethodName := ⟨RX0, "clear", "()V"⟩
abbrev cX0_copyFrom : ByteArray := prog_2_method_3_code
def yX0_copyFrom : MethodName := ⟨RX0, "copyFrom", "(LPurityEffects$Deeds;)V"⟩
abbrev cX0_tell : ByteArray := prog_2_method_4_code
def yX0_tell : MethodName := ⟨RX0, "tell", "(I)I"⟩
def RX1 : String := "PurityEffects$Foresight"
def TX1 : u_T := fun k => match k with
  | 0 => ("PurityEffects$Foresight", "program", "LPurityEffects$Program;", true)
  | 1 => ("PurityEffects$Foresight", "before", "[J", true)
  | 2 => ("PurityEffects$Foresight", "reads", "[I", true)
  | 3 => ("PurityEffects$Foresight", "writes", "[I", true)
  | 4 => ("PurityEffects$Foresight", "faults", "[I", true)
  | 5 => ("PurityEffects$Foresight", "results", "[I", true)
  | 6 => ("PurityEffects$Foresight", "prints", "[Z", true)
  | 7 => ("PurityEffects$Foresight", "ends", "[Z", true)
  | _ => ("PurityEffects$Foresight", "changed", "Z", false)
def tyX1 : Nat → FieldType := fun k => match k with
  | 0 => .object "PurityEffects$Program"
  | 1 => .array .long
  | 2 => .array .int
  | 3 => .array .int
  | 4 => .array .int
  | 5 => .array .int
  | 6 => .array .boolean
  | 7 => .array .boolean
  | _ => .boolean
abbrev wsX10 : List Cond := u_ws RX1 TX1 9
theorem nmX1 : ∀ a, a < 9 → ∀ b, b < 9 → a ≠ b → (TX1 a).2.1 ≠ (TX1 b).2.1 := by decide +kernel
theorem tyX1_ok : ∀ k, k < 9 → parseFieldDescriptor (TX1 k).2.2.1 = some (tyX1 k) := by decide +kernel
abbrev cX1_init : ByteArray := prog_3_method_1_code
def yX1_init : MethodName := ⟨RX1, "<init>", "(LPurityEffects$Program;)V"⟩
abbrev cX1_mayOf : ByteArray := prog_3_method_2_code
def yX1_mayOf : MethodName := ⟨RX1, "mayOf", "(JI)I"⟩
abbrev cX1_with : ByteArray := prog_3_method_3_code
def yX1_with : MethodName := ⟨RX1, "with", "(JII)J"⟩
abbrev cX1_isPure : ByteArray := prog_3_method_4_code
def yX1_isPure : MethodName := ⟨RX1, "isPure", "(I)Z"⟩
abbrev cX1_isOrderFree : ByteArray := prog_3_method_5_code
def yX1_isOrderFree : MethodName := ⟨RX1, "isOrderFree", "(II)Z"⟩
abbrev cX1_tell : ByteArray := prog_3_method_6_code
def yX1_tell : MethodName := ⟨RX1, "tell", "(II)I"⟩
abbrev cX1_isRepeatable : ByteArray := prog_3_method_7_code
def yX1_isRepeatable : MethodName := ⟨RX1, "isRepeatable", "(I)Z"⟩
abbrev cX1_allWays : ByteArray := prog_3_method_8_code
def yX1_allWays : MethodName := ⟨RX1, "allWays", "([II)I"⟩
abbrev cX1_foresee : ByteArray := prog_3_method_9_code
def yX1_foresee : MethodName := ⟨RX1, "foresee", "()V"⟩
abbrev cX1_forget : ByteArray := prog_3_method_10_code
def yX1_forget : MethodName := ⟨RX1, "forget", "()V"⟩
abbrev cX1_beginning : ByteArray := prog_3_method_11_code
def yX1_beginning : MethodName := ⟨RX1, "beginning", "(I)J"⟩
abbrev cX1_reach : ByteArray := prog_3_method_12_code
def yX1_reach : MethodName := ⟨RX1, "reach", "(IIJ)V"⟩
abbrev cX1_end : ByteArray := prog_3_method_13_code
def yX1_end : MethodName := ⟨RX1, "end", "(II)V"⟩
abbrev cX1_add : ByteArray := prog_3_method_14_code
def yX1_add : MethodName := ⟨RX1, "add", "([III)V"⟩
abbrev cX1_mayPrint : ByteArray := prog_3_method_15_code
def yX1_mayPrint : MethodName := ⟨RX1, "mayPrint", "(I)V"⟩
abbrev cX1_mayThrow : ByteArray := prog_3_method_16_code
def yX1_mayThrow : MethodName := ⟨RX1, "mayThrow", "(III)V"⟩
abbrev cX1_mayTouch : ByteArray := prog_3_method_17_code
def yX1_mayTouch : MethodName := ⟨RX1, "mayTouch", "([IIII)V"⟩
abbrev cX1_weigh : ByteArray := prog_3_method_18_code
def yX1_weigh : MethodName := ⟨RX1, "weigh", "(II)V"⟩
abbrev cX1_weighPlain : ByteArray := prog_3_method_19_code
def yX1_weighPlain : MethodName := ⟨RX1, "weighPlain", "(IIJ)I"⟩
abbrev cX1_weighPart : ByteArray := prog_3_method_20_code
def yX1_weighPart : MethodName := ⟨RX1, "weighPart", "(IIJ)I"⟩
abbrev cX1_weighStatic : ByteArray := prog_3_method_21_code
def yX1_weighStatic : MethodName := ⟨RX1, "weighStatic", "(IIJ)V"⟩
abbrev cX1_weighCall : ByteArray := prog_3_method_22_code
def yX1_weighCall : MethodName := ⟨RX1, "weighCall", "(IIJ)I"⟩
abbrev cX1_resultThere : ByteArray := prog_3_method_23_code
def yX1_resultThere : MethodName := ⟨RX1, "resultThere", "(IIJ)I"⟩
abbrev cX1_weighBranch : ByteArray := prog_3_method_24_code
def yX1_weighBranch : MethodName := ⟨RX1, "weighBranch", "(IIJ)V"⟩
abbrev cX1_weighCheckOrEnd : ByteArray := prog_3_method_25_code
def yX1_weighCheckOrEnd : MethodName := ⟨RX1, "weighCheckOrEnd", "(IIJ)I"⟩
def RX2 : String := "PurityEffects$Likeness"
def TX2 : u_T := fun k => match k with
  | 0 => ("PurityEffects$Likeness", "program", "LPurityEffects$Program;", true)
  | 1 => ("PurityEffects$Likeness", "one", "LPurityEffects$World;", true)
  | 2 => ("PurityEffects$Likeness", "two", "LPurityEffects$World;", true)
  | 3 => ("PurityEffects$Likeness", "endsOne", "[I", true)
  | 4 => ("PurityEffects$Likeness", "endsTwo", "[I", true)
  | 5 => ("PurityEffects$Likeness", "inTwo", "[I", true)
  | 6 => ("PurityEffects$Likeness", "inOne", "[I", true)
  | 7 => ("PurityEffects$Likeness", "met", "[I", true)
  | 8 => ("PurityEffects$Likeness", "metCount", "I", false)
  | _ => ("PurityEffects$Likeness", "there", "I", false)
def tyX2 : Nat → FieldType := fun k => match k with
  | 0 => .object "PurityEffects$Program"
  | 1 => .object "PurityEffects$World"
  | 2 => .object "PurityEffects$World"
  | 3 => .array .int
  | 4 => .array .int
  | 5 => .array .int
  | 6 => .array .int
  | 7 => .array .int
  | 8 => .int
  | _ => .int
abbrev wsX20 : List Cond := u_ws RX2 TX2 10
theorem nmX2 : ∀ a, a < 10 → ∀ b, b < 10 → a ≠ b → (TX2 a).2.1 ≠ (TX2 b).2.1 := by decide +kernel
theorem tyX2_ok : ∀ k, k < 10 → parseFieldDescriptor (TX2 k).2.2.1 = some (tyX2 k) := by decide +kernel
abbrev cX2_init : ByteArray := prog_4_method_1_code
def yX2_init : MethodName := ⟨RX2, "<init>", "(LPurityEffects$Program;LPurityEffects$World;LPurityEffects$World;)V"⟩
abbrev cX2_areAlike : ByteArray := prog_4_method_2_code
def yX2_areAlike : MethodName := ⟨RX2, "areAlike", "(III)Z"⟩
abbrev cX2_printedAlike : ByteArray := prog_4_method_3_code
def yX2_printedAlike : MethodName := ⟨RX2, "printedAlike", "()Z"⟩
abbrev cX2_staticsAlike : ByteArray := prog_4_method_4_code
def yX2_staticsAlike : MethodName := ⟨RX2, "staticsAlike", "()Z"⟩
abbrev cX2_endedAlike : ByteArray := prog_4_method_5_code
def yX2_endedAlike : MethodName := ⟨RX2, "endedAlike", "(II)Z"⟩
abbrev cX2_metAlike : ByteArray := prog_4_method_6_code
def yX2_metAlike : MethodName := ⟨RX2, "metAlike", "()Z"⟩
abbrev cX2_heldAlike : ByteArray := prog_4_method_7_code
def yX2_heldAlike : MethodName := ⟨RX2, "heldAlike", "(II)Z"⟩
abbrev cX2_valuesAlike : ByteArray := prog_4_method_8_code
def yX2_valuesAlike : MethodName := ⟨RX2, "valuesAlike", "(ZII)Z"⟩
def RX3 : String := "PurityEffects$Machine"
def TX3 : u_T := fun k => match k with
  | 0 => ("PurityEffects$Machine", "program", "LPurityEffects$Program;", true)
  | 1 => ("PurityEffects$Machine", "world", "LPurityEffects$World;", true)
  | 2 => ("PurityEffects$Machine", "foresight", "LPurityEffects$Foresight;", true)
  | 3 => ("PurityEffects$Machine", "deeds", "LPurityEffects$Deeds;", true)
  | 4 => ("PurityEffects$Machine", "methodAt", "[I", true)
  | 5 => ("PurityEffects$Machine", "lineAt", "[I", true)
  | 6 => ("PurityEffects$Machine", "numbers", "[I", true)
  | 7 => ("PurityEffects$Machine", "refs", "[I", true)
  | 8 => ("PurityEffects$Machine", "depth", "I", false)
  | 9 => ("PurityEffects$Machine", "faultLines", "I", false)
  | 10 => ("PurityEffects$Machine", "there", "I", false)
  | 11 => ("PurityEffects$Machine", "watched", "Z", false)
  | _ => ("PurityEffects$Machine", "given", "[I", true)
def tyX3 : Nat → FieldType := fun k => match k with
  | 0 => .object "PurityEffects$Program"
  | 1 => .object "PurityEffects$World"
  | 2 => .object "PurityEffects$Foresight"
  | 3 => .object "PurityEffects$Deeds"
  | 4 => .array .int
  | 5 => .array .int
  | 6 => .array .int
  | 7 => .array .int
  | 8 => .int
  | 9 => .int
  | 10 => .int
  | 11 => .boolean
  | _ => .array .int
abbrev wsX30 : List Cond := u_ws RX3 TX3 13
theorem nmX3 : ∀ a, a < 13 → ∀ b, b < 13 → a ≠ b → (TX3 a).2.1 ≠ (TX3 b).2.1 := by decide +kernel
theorem tyX3_ok : ∀ k, k < 13 → parseFieldDescriptor (TX3 k).2.2.1 = some (tyX3 k) := by decide +kernel
abbrev cX3_init : ByteArray := prog_5_method_1_code
def yX3_init : MethodName := ⟨RX3, "<init>", "(LPurityEffects$Program;LPurityEffects$World;LPurityEffects$Foresight;)V"⟩
abbrev cX3_go : ByteArray := prog_5_method_2_code
def yX3_go : MethodName := ⟨RX3, "go", "(I[I[IIZ)I"⟩
abbrev cX3_holdAgainst : ByteArray := prog_5_method_3_code
def yX3_holdAgainst : MethodName := ⟨RX3, "holdAgainst", "(I)V"⟩
abbrev cX3_enter : ByteArray := prog_5_method_4_code
def yX3_enter : MethodName := ⟨RX3, "enter", "(I)V"⟩
abbrev cX3_leave : ByteArray := prog_5_method_5_code
def yX3_leave : MethodName := ⟨RX3, "leave", "(I)V"⟩
abbrev cX3_comeToCatch : ByteArray := prog_5_method_6_code
def yX3_comeToCatch : MethodName := ⟨RX3, "comeToCatch", "(I)I"⟩
abbrev cX3_locals : ByteArray := prog_5_method_7_code
def yX3_locals : MethodName := ⟨RX3, "locals", "()I"⟩
abbrev cX3_goOn : ByteArray := prog_5_method_8_code
def yX3_goOn : MethodName := ⟨RX3, "goOn", "()I"⟩
abbrev cX3_goOnAt : ByteArray := prog_5_method_9_code
def yX3_goOnAt : MethodName := ⟨RX3, "goOnAt", "(I)I"⟩
abbrev cX3_doNext : ByteArray := prog_5_method_10_code
def yX3_doNext : MethodName := ⟨RX3, "doNext", "()I"⟩
abbrev cX3_doNumbers : ByteArray := prog_5_method_11_code
def yX3_doNumbers : MethodName := ⟨RX3, "doNumbers", "(II)I"⟩
abbrev cX3_doReferences : ByteArray := prog_5_method_12_code
def yX3_doReferences : MethodName := ⟨RX3, "doReferences", "(II)I"⟩
abbrev cX3_doField : ByteArray := prog_5_method_13_code
def yX3_doField : MethodName := ⟨RX3, "doField", "(II)I"⟩
abbrev cX3_doItem : ByteArray := prog_5_method_14_code
def yX3_doItem : MethodName := ⟨RX3, "doItem", "(II)I"⟩
abbrev cX3_doStatic : ByteArray := prog_5_method_15_code
def yX3_doStatic : MethodName := ⟨RX3, "doStatic", "(II)I"⟩
abbrev cX3_doSize : ByteArray := prog_5_method_16_code
def yX3_doSize : MethodName := ⟨RX3, "doSize", "(I)I"⟩
abbrev cX3_doCall : ByteArray := prog_5_method_17_code
def yX3_doCall : MethodName := ⟨RX3, "doCall", "(I)I"⟩
abbrev cX3_doPrint : ByteArray := prog_5_method_18_code
def yX3_doPrint : MethodName := ⟨RX3, "doPrint", "(I)I"⟩
abbrev cX3_holds : ByteArray := prog_5_method_19_code
def yX3_holds : MethodName := ⟨RX3, "holds", "(II)Z"⟩
abbrev cX3_doCheckOrEnd : ByteArray := prog_5_method_20_code
def yX3_doCheckOrEnd : MethodName := ⟨RX3, "doCheckOrEnd", "(II)I"⟩
abbrev cX3_note : ByteArray := prog_5_method_21_code
def yX3_note : MethodName := ⟨RX3, "note", "(IIZ)V"⟩
abbrev cX3_foreseenOf : ByteArray := prog_5_method_22_code
def yX3_foreseenOf : MethodName := ⟨RX3, "foreseenOf", "(IZ)I"⟩
def RX4 : String := "PurityEffects$Program"
def TX4 : u_T := fun k => match k with
  | 0 => ("PurityEffects$Program", "classes", "I", false)
  | 1 => ("PurityEffects$Program", "fields", "I", false)
  | 2 => ("PurityEffects$Program", "statics", "I", false)
  | 3 => ("PurityEffects$Program", "methods", "I", false)
  | 4 => ("PurityEffects$Program", "upward", "[I", true)
  | 5 => ("PurityEffects$Program", "fieldsOf", "[I", true)
  | 6 => ("PurityEffects$Program", "fieldRefers", "[Z", true)
  | 7 => ("PurityEffects$Program", "staticRefers", "[Z", true)
  | 8 => ("PurityEffects$Program", "numberParams", "[I", true)
  | 9 => ("PurityEffects$Program", "thingParams", "[I", true)
  | 10 => ("PurityEffects$Program", "results", "[I", true)
  | 11 => ("PurityEffects$Program", "lineCounts", "[I", true)
  | 12 => ("PurityEffects$Program", "ops", "[I", true)
  | 13 => ("PurityEffects$Program", "as", "[I", true)
  | 14 => ("PurityEffects$Program", "bs", "[I", true)
  | 15 => ("PurityEffects$Program", "cs", "[I", true)
  | 16 => ("PurityEffects$Program", "catchCounts", "[I", true)
  | _ => ("PurityEffects$Program", "catches", "[I", true)
def tyX4 : Nat → FieldType := fun k => match k with
  | 0 => .int
  | 1 => .int
  | 2 => .int
  | 3 => .int
  | 4 => .array .int
  | 5 => .array .int
  | 6 => .array .boolean
  | 7 => .array .boolean
  | 8 => .array .int
  | 9 => .array .int
  | 10 => .array .int
  | 11 => .array .int
  | 12 => .array .int
  | 13 => .array .int
  | 14 => .array .int
  | 15 => .array .int
  | 16 => .array .int
  | _ => .array .int
abbrev wsX40 : List Cond := u_ws RX4 TX4 18
theorem nmX4 : ∀ a, a < 18 → ∀ b, b < 18 → a ≠ b → (TX4 a).2.1 ≠ (TX4 b).2.1 := by decide +kernel
theorem tyX4_ok : ∀ k, k < 18 → parseFieldDescriptor (TX4 k).2.2.1 = some (tyX4 k) := by decide +kernel
abbrev cX4_init : ByteArray := prog_6_method_1_code
def yX4_init : MethodName := ⟨RX4, "<init>", "()V"⟩
abbrev cX4_isClass : ByteArray := prog_6_method_2_code
def yX4_isClass : MethodName := ⟨RX4, "isClass", "(I)Z"⟩
abbrev cX4_isStatic : ByteArray := prog_6_method_3_code
def yX4_isStatic : MethodName := ⟨RX4, "isStatic", "(I)Z"⟩
abbrev cX4_isMethod : ByteArray := prog_6_method_4_code
def yX4_isMethod : MethodName := ⟨RX4, "isMethod", "(I)Z"⟩
abbrev cX4_isBelow : ByteArray := prog_6_method_5_code
def yX4_isBelow : MethodName := ⟨RX4, "isBelow", "(II)Z"⟩
abbrev cX4_addClass : ByteArray := prog_6_method_6_code
def yX4_addClass : MethodName := ⟨RX4, "addClass", "(I)I"⟩
abbrev cX4_addField : ByteArray := prog_6_method_7_code
def yX4_addField : MethodName := ⟨RX4, "addField", "(IZ)I"⟩
abbrev cX4_addStatic : ByteArray := prog_6_method_8_code
def yX4_addStatic : MethodName := ⟨RX4, "addStatic", "(Z)I"⟩
abbrev cX4_addMethod : ByteArray := prog_6_method_9_code
def yX4_addMethod : MethodName := ⟨RX4, "addMethod", "(III)I"⟩
abbrev cX4_addLine : ByteArray := prog_6_method_10_code
def yX4_addLine : MethodName := ⟨RX4, "addLine", "(IIIII)I"⟩
abbrev cX4_addCatch : ByteArray := prog_6_method_11_code
def yX4_addCatch : MethodName := ⟨RX4, "addCatch", "(IIIII)I"⟩
abbrev cX4_catchLine : ByteArray := prog_6_method_12_code
def yX4_catchLine : MethodName := ⟨RX4, "catchLine", "(III)I"⟩
abbrev cX4_fits : ByteArray := prog_6_method_13_code
def yX4_fits : MethodName := ⟨RX4, "fits", "(IIIII)Z"⟩
abbrev cX4_suits : ByteArray := prog_6_method_14_code
def yX4_suits : MethodName := ⟨RX4, "suits", "(III)Z"⟩
abbrev cX4_isLocal : ByteArray := prog_6_method_15_code
def yX4_isLocal : MethodName := ⟨RX4, "isLocal", "(I)Z"⟩
abbrev cX4_isFieldOf : ByteArray := prog_6_method_16_code
def yX4_isFieldOf : MethodName := ⟨RX4, "isFieldOf", "(IZ)Z"⟩
def RX5 : String := "PurityEffects$World"
def TX5 : u_T := fun k => match k with
  | 0 => ("PurityEffects$World", "things", "I", false)
  | 1 => ("PurityEffects$World", "printedInAll", "I", false)
  | 2 => ("PurityEffects$World", "kinds", "[I", true)
  | 3 => ("PurityEffects$World", "slots", "[I", true)
  | 4 => ("PurityEffects$World", "statics", "[I", true)
  | _ => ("PurityEffects$World", "kept", "[I", true)
def tyX5 : Nat → FieldType := fun k => match k with
  | 0 => .int
  | 1 => .int
  | 2 => .array .int
  | 3 => .array .int
  | 4 => .array .int
  | _ => .array .int
abbrev wsX50 : List Cond := u_ws RX5 TX5 6
theorem nmX5 : ∀ a, a < 6 → ∀ b, b < 6 → a ≠ b → (TX5 a).2.1 ≠ (TX5 b).2.1 := by decide +kernel
theorem tyX5_ok : ∀ k, k < 6 → parseFieldDescriptor (TX5 k).2.2.1 = some (tyX5 k) := by decide +kernel
abbrev cX5_init : ByteArray := prog_7_method_1_code
def yX5_init : MethodName := ⟨RX5, "<init>", "()V"⟩
abbrev cX5_copyFrom : ByteArray := prog_7_method_2_code
def yX5_copyFrom : MethodName := ⟨RX5, "copyFrom", "(LPurityEffects$World;)V"⟩
abbrev cX5_isThing : ByteArray := prog_7_method_3_code
def yX5_isThing : MethodName := ⟨RX5, "isThing", "(I)Z"⟩
abbrev cX5_isThingOrNull : ByteArray := prog_7_method_4_code
def yX5_isThingOrNull : MethodName := ⟨RX5, "isThingOrNull", "(I)Z"⟩
abbrev cX5_itemsOf : ByteArray := prog_7_method_5_code
def yX5_itemsOf : MethodName := ⟨RX5, "itemsOf", "(I)I"⟩
abbrev cX5_isArray : ByteArray := prog_7_method_6_code
def yX5_isArray : MethodName := ⟨RX5, "isArray", "(I)Z"⟩
abbrev cX5_isObjectBelow : ByteArray := prog_7_method_7_code
def yX5_isObjectBelow : MethodName := ⟨RX5, "isObjectBelow", "(LPurityEffects$Program;II)Z"⟩
abbrev cX5_hasField : ByteArray := prog_7_method_8_code
def yX5_hasField : MethodName := ⟨RX5, "hasField", "(LPurityEffects$Program;II)Z"⟩
abbrev cX5_hasObjectBelow : ByteArray := prog_7_method_9_code
def yX5_hasObjectBelow : MethodName := ⟨RX5, "hasObjectBelow", "(LPurityEffects$Program;I)Z"⟩
abbrev cX5_holds : ByteArray := prog_7_method_10_code
def yX5_holds : MethodName := ⟨RX5, "holds", "(LPurityEffects$Program;II)Z"⟩
abbrev cX5_refersAt : ByteArray := prog_7_method_11_code
def yX5_refersAt : MethodName := ⟨RX5, "refersAt", "(LPurityEffects$Program;II)Z"⟩
abbrev cX5_make : ByteArray := prog_7_method_12_code
def yX5_make : MethodName := ⟨RX5, "make", "(LPurityEffects$Program;I)I"⟩
abbrev cX5_print : ByteArray := prog_7_method_13_code
def yX5_print : MethodName := ⟨RX5, "print", "(I)V"⟩
def RX6 : String := "PurityEffects"
def TX6 : u_T := fun k => match k with
  | 0 => ("PurityEffects", "program", "LPurityEffects$Program;", true)
  | 1 => ("PurityEffects", "world", "LPurityEffects$World;", true)
  | 2 => ("PurityEffects", "before", "LPurityEffects$World;", true)
  | 3 => ("PurityEffects", "otherEnd", "LPurityEffects$World;", true)
  | 4 => ("PurityEffects", "foresight", "LPurityEffects$Foresight;", true)
  | 5 => ("PurityEffects", "machine", "LPurityEffects$Machine;", true)
  | 6 => ("PurityEffects", "likeness", "LPurityEffects$Likeness;", true)
  | 7 => ("PurityEffects", "latest", "LPurityEffects$Deeds;", true)
  | 8 => ("PurityEffects", "numberArgs", "[I", true)
  | 9 => ("PurityEffects", "thingArgs", "[I", true)
  | _ => ("PurityEffects", "analysed", "Z", false)
def tyX6 : Nat → FieldType := fun k => match k with
  | 0 => .object "PurityEffects$Program"
  | 1 => .object "PurityEffects$World"
  | 2 => .object "PurityEffects$World"
  | 3 => .object "PurityEffects$World"
  | 4 => .object "PurityEffects$Foresight"
  | 5 => .object "PurityEffects$Machine"
  | 6 => .object "PurityEffects$Likeness"
  | 7 => .object "PurityEffects$Deeds"
  | 8 => .array .int
  | 9 => .array .int
  | _ => .boolean
abbrev wsX60 : List Cond := u_ws RX6 TX6 11
theorem nmX6 : ∀ a, a < 11 → ∀ b, b < 11 → a ≠ b → (TX6 a).2.1 ≠ (TX6 b).2.1 := by decide +kernel
theorem tyX6_ok : ∀ k, k < 11 → parseFieldDescriptor (TX6 k).2.2.1 = some (tyX6 k) := by decide +kernel
abbrev cX6_init : ByteArray := prog_1_method_1_code
def yX6_init : MethodName := ⟨RX6, "<init>", "()V"⟩
abbrev cX6_type : ByteArray := prog_1_method_2_code
def yX6_type : MethodName := ⟨RX6, "type", "(I)I"⟩
abbrev cX6_field : ByteArray := prog_1_method_3_code
def yX6_field : MethodName := ⟨RX6, "field", "(IZ)I"⟩
abbrev cX6_shared : ByteArray := prog_1_method_4_code
def yX6_shared : MethodName := ⟨RX6, "shared", "(Z)I"⟩
abbrev cX6_method : ByteArray := prog_1_method_5_code
def yX6_method : MethodName := ⟨RX6, "method", "(III)I"⟩
abbrev cX6_line : ByteArray := prog_1_method_6_code
def yX6_line : MethodName := ⟨RX6, "line", "(IIIII)I"⟩
abbrev cX6_caught : ByteArray := prog_1_method_7_code
def yX6_caught : MethodName := ⟨RX6, "caught", "(IIIII)I"⟩
abbrev cX6_thing : ByteArray := prog_1_method_8_code
def yX6_thing : MethodName := ⟨RX6, "thing", "(I)I"⟩
abbrev cX6_array : ByteArray := prog_1_method_9_code
def yX6_array : MethodName := ⟨RX6, "array", "(I)I"⟩
abbrev cX6_put : ByteArray := prog_1_method_10_code
def yX6_put : MethodName := ⟨RX6, "put", "(III)I"⟩
abbrev cX6_set : ByteArray := prog_1_method_11_code
def yX6_set : MethodName := ⟨RX6, "set", "(II)I"⟩
abbrev cX6_get : ByteArray := prog_1_method_12_code
def yX6_get : MethodName := ⟨RX6, "get", "(II)I"⟩
abbrev cX6_stat : ByteArray := prog_1_method_13_code
def yX6_stat : MethodName := ⟨RX6, "stat", "(I)I"⟩
abbrev cX6_kind : ByteArray := prog_1_method_14_code
def yX6_kind : MethodName := ⟨RX6, "kind", "(I)I"⟩
abbrev cX6_arg : ByteArray := prog_1_method_15_code
def yX6_arg : MethodName := ⟨RX6, "arg", "(IZII)I"⟩
abbrev cX6_analyse : ByteArray := prog_1_method_16_code
def yX6_analyse : MethodName := ⟨RX6, "analyse", "()I"⟩
abbrev cX6_effects : ByteArray := prog_1_method_17_code
def yX6_effects : MethodName := ⟨RX6, "effects", "(II)I"⟩
abbrev cX6_by : ByteArray := prog_1_method_18_code
def yX6_by : MethodName := ⟨RX6, "by", "(IIZ)I"⟩
abbrev cX6_may : ByteArray := prog_1_method_19_code
def yX6_may : MethodName := ⟨RX6, "may", "(III)I"⟩
abbrev cX6_free : ByteArray := prog_1_method_20_code
def yX6_free : MethodName := ⟨RX6, "free", "(II)I"⟩
abbrev cX6_isAnalysed : ByteArray := prog_1_method_21_code
def yX6_isAnalysed : MethodName := ⟨RX6, "isAnalysed", "(I)Z"⟩
abbrev cX6_run : ByteArray := prog_1_method_22_code
def yX6_run : MethodName := ⟨RX6, "run", "(I)I"⟩
abbrev cX6_did : ByteArray := prog_1_method_23_code
def yX6_did : MethodName := ⟨RX6, "did", "(I)I"⟩
abbrev cX6_foreseen : ByteArray := prog_1_method_24_code
def yX6_foreseen : MethodName := ⟨RX6, "foreseen", "()I"⟩
abbrev cX6_both : ByteArray := prog_1_method_25_code
def yX6_both : MethodName := ⟨RX6, "both", "(II)I"⟩
abbrev cX6_tryOne : ByteArray := prog_1_method_26_code
def yX6_tryOne : MethodName := ⟨RX6, "tryOne", "(II[I)Z"⟩
abbrev cX6_printed : ByteArray := prog_1_method_27_code
def yX6_printed : MethodName := ⟨RX6, "printed", "(I)I"⟩
abbrev cX6_count : ByteArray := prog_1_method_28_code
def yX6_count : MethodName := ⟨RX6, "count", "(I)I"⟩
def RX7 : String := "PurityEffectsModel"
def TX7 : u_T := fun k => match k with
  | 0 => ("PurityEffectsModel", "types", "I", false)
  | 1 => ("PurityEffectsModel", "above", "[I", true)
  | 2 => ("PurityEffectsModel", "fields", "I", false)
  | 3 => ("PurityEffectsModel", "fieldType", "[I", true)
  | 4 => ("PurityEffectsModel", "isRef", "[Z", true)
  | 5 => ("PurityEffectsModel", "statics", "I", false)
  | 6 => ("PurityEffectsModel", "isRefStatic", "[Z", true)
  | 7 => ("PurityEffectsModel", "methods", "I", false)
  | 8 => ("PurityEffectsModel", "pOf", "[I", true)
  | 9 => ("PurityEffectsModel", "qOf", "[I", true)
  | 10 => ("PurityEffectsModel", "resultOf", "[I", true)
  | 11 => ("PurityEffectsModel", "lines", "[I", true)
  | 12 => ("PurityEffectsModel", "op", "[I", true)
  | 13 => ("PurityEffectsModel", "opA", "[I", true)
  | 14 => ("PurityEffectsModel", "opB", "[I", true)
  | 15 => ("PurityEffectsModel", "opC", "[I", true)
  | 16 => ("PurityEffectsModel", "catches", "[I", true)
  | 17 => ("PurityEffectsModel", "catchFrom", "[I", true)
  | 18 => ("PurityEffectsModel", "catchTo", "[I", true)
  | 19 => ("PurityEffectsModel", "catchFault", "[I", true)
  | 20 => ("PurityEffectsModel", "catchLine", "[I", true)
  | 21 => ("PurityEffectsModel", "isAnalysed", "Z", false)
  | 22 => ("PurityEffectsModel", "things", "I", false)
  | 23 => ("PurityEffectsModel", "kind", "[I", true)
  | 24 => ("PurityEffectsModel", "items", "[I", true)
  | 25 => ("PurityEffectsModel", "has", "[I", true)
  | 26 => ("PurityEffectsModel", "stat", "[I", true)
  | 27 => ("PurityEffectsModel", "printedAll", "I", false)
  | 28 => ("PurityEffectsModel", "prints", "[I", true)
  | 29 => ("PurityEffectsModel", "numbers", "[I", true)
  | 30 => ("PurityEffectsModel", "refs", "[I", true)
  | 31 => ("PurityEffectsModel", "mayBe", "[I", true)
  | 32 => ("PurityEffectsModel", "isReached", "[Z", true)
  | 33 => ("PurityEffectsModel", "ends", "[Z", true)
  | 34 => ("PurityEffectsModel", "mayPrint", "[Z", true)
  | 35 => ("PurityEffectsModel", "faultsOf", "[I", true)
  | 36 => ("PurityEffectsModel", "resultIs", "[I", true)
  | 37 => ("PurityEffectsModel", "reads", "[I", true)
  | 38 => ("PurityEffectsModel", "writes", "[I", true)
  | 39 => ("PurityEffectsModel", "more", "Z", false)
  | 40 => ("PurityEffectsModel", "now", "[I", true)
  | 41 => ("PurityEffectsModel", "frames", "I", false)
  | 42 => ("PurityEffectsModel", "fMethod", "[I", true)
  | 43 => ("PurityEffectsModel", "fLine", "[I", true)
  | 44 => ("PurityEffectsModel", "fN", "[I", true)
  | 45 => ("PurityEffectsModel", "fR", "[I", true)
  | 46 => ("PurityEffectsModel", "isFull", "Z", false)
  | 47 => ("PurityEffectsModel", "done", "I", false)
  | 48 => ("PurityEffectsModel", "thrownLines", "I", false)
  | 49 => ("PurityEffectsModel", "thingsBefore", "I", false)
  | 50 => ("PurityEffectsModel", "printedBefore", "I", false)
  | 51 => ("PurityEffectsModel", "endFault", "I", false)
  | 52 => ("PurityEffectsModel", "endResult", "I", false)
  | 53 => ("PurityEffectsModel", "endIsRef", "Z", false)
  | 54 => ("PurityEffectsModel", "readAll", "I", false)
  | 55 => ("PurityEffectsModel", "wroteAll", "I", false)
  | 56 => ("PurityEffectsModel", "readOf", "[I", true)
  | 57 => ("PurityEffectsModel", "wroteOf", "[I", true)
  | 58 => ("PurityEffectsModel", "readStatics", "I", false)
  | 59 => ("PurityEffectsModel", "wroteStatics", "I", false)
  | 60 => ("PurityEffectsModel", "kept", "[I", true)
  | 61 => ("PurityEffectsModel", "first", "[I", true)
  | 62 => ("PurityEffectsModel", "wasRun", "Z", false)
  | 63 => ("PurityEffectsModel", "didTell", "[I", true)
  | 64 => ("PurityEffectsModel", "wasForeseen", "Z", false)
  | 65 => ("PurityEffectsModel", "fault2", "[I", true)
  | 66 => ("PurityEffectsModel", "result2", "[I", true)
  | 67 => ("PurityEffectsModel", "twin", "[I", true)
  | 68 => ("PurityEffectsModel", "isTwin", "[Z", true)
  | 69 => ("PurityEffectsModel", "work", "[I", true)
  | _ => ("PurityEffectsModel", "works", "I", false)
def tyX7 : Nat → FieldType := fun k => match k with
  | 0 => .int
  | 1 => .array .int
  | 2 => .int
  | 3 => .array .int
  | 4 => .array .boolean
  | 5 => .int
  | 6 => .array .boolean
  | 7 => .int
  | 8 => .array .int
  | 9 => .array .int
  | 10 => .array .int
  | 11 => .array .int
  | 12 => .array .int
  | 13 => .array .int
  | 14 => .array .int
  | 15 => .array .int
  | 16 => .array .int
  | 17 => .array .int
  | 18 => .array .int
  | 19 => .array .int
  | 20 => .array .int
  | 21 => .boolean
  | 22 => .int
  | 23 => .array .int
  | 24 => .array .int
  | 25 => .array .int
  | 26 => .array .int
  | 27 => .int
  | 28 => .array .int
  | 29 => .array .int
  | 30 => .array .int
  | 31 => .array .int
  | 32 => .array .boolean
  | 33 => .array .boolean
  | 34 => .array .boolean
  | 35 => .array .int
  | 36 => .array .int
  | 37 => .array .int
  | 38 => .array .int
  | 39 => .boolean
  | 40 => .array .int
  | 41 => .int
  | 42 => .array .int
  | 43 => .array .int
  | 44 => .array .int
  | 45 => .array .int
  | 46 => .boolean
  | 47 => .int
  | 48 => .int
  | 49 => .int
  | 50 => .int
  | 51 => .int
  | 52 => .int
  | 53 => .boolean
  | 54 => .int
  | 55 => .int
  | 56 => .array .int
  | 57 => .array .int
  | 58 => .int
  | 59 => .int
  | 60 => .array .int
  | 61 => .array .int
  | 62 => .boolean
  | 63 => .array .int
  | 64 => .boolean
  | 65 => .array .int
  | 66 => .array .int
  | 67 => .array .int
  | 68 => .array .boolean
  | 69 => .array .int
  | _ => .int
abbrev wsX70 : List Cond := u_ws RX7 TX7 71
theorem nmX7 : ∀ a, a < 71 → ∀ b, b < 71 → a ≠ b → (TX7 a).2.1 ≠ (TX7 b).2.1 := by decide +kernel
theorem tyX7_ok : ∀ k, k < 71 → parseFieldDescriptor (TX7 k).2.2.1 = some (tyX7 k) := by decide +kernel
abbrev cX7_beyond : ByteArray := prog_9_method_1_code
def yX7_beyond : MethodName := ⟨RX7, "beyond", "(JJJ)Z"⟩
abbrev cX7_init : ByteArray := prog_9_method_2_code
def yX7_init : MethodName := ⟨RX7, "<init>", "()V"⟩
abbrev cX7_type : ByteArray := prog_9_method_3_code
def yX7_type : MethodName := ⟨RX7, "type", "(I)I"⟩
abbrev cX7_isBelow : ByteArray := prog_9_method_4_code
def yX7_isBelow : MethodName := ⟨RX7, "isBelow", "(II)Z"⟩
abbrev cX7_field : ByteArray := prog_9_method_5_code
def yX7_field : MethodName := ⟨RX7, "field", "(IZ)I"⟩
abbrev cX7_shared : ByteArray := prog_9_method_6_code
def yX7_shared : MethodName := ⟨RX7, "shared", "(Z)I"⟩
abbrev cX7_method : ByteArray := prog_9_method_7_code
def yX7_method : MethodName := ⟨RX7, "method", "(III)I"⟩
abbrev cX7_local : ByteArray := prog_9_method_8_code
def yX7_local : MethodName := ⟨RX7, "local", "(I)Z"⟩
abbrev cX7_aField : ByteArray := prog_9_method_9_code
def yX7_aField : MethodName := ⟨RX7, "aField", "(IZ)Z"⟩
abbrev cX7_aStatic : ByteArray := prog_9_method_10_code
def yX7_aStatic : MethodName := ⟨RX7, "aStatic", "(IZ)Z"⟩
abbrev cX7_fits : ByteArray := prog_9_method_11_code
def yX7_fits : MethodName := ⟨RX7, "fits", "(IIIII)Z"⟩
abbrev cX7_line : ByteArray := prog_9_method_12_code
def yX7_line : MethodName := ⟨RX7, "line", "(IIIII)I"⟩
abbrev cX7_caught : ByteArray := prog_9_method_13_code
def yX7_caught : MethodName := ⟨RX7, "caught", "(IIIII)I"⟩
abbrev cX7_catchOf : ByteArray := prog_9_method_14_code
def yX7_catchOf : MethodName := ⟨RX7, "catchOf", "(III)I"⟩
abbrev cX7_clearThing : ByteArray := prog_9_method_15_code
def yX7_clearThing : MethodName := ⟨RX7, "clearThing", "(I)V"⟩
abbrev cX7_thing : ByteArray := prog_9_method_16_code
def yX7_thing : MethodName := ⟨RX7, "thing", "(I)I"⟩
abbrev cX7_array : ByteArray := prog_9_method_17_code
def yX7_array : MethodName := ⟨RX7, "array", "(I)I"⟩
abbrev cX7_noThing : ByteArray := prog_9_method_18_code
def yX7_noThing : MethodName := ⟨RX7, "noThing", "(I)Z"⟩
abbrev cX7_hasIt : ByteArray := prog_9_method_19_code
def yX7_hasIt : MethodName := ⟨RX7, "hasIt", "(II)Z"⟩
abbrev cX7_put : ByteArray := prog_9_method_20_code
def yX7_put : MethodName := ⟨RX7, "put", "(III)I"⟩
abbrev cX7_set : ByteArray := prog_9_method_21_code
def yX7_set : MethodName := ⟨RX7, "set", "(II)I"⟩
abbrev cX7_get : ByteArray := prog_9_method_22_code
def yX7_get : MethodName := ⟨RX7, "get", "(II)I"⟩
abbrev cX7_stat : ByteArray := prog_9_method_23_code
def yX7_stat : MethodName := ⟨RX7, "stat", "(I)I"⟩
abbrev cX7_kind : ByteArray := prog_9_method_24_code
def yX7_kind : MethodName := ⟨RX7, "kind", "(I)I"⟩
abbrev cX7_arg : ByteArray := prog_9_method_25_code
def yX7_arg : MethodName := ⟨RX7, "arg", "(IZII)I"⟩
abbrev cX7_comes : ByteArray := prog_9_method_26_code
def yX7_comes : MethodName := ⟨RX7, "comes", "(II)V"⟩
abbrev cX7_faults : ByteArray := prog_9_method_27_code
def yX7_faults : MethodName := ⟨RX7, "faults", "(III)V"⟩
abbrev cX7_touches : ByteArray := prog_9_method_28_code
def yX7_touches : MethodName := ⟨RX7, "touches", "(IZII)V"⟩
abbrev cX7_printsMay : ByteArray := prog_9_method_29_code
def yX7_printsMay : MethodName := ⟨RX7, "printsMay", "(I)V"⟩
abbrev cX7_endsWith : ByteArray := prog_9_method_30_code
def yX7_endsWith : MethodName := ⟨RX7, "endsWith", "(II)V"⟩
abbrev cX7_seen : ByteArray := prog_9_method_31_code
def yX7_seen : MethodName := ⟨RX7, "seen", "(III)I"⟩
abbrev cX7_calls : ByteArray := prog_9_method_32_code
def yX7_calls : MethodName := ⟨RX7, "calls", "(IIIII)V"⟩
abbrev cX7_goThrough : ByteArray := prog_9_method_33_code
def yX7_goThrough : MethodName := ⟨RX7, "goThrough", "(II)V"⟩
abbrev cX7_splits : ByteArray := prog_9_method_34_code
def yX7_splits : MethodName := ⟨RX7, "splits", "(IIII)Z"⟩
abbrev cX7_analyse : ByteArray := prog_9_method_35_code
def yX7_analyse : MethodName := ⟨RX7, "analyse", "()I"⟩
abbrev cX7_all : ByteArray := prog_9_method_36_code
def yX7_all : MethodName := ⟨RX7, "all", "(IZ)I"⟩
abbrev cX7_isPure : ByteArray := prog_9_method_37_code
def yX7_isPure : MethodName := ⟨RX7, "isPure", "(I)Z"⟩
abbrev cX7_noMethod : ByteArray := prog_9_method_38_code
def yX7_noMethod : MethodName := ⟨RX7, "noMethod", "(I)Z"⟩
abbrev cX7_effects : ByteArray := prog_9_method_39_code
def yX7_effects : MethodName := ⟨RX7, "effects", "(II)I"⟩
abbrev cX7_by : ByteArray := prog_9_method_40_code
def yX7_by : MethodName := ⟨RX7, "by", "(IIZ)I"⟩
abbrev cX7_may : ByteArray := prog_9_method_41_code
def yX7_may : MethodName := ⟨RX7, "may", "(III)I"⟩
abbrev cX7_free : ByteArray := prog_9_method_42_code
def yX7_free : MethodName := ⟨RX7, "free", "(II)I"⟩
abbrev cX7_open : ByteArray := prog_9_method_43_code
def yX7_open : MethodName := ⟨RX7, "open", "(I)Z"⟩
abbrev cX7_close : ByteArray := prog_9_method_44_code
def yX7_close : MethodName := ⟨RX7, "close", "(I)V"⟩
abbrev cX7_thrown : ByteArray := prog_9_method_45_code
def yX7_thrown : MethodName := ⟨RX7, "thrown", "(I)V"⟩
abbrev cX7_made : ByteArray := prog_9_method_46_code
def yX7_made : MethodName := ⟨RX7, "made", "(II)I"⟩
abbrev cX7_reads : ByteArray := prog_9_method_47_code
def yX7_reads : MethodName := ⟨RX7, "reads", "(II)V"⟩
abbrev cX7_wrote : ByteArray := prog_9_method_48_code
def yX7_wrote : MethodName := ⟨RX7, "wrote", "(II)V"⟩
abbrev cX7_meets : ByteArray := prog_9_method_49_code
def yX7_meets : MethodName := ⟨RX7, "meets", "(IIII)I"⟩
abbrev cX7_step : ByteArray := prog_9_method_50_code
def yX7_step : MethodName := ⟨RX7, "step", "()V"⟩
abbrev cX7_access : ByteArray := prog_9_method_51_code
def yX7_access : MethodName := ⟨RX7, "access", "(II)V"⟩
abbrev cX7_wholes : ByteArray := prog_9_method_52_code
def yX7_wholes : MethodName := ⟨RX7, "wholes", "(III)I"⟩
abbrev cX7_work : ByteArray := prog_9_method_53_code
def yX7_work : MethodName := ⟨RX7, "work", "(II)V"⟩
abbrev cX7_row : ByteArray := prog_9_method_54_code
def yX7_row : MethodName := ⟨RX7, "row", "(III)V"⟩
abbrev cX7_print : ByteArray := prog_9_method_55_code
def yX7_print : MethodName := ⟨RX7, "print", "(I)V"⟩
abbrev cX7_call : ByteArray := prog_9_method_56_code
def yX7_call : MethodName := ⟨RX7, "call", "(II)V"⟩
abbrev cX7_isObject : ByteArray := prog_9_method_57_code
def yX7_isObject : MethodName := ⟨RX7, "isObject", "(II)Z"⟩
abbrev cX7_jump : ByteArray := prog_9_method_58_code
def yX7_jump : MethodName := ⟨RX7, "jump", "(II)V"⟩
abbrev cX7_goes : ByteArray := prog_9_method_59_code
def yX7_goes : MethodName := ⟨RX7, "goes", "(II)Z"⟩
abbrev cX7_save : ByteArray := prog_9_method_60_code
def yX7_save : MethodName := ⟨RX7, "save", "([I)V"⟩
abbrev cX7_restore : ByteArray := prog_9_method_61_code
def yX7_restore : MethodName := ⟨RX7, "restore", "([I)V"⟩
abbrev cX7_isForeseen : ByteArray := prog_9_method_62_code
def yX7_isForeseen : MethodName := ⟨RX7, "isForeseen", "(I)Z"⟩
abbrev cX7_run : ByteArray := prog_9_method_63_code
def yX7_run : MethodName := ⟨RX7, "run", "(I)I"⟩
abbrev cX7_did : ByteArray := prog_9_method_64_code
def yX7_did : MethodName := ⟨RX7, "did", "(I)I"⟩
abbrev cX7_foreseen : ByteArray := prog_9_method_65_code
def yX7_foreseen : MethodName := ⟨RX7, "foreseen", "()I"⟩
abbrev cX7_likeRefs : ByteArray := prog_9_method_66_code
def yX7_likeRefs : MethodName := ⟨RX7, "likeRefs", "(III)Z"⟩
abbrev cX7_likeThings : ByteArray := prog_9_method_67_code
def yX7_likeThings : MethodName := ⟨RX7, "likeThings", "(III)Z"⟩
abbrev cX7_likeEnds : ByteArray := prog_9_method_68_code
def yX7_likeEnds : MethodName := ⟨RX7, "likeEnds", "(III)Z"⟩
abbrev cX7_runsTwo : ByteArray := prog_9_method_69_code
def yX7_runsTwo : MethodName := ⟨RX7, "runsTwo", "(IIIIII)Z"⟩
abbrev cX7_both : ByteArray := prog_9_method_70_code
def yX7_both : MethodName := ⟨RX7, "both", "(II)I"⟩
abbrev cX7_printed : ByteArray := prog_9_method_71_code
def yX7_printed : MethodName := ⟨RX7, "printed", "(I)I"⟩
abbrev cX7_count : ByteArray := prog_9_method_72_code
def yX7_count : MethodName := ⟨RX7, "count", "(I)I"⟩
def RJ9 : String := "java/lang/Math"
def TJ9 : u_T := fun k => match k with
  | _ => ("", "", "", false)
def tyJ9 : Nat → FieldType := fun k => match k with
  | _ => .int
abbrev wsJ90 : List Cond := u_ws RJ9 TJ9 0
theorem nmJ9 : ∀ a, a < 0 → ∀ b, b < 0 → a ≠ b → (TJ9 a).2.1 ≠ (TJ9 b).2.1 := by decide +kernel
theorem tyJ9_ok : ∀ k, k < 0 → parseFieldDescriptor (TJ9 k).2.2.1 = some (tyJ9 k) := by decide +kernel
abbrev cJ9_min_7cf53 : ByteArray := prog_10_method_69_code
def yJ9_min_7cf53 : MethodName := ⟨RJ9, "min", "(II)I"⟩
def RJ10 : String := "java/lang/System"
def TJ10 : u_T := fun k => match k with
  | _ => ("", "", "", false)
def tyJ10 : Nat → FieldType := fun k => match k with
  | _ => .int
abbrev wsJ100 : List Cond := u_ws RJ10 TJ10 0
theorem nmJ10 : ∀ a, a < 0 → ∀ b, b < 0 → a ≠ b → (TJ10 a).2.1 ≠ (TJ10 b).2.1 := by decide +kernel
theorem tyJ10_ok : ∀ k, k < 0 → parseFieldDescriptor (TJ10 k).2.2.1 = some (tyJ10 k) := by decide +kernel
def RL : String := "PurityEffectsLaw"
abbrev cL_law : ByteArray := code
def yL_law : MethodName := ⟨RL, "law", "([I)Z"⟩
abbrev vwCl : List vw_C := [(RX0, TX0, 8), (RX1, TX1, 9), (RX2, TX2, 10), (RX3, TX3, 13), (RX4, TX4, 18), (RX5, TX5, 6), (RX6, TX6, 11), (RX7, TX7, 71)]
