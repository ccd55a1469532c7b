/-- a private method of a class that the tables say can be made, by its rows of tables_1 -/
def lw_okq (q : MethodName × Nat) : Prop := (q.1.cls ≠ "java/lang/invoke/MethodHandle" ∧ q.1.cls ≠ "java/lang/invoke/VarHandle") ∧ Cond.instantiable q.1.cls q.2 ∈ tables_1 ∧ Cond.privateMethod q.1 ∈ tables_1 ∧ Cond.instanceMethod q.1 ∈ tables_1
theorem lw_p0 : lw_okq (⟨"ChordFolds$Drawing", "rankJoined", "()I"⟩, 6) := ⟨⟨by decide +kernel, by decide +kernel⟩, List.mem_of_getElem? (i := 20) (by decide +kernel), List.mem_of_getElem? (i := 235) (by decide +kernel), List.mem_of_getElem? (i := 236) (by decide +kernel)⟩
theorem lw_p1 : lw_okq (⟨"ChordFolds$Drawing", "walkRound", "(II)V"⟩, 6) := ⟨⟨by decide +kernel, by decide +kernel⟩, List.mem_of_getElem? (i := 20) (by decide +kernel), List.mem_of_getElem? (i := 240) (by decide +kernel), List.mem_of_getElem? (i := 241) (by decide +kernel)⟩
theorem lw_p2 : lw_okq (⟨"ChordFolds$Drawing", "tangleOver", "(I)I"⟩, 6) := ⟨⟨by decide +kernel, by decide +kernel⟩, List.mem_of_getElem? (i := 20) (by decide +kernel), List.mem_of_getElem? (i := 268) (by decide +kernel), List.mem_of_getElem? (i := 269) (by decide +kernel)⟩
theorem lw_p3 : lw_okq (⟨"ChordFolds$Drawing", "dropUnjoined", "()Z"⟩, 6) := ⟨⟨by decide +kernel, by decide +kernel⟩, List.mem_of_getElem? (i := 20) (by decide +kernel), List.mem_of_getElem? (i := 305) (by decide +kernel), List.mem_of_getElem? (i := 306) (by decide +kernel)⟩
theorem lw_p4 : lw_okq (⟨"ChordFolds$Drawing", "dropInner", "()Z"⟩, 6) := ⟨⟨by decide +kernel, by decide +kernel⟩, List.mem_of_getElem? (i := 20) (by decide +kernel), List.mem_of_getElem? (i := 309) (by decide +kernel), List.mem_of_getElem? (i := 310) (by decide +kernel)⟩
theorem lw_p5 : lw_okq (⟨"ChordFolds$Census", "findHandles", "()V"⟩, 5) := ⟨⟨by decide +kernel, by decide +kernel⟩, List.mem_of_getElem? (i := 54) (by decide +kernel), List.mem_of_getElem? (i := 334) (by decide +kernel), List.mem_of_getElem? (i := 335) (by decide +kernel)⟩
theorem lw_p6 : lw_okq (⟨"ChordFolds$Census", "findCrossings", "()V"⟩, 5) := ⟨⟨by decide +kernel, by decide +kernel⟩, List.mem_of_getElem? (i := 54) (by decide +kernel), List.mem_of_getElem? (i := 343) (by decide +kernel), List.mem_of_getElem? (i := 344) (by decide +kernel)⟩
theorem lw_p7 : lw_okq (⟨"ChordFolds$Census", "stepTo", "(I)V"⟩, 5) := ⟨⟨by decide +kernel, by decide +kernel⟩, List.mem_of_getElem? (i := 54) (by decide +kernel), List.mem_of_getElem? (i := 350) (by decide +kernel), List.mem_of_getElem? (i := 351) (by decide +kernel)⟩
theorem lw_p8 : lw_okq (⟨"ChordFolds$Drawing", "linkInOrder", "(IJJ)J"⟩, 6) := ⟨⟨by decide +kernel, by decide +kernel⟩, List.mem_of_getElem? (i := 20) (by decide +kernel), List.mem_of_getElem? (i := 367) (by decide +kernel), List.mem_of_getElem? (i := 368) (by decide +kernel)⟩
theorem lw_p9 : lw_okq (⟨"ChordFolds$Drawing", "lesserPartners", "(I)I"⟩, 6) := ⟨⟨by decide +kernel, by decide +kernel⟩, List.mem_of_getElem? (i := 20) (by decide +kernel), List.mem_of_getElem? (i := 385) (by decide +kernel), List.mem_of_getElem? (i := 386) (by decide +kernel)⟩
theorem lw_p10 : lw_okq (⟨"ChordFolds$Folder", "keepLoose", "(II)V"⟩, 9) := ⟨⟨by decide +kernel, by decide +kernel⟩, List.mem_of_getElem? (i := 131) (by decide +kernel), List.mem_of_getElem? (i := 453) (by decide +kernel), List.mem_of_getElem? (i := 454) (by decide +kernel)⟩
theorem lw_p11 : lw_okq (⟨"ChordFolds$Folder", "keepBound", "(II)V"⟩, 9) := ⟨⟨by decide +kernel, by decide +kernel⟩, List.mem_of_getElem? (i := 131) (by decide +kernel), List.mem_of_getElem? (i := 457) (by decide +kernel), List.mem_of_getElem? (i := 458) (by decide +kernel)⟩
theorem lw_p12 : lw_okq (⟨"ChordFolds$Folder", "weigh", "(LChordFolds$Strand;II)V"⟩, 9) := ⟨⟨by decide +kernel, by decide +kernel⟩, List.mem_of_getElem? (i := 131) (by decide +kernel), List.mem_of_getElem? (i := 461) (by decide +kernel), List.mem_of_getElem? (i := 462) (by decide +kernel)⟩
theorem lw_p13 : lw_okq (⟨"ChordFolds$Folder", "scoreWith", "(LChordFolds$Strand;III)I"⟩, 9) := ⟨⟨by decide +kernel, by decide +kernel⟩, List.mem_of_getElem? (i := 131) (by decide +kernel), List.mem_of_getElem? (i := 473) (by decide +kernel), List.mem_of_getElem? (i := 474) (by decide +kernel)⟩
theorem lw_p14 : lw_okq (⟨"ChordFolds$Folder", "offer", "(IJ)V"⟩, 9) := ⟨⟨by decide +kernel, by decide +kernel⟩, List.mem_of_getElem? (i := 131) (by decide +kernel), List.mem_of_getElem? (i := 478) (by decide +kernel), List.mem_of_getElem? (i := 479) (by decide +kernel)⟩
theorem lw_p15 : lw_okq (⟨"ChordFolds$Folder", "startStretch", "(IIZ)V"⟩, 9) := ⟨⟨by decide +kernel, by decide +kernel⟩, List.mem_of_getElem? (i := 131) (by decide +kernel), List.mem_of_getElem? (i := 507) (by decide +kernel), List.mem_of_getElem? (i := 508) (by decide +kernel)⟩
def lw_privs_1 : List (MethodName × Nat) := [(⟨"ChordFolds$Drawing", "rankJoined", "()I"⟩, 6), (⟨"ChordFolds$Drawing", "walkRound", "(II)V"⟩, 6), (⟨"ChordFolds$Drawing", "tangleOver", "(I)I"⟩, 6), (⟨"ChordFolds$Drawing", "dropUnjoined", "()Z"⟩, 6), (⟨"ChordFolds$Drawing", "dropInner", "()Z"⟩, 6), (⟨"ChordFolds$Census", "findHandles", "()V"⟩, 5), (⟨"ChordFolds$Census", "findCrossings", "()V"⟩, 5), (⟨"ChordFolds$Census", "stepTo", "(I)V"⟩, 5), (⟨"ChordFolds$Drawing", "linkInOrder", "(IJJ)J"⟩, 6), (⟨"ChordFolds$Drawing", "lesserPartners", "(I)I"⟩, 6), (⟨"ChordFolds$Folder", "keepLoose", "(II)V"⟩, 9), (⟨"ChordFolds$Folder", "keepBound", "(II)V"⟩, 9), (⟨"ChordFolds$Folder", "weigh", "(LChordFolds$Strand;II)V"⟩, 9), (⟨"ChordFolds$Folder", "scoreWith", "(LChordFolds$Strand;III)I"⟩, 9), (⟨"ChordFolds$Folder", "offer", "(IJ)V"⟩, 9), (⟨"ChordFolds$Folder", "startStretch", "(IIZ)V"⟩, 9)]
theorem lw_r1 : ∀ q ∈ lw_privs_1, lw_okq q := List.forall_mem_cons.mpr ⟨lw_p0, List.forall_mem_cons.mpr ⟨lw_p1, List.forall_mem_cons.mpr ⟨lw_p2, List.forall_mem_cons.mpr ⟨lw_p3, List.forall_mem_cons.mpr ⟨lw_p4, List.forall_mem_cons.mpr ⟨lw_p5, List.forall_mem_cons.mpr ⟨lw_p6, List.forall_mem_cons.mpr ⟨lw_p7, List.forall_mem_cons.mpr ⟨lw_p8, List.forall_mem_cons.mpr ⟨lw_p9, List.forall_mem_cons.mpr ⟨lw_p10, List.forall_mem_cons.mpr ⟨lw_p11, List.forall_mem_cons.mpr ⟨lw_p12, List.forall_mem_cons.mpr ⟨lw_p13, List.forall_mem_cons.mpr ⟨lw_p14, List.forall_mem_cons.mpr ⟨lw_p15, fun _ h => absurd h List.not_mem_nil⟩⟩⟩⟩⟩⟩⟩⟩⟩⟩⟩⟩⟩⟩⟩⟩
theorem lw_p16 : lw_okq (⟨"ChordFolds$Folder", "firstMate", "(LChordFolds$Strand;IIZ)I"⟩, 9) := ⟨⟨by decide +kernel, by decide +kernel⟩, List.mem_of_getElem? (i := 131) (by decide +kernel), List.mem_of_getElem? (i := 512) (by decide +kernel), List.mem_of_getElem? (i := 513) (by decide +kernel)⟩
theorem lw_p17 : lw_okq (⟨"ChordFoldsModel", "clear", "(I)V"⟩, 20) := ⟨⟨by decide +kernel, by decide +kernel⟩, List.mem_of_getElem? (i := 538) (by decide +kernel), List.mem_of_getElem? (i := 613) (by decide +kernel), List.mem_of_getElem? (i := 614) (by decide +kernel)⟩
theorem lw_p18 : lw_okq (⟨"ChordFoldsModel", "isPoint", "(I)Z"⟩, 20) := ⟨⟨by decide +kernel, by decide +kernel⟩, List.mem_of_getElem? (i := 538) (by decide +kernel), List.mem_of_getElem? (i := 621) (by decide +kernel), List.mem_of_getElem? (i := 622) (by decide +kernel)⟩
theorem lw_p19 : lw_okq (⟨"ChordFoldsModel", "tie", "(II)V"⟩, 20) := ⟨⟨by decide +kernel, by decide +kernel⟩, List.mem_of_getElem? (i := 538) (by decide +kernel), List.mem_of_getElem? (i := 625) (by decide +kernel), List.mem_of_getElem? (i := 626) (by decide +kernel)⟩
theorem lw_p20 : lw_okq (⟨"ChordFoldsModel", "chords", "()I"⟩, 20) := ⟨⟨by decide +kernel, by decide +kernel⟩, List.mem_of_getElem? (i := 538) (by decide +kernel), List.mem_of_getElem? (i := 629) (by decide +kernel), List.mem_of_getElem? (i := 630) (by decide +kernel)⟩
theorem lw_p21 : lw_okq (⟨"ChordFoldsModel", "begins", "(I)Z"⟩, 20) := ⟨⟨by decide +kernel, by decide +kernel⟩, List.mem_of_getElem? (i := 538) (by decide +kernel), List.mem_of_getElem? (i := 633) (by decide +kernel), List.mem_of_getElem? (i := 634) (by decide +kernel)⟩
theorem lw_p22 : lw_okq (⟨"ChordFoldsModel", "handles", "()I"⟩, 20) := ⟨⟨by decide +kernel, by decide +kernel⟩, List.mem_of_getElem? (i := 538) (by decide +kernel), List.mem_of_getElem? (i := 649) (by decide +kernel), List.mem_of_getElem? (i := 650) (by decide +kernel)⟩
theorem lw_p23 : lw_okq (⟨"ChordFoldsModel", "nextJoined", "(I)I"⟩, 20) := ⟨⟨by decide +kernel, by decide +kernel⟩, List.mem_of_getElem? (i := 538) (by decide +kernel), List.mem_of_getElem? (i := 653) (by decide +kernel), List.mem_of_getElem? (i := 654) (by decide +kernel)⟩
theorem lw_p24 : lw_okq (⟨"ChordFoldsModel", "pairs", "(Z)I"⟩, 20) := ⟨⟨by decide +kernel, by decide +kernel⟩, List.mem_of_getElem? (i := 538) (by decide +kernel), List.mem_of_getElem? (i := 657) (by decide +kernel), List.mem_of_getElem? (i := 658) (by decide +kernel)⟩
theorem lw_p25 : lw_okq (⟨"ChordFoldsModel", "parts", "()I"⟩, 20) := ⟨⟨by decide +kernel, by decide +kernel⟩, List.mem_of_getElem? (i := 538) (by decide +kernel), List.mem_of_getElem? (i := 661) (by decide +kernel), List.mem_of_getElem? (i := 662) (by decide +kernel)⟩
theorem lw_p26 : lw_okq (⟨"ChordFoldsModel", "heightOf", "(I)I"⟩, 20) := ⟨⟨by decide +kernel, by decide +kernel⟩, List.mem_of_getElem? (i := 538) (by decide +kernel), List.mem_of_getElem? (i := 665) (by decide +kernel), List.mem_of_getElem? (i := 666) (by decide +kernel)⟩
theorem lw_p27 : lw_okq (⟨"ChordFoldsModel", "tangle", "()I"⟩, 20) := ⟨⟨by decide +kernel, by decide +kernel⟩, List.mem_of_getElem? (i := 538) (by decide +kernel), List.mem_of_getElem? (i := 669) (by decide +kernel), List.mem_of_getElem? (i := 670) (by decide +kernel)⟩
theorem lw_p28 : lw_okq (⟨"ChordFoldsModel", "tangleFrom", "(I)I"⟩, 20) := ⟨⟨by decide +kernel, by decide +kernel⟩, List.mem_of_getElem? (i := 538) (by decide +kernel), List.mem_of_getElem? (i := 673) (by decide +kernel), List.mem_of_getElem? (i := 674) (by decide +kernel)⟩
theorem lw_p29 : lw_okq (⟨"ChordFoldsModel", "nest", "()I"⟩, 20) := ⟨⟨by decide +kernel, by decide +kernel⟩, List.mem_of_getElem? (i := 538) (by decide +kernel), List.mem_of_getElem? (i := 677) (by decide +kernel), List.mem_of_getElem? (i := 678) (by decide +kernel)⟩
theorem lw_p30 : lw_okq (⟨"ChordFoldsModel", "shortest", "()I"⟩, 20) := ⟨⟨by decide +kernel, by decide +kernel⟩, List.mem_of_getElem? (i := 538) (by decide +kernel), List.mem_of_getElem? (i := 681) (by decide +kernel), List.mem_of_getElem? (i := 682) (by decide +kernel)⟩
theorem lw_p31 : lw_okq (⟨"ChordFoldsModel", "stacks", "()I"⟩, 20) := ⟨⟨by decide +kernel, by decide +kernel⟩, List.mem_of_getElem? (i := 538) (by decide +kernel), List.mem_of_getElem? (i := 685) (by decide +kernel), List.mem_of_getElem? (i := 686) (by decide +kernel)⟩
def lw_privs_2 : List (MethodName × Nat) := [(⟨"ChordFolds$Folder", "firstMate", "(LChordFolds$Strand;IIZ)I"⟩, 9), (⟨"ChordFoldsModel", "clear", "(I)V"⟩, 20), (⟨"ChordFoldsModel", "isPoint", "(I)Z"⟩, 20), (⟨"ChordFoldsModel", "tie", "(II)V"⟩, 20), (⟨"ChordFoldsModel", "chords", "()I"⟩, 20), (⟨"ChordFoldsModel", "begins", "(I)Z"⟩, 20), (⟨"ChordFoldsModel", "handles", "()I"⟩, 20), (⟨"ChordFoldsModel", "nextJoined", "(I)I"⟩, 20), (⟨"ChordFoldsModel", "pairs", "(Z)I"⟩, 20), (⟨"ChordFoldsModel", "parts", "()I"⟩, 20), (⟨"ChordFoldsModel", "heightOf", "(I)I"⟩, 20), (⟨"ChordFoldsModel", "tangle", "()I"⟩, 20), (⟨"ChordFoldsModel", "tangleFrom", "(I)I"⟩, 20), (⟨"ChordFoldsModel", "nest", "()I"⟩, 20), (⟨"ChordFoldsModel", "shortest", "()I"⟩, 20), (⟨"ChordFoldsModel", "stacks", "()I"⟩, 20)]
theorem lw_r2 : ∀ q ∈ lw_privs_2, lw_okq q := List.forall_mem_cons.mpr ⟨lw_p16, List.forall_mem_cons.mpr ⟨lw_p17, List.forall_mem_cons.mpr ⟨lw_p18, List.forall_mem_cons.mpr ⟨lw_p19, List.forall_mem_cons.mpr ⟨lw_p20, List.forall_mem_cons.mpr ⟨lw_p21, List.forall_mem_cons.mpr ⟨lw_p22, List.forall_mem_cons.mpr ⟨lw_p23, List.forall_mem_cons.mpr ⟨lw_p24, List.forall_mem_cons.mpr ⟨lw_p25, List.forall_mem_cons.mpr ⟨lw_p26, List.forall_mem_cons.mpr ⟨lw_p27, List.forall_mem_cons.mpr ⟨lw_p28, List.forall_mem_cons.mpr ⟨lw_p29, List.forall_mem_cons.mpr ⟨lw_p30, List.forall_mem_cons.mpr ⟨lw_p31, fun _ h => absurd h List.not_mem_nil⟩⟩⟩⟩⟩⟩⟩⟩⟩⟩⟩⟩⟩⟩⟩⟩
theorem lw_p32 : lw_okq (⟨"ChordFoldsModel", "isInner", "(I)Z"⟩, 20) := ⟨⟨by decide +kernel, by decide +kernel⟩, List.mem_of_getElem? (i := 538) (by decide +kernel), List.mem_of_getElem? (i := 689) (by decide +kernel), List.mem_of_getElem? (i := 690) (by decide +kernel)⟩
theorem lw_p33 : lw_okq (⟨"ChordFoldsModel", "firstAlone", "()I"⟩, 20) := ⟨⟨by decide +kernel, by decide +kernel⟩, List.mem_of_getElem? (i := 538) (by decide +kernel), List.mem_of_getElem? (i := 701) (by decide +kernel), List.mem_of_getElem? (i := 702) (by decide +kernel)⟩
theorem lw_p34 : lw_okq (⟨"ChordFoldsModel", "firstInner", "()I"⟩, 20) := ⟨⟨by decide +kernel, by decide +kernel⟩, List.mem_of_getElem? (i := 538) (by decide +kernel), List.mem_of_getElem? (i := 705) (by decide +kernel), List.mem_of_getElem? (i := 706) (by decide +kernel)⟩
theorem lw_p35 : lw_okq (⟨"ChordFoldsModel", "remove", "(I)V"⟩, 20) := ⟨⟨by decide +kernel, by decide +kernel⟩, List.mem_of_getElem? (i := 538) (by decide +kernel), List.mem_of_getElem? (i := 709) (by decide +kernel), List.mem_of_getElem? (i := 710) (by decide +kernel)⟩
theorem lw_p36 : lw_okq (⟨"ChordFoldsModel", "layHandles", "()V"⟩, 20) := ⟨⟨by decide +kernel, by decide +kernel⟩, List.mem_of_getElem? (i := 538) (by decide +kernel), List.mem_of_getElem? (i := 724) (by decide +kernel), List.mem_of_getElem? (i := 725) (by decide +kernel)⟩
theorem lw_p37 : lw_okq (⟨"ChordFoldsModel", "layCrossings", "(I)V"⟩, 20) := ⟨⟨by decide +kernel, by decide +kernel⟩, List.mem_of_getElem? (i := 538) (by decide +kernel), List.mem_of_getElem? (i := 729) (by decide +kernel), List.mem_of_getElem? (i := 730) (by decide +kernel)⟩
theorem lw_p38 : lw_okq (⟨"ChordFoldsModel", "isFull", "()Z"⟩, 20) := ⟨⟨by decide +kernel, by decide +kernel⟩, List.mem_of_getElem? (i := 538) (by decide +kernel), List.mem_of_getElem? (i := 745) (by decide +kernel), List.mem_of_getElem? (i := 746) (by decide +kernel)⟩
theorem lw_p39 : lw_okq (⟨"ChordFoldsModel", "open", "()I"⟩, 20) := ⟨⟨by decide +kernel, by decide +kernel⟩, List.mem_of_getElem? (i := 538) (by decide +kernel), List.mem_of_getElem? (i := 758) (by decide +kernel), List.mem_of_getElem? (i := 759) (by decide +kernel)⟩
theorem lw_p40 : lw_okq (⟨"ChordFoldsModel", "layAll", "()V"⟩, 20) := ⟨⟨by decide +kernel, by decide +kernel⟩, List.mem_of_getElem? (i := 538) (by decide +kernel), List.mem_of_getElem? (i := 792) (by decide +kernel), List.mem_of_getElem? (i := 793) (by decide +kernel)⟩
theorem lw_p41 : lw_okq (⟨"ChordFoldsModel", "layStretch", "(III)V"⟩, 20) := ⟨⟨by decide +kernel, by decide +kernel⟩, List.mem_of_getElem? (i := 538) (by decide +kernel), List.mem_of_getElem? (i := 796) (by decide +kernel), List.mem_of_getElem? (i := 797) (by decide +kernel)⟩
theorem lw_p42 : lw_okq (⟨"ChordFoldsModel", "mayJoin", "(II)Z"⟩, 20) := ⟨⟨by decide +kernel, by decide +kernel⟩, List.mem_of_getElem? (i := 538) (by decide +kernel), List.mem_of_getElem? (i := 803) (by decide +kernel), List.mem_of_getElem? (i := 804) (by decide +kernel)⟩
theorem lw_p43 : lw_okq (⟨"ChordFoldsModel", "withChord", "(IIII)I"⟩, 20) := ⟨⟨by decide +kernel, by decide +kernel⟩, List.mem_of_getElem? (i := 538) (by decide +kernel), List.mem_of_getElem? (i := 807) (by decide +kernel), List.mem_of_getElem? (i := 808) (by decide +kernel)⟩
def lw_privs_3 : List (MethodName × Nat) := [(⟨"ChordFoldsModel", "isInner", "(I)Z"⟩, 20), (⟨"ChordFoldsModel", "firstAlone", "()I"⟩, 20), (⟨"ChordFoldsModel", "firstInner", "()I"⟩, 20), (⟨"ChordFoldsModel", "remove", "(I)V"⟩, 20), (⟨"ChordFoldsModel", "layHandles", "()V"⟩, 20), (⟨"ChordFoldsModel", "layCrossings", "(I)V"⟩, 20), (⟨"ChordFoldsModel", "isFull", "()Z"⟩, 20), (⟨"ChordFoldsModel", "open", "()I"⟩, 20), (⟨"ChordFoldsModel", "layAll", "()V"⟩, 20), (⟨"ChordFoldsModel", "layStretch", "(III)V"⟩, 20), (⟨"ChordFoldsModel", "mayJoin", "(II)Z"⟩, 20), (⟨"ChordFoldsModel", "withChord", "(IIII)I"⟩, 20)]
theorem lw_r3 : ∀ q ∈ lw_privs_3, lw_okq q := List.forall_mem_cons.mpr ⟨lw_p32, List.forall_mem_cons.mpr ⟨lw_p33, List.forall_mem_cons.mpr ⟨lw_p34, List.forall_mem_cons.mpr ⟨lw_p35, List.forall_mem_cons.mpr ⟨lw_p36, List.forall_mem_cons.mpr ⟨lw_p37, List.forall_mem_cons.mpr ⟨lw_p38, List.forall_mem_cons.mpr ⟨lw_p39, List.forall_mem_cons.mpr ⟨lw_p40, List.forall_mem_cons.mpr ⟨lw_p41, List.forall_mem_cons.mpr ⟨lw_p42, List.forall_mem_cons.mpr ⟨lw_p43, fun _ h => absurd h List.not_mem_nil⟩⟩⟩⟩⟩⟩⟩⟩⟩⟩⟩⟩
def lw_privs : List (MethodName × Nat) := lw_privs_1 ++ (lw_privs_2 ++ (lw_privs_3))
def lw_tbl : List Cond := k2_sels lw_privs ++ tables_1
theorem lw_privs_ok : ∀ q ∈ lw_privs, lw_okq q := by
  show ∀ q ∈ lw_privs_1 ++ (lw_privs_2 ++ (lw_privs_3)), lw_okq q
  exact List.forall_mem_append.mpr ⟨lw_r1, List.forall_mem_append.mpr ⟨lw_r2, lw_r3⟩⟩
def RX0 : String := "ChordFolds$Census"
def TX0 : u_T := fun k => match k with
  | 0 => ("ChordFolds$Census", "byHandles", "[[J", true)
  | 1 => ("ChordFolds$Census", "byCrossings", "[[J", true)
  | 2 => ("ChordFolds$Census", "atHeight", "[[J", true)
  | 3 => ("ChordFolds$Census", "handlesKnown", "Z", false)
  | _ => ("ChordFolds$Census", "crossingsKnown", "Z", false)
def tyX0 : Nat → FieldType := fun k => match k with
  | 0 => .array (.array .long)
  | 1 => .array (.array .long)
  | 2 => .array (.array .long)
  | 3 => .boolean
  | _ => .boolean
abbrev wsX00 : List Cond := u_ws RX0 TX0 5
theorem nmX0 : ∀ a, a < 5 → ∀ b, b < 5 → a ≠ b → (TX0 a).2.1 ≠ (TX0 b).2.1 := by decide +kernel
theorem tyX0_ok : ∀ k, k < 5 → parseFieldDescriptor (TX0 k).2.2.1 = some (tyX0 k) := by decide +kernel
abbrev cX0_init : ByteArray := prog_2_method_1_code
def yX0_init : MethodName := ⟨RX0, "<init>", "()V"⟩
abbrev cX0_withHandles : ByteArray := prog_2_method_2_code
def yX0_withHandles : MethodName := ⟨RX0, "withHandles", "(II)J"⟩
abbrev cX0_findHandles : ByteArray := prog_2_method_3_code
def yX0_findHandles : MethodName := ⟨RX0, "findHandles", "()V"⟩
abbrev cX0_withCrossings : ByteArray := prog_2_method_4_code
def yX0_withCrossings : MethodName := ⟨RX0, "withCrossings", "(II)J"⟩
abbrev cX0_findCrossings : ByteArray := prog_2_method_5_code
def yX0_findCrossings : MethodName := ⟨RX0, "findCrossings", "()V"⟩
abbrev cX0_stepTo : ByteArray := prog_2_method_6_code
def yX0_stepTo : MethodName := ⟨RX0, "stepTo", "(I)V"⟩
def RX1 : String := "ChordFolds$Drawing"
def TX1 : u_T := fun k => match k with
  | 0 => ("ChordFolds$Drawing", "size", "I", false)
  | 1 => ("ChordFolds$Drawing", "mate", "[I", true)
  | 2 => ("ChordFolds$Drawing", "rank", "[I", true)
  | 3 => ("ChordFolds$Drawing", "joinedPoint", "[I", true)
  | 4 => ("ChordFolds$Drawing", "seen", "[Z", true)
  | _ => ("ChordFolds$Drawing", "chain", "[I", true)
def tyX1 : Nat → FieldType := fun k => match k with
  | 0 => .int
  | 1 => .array .int
  | 2 => .array .int
  | 3 => .array .int
  | 4 => .array .boolean
  | _ => .array .int
abbrev wsX10 : List Cond := u_ws RX1 TX1 6
theorem nmX1 : ∀ a, a < 6 → ∀ b, b < 6 → a ≠ b → (TX1 a).2.1 ≠ (TX1 b).2.1 := by decide +kernel
theorem tyX1_ok : ∀ k, k < 6 → parseFieldDescriptor (TX1 k).2.2.1 = some (tyX1 k) := by decide +kernel
abbrev cX1_init : ByteArray := prog_3_method_1_code
def yX1_init : MethodName := ⟨RX1, "<init>", "()V"⟩
abbrev cX1_clear : ByteArray := prog_3_method_2_code
def yX1_clear : MethodName := ⟨RX1, "clear", "(I)V"⟩
abbrev cX1_hasPoint : ByteArray := prog_3_method_3_code
def yX1_hasPoint : MethodName := ⟨RX1, "hasPoint", "(I)Z"⟩
abbrev cX1_isJoined : ByteArray := prog_3_method_4_code
def yX1_isJoined : MethodName := ⟨RX1, "isJoined", "(I)Z"⟩
abbrev cX1_begins : ByteArray := prog_3_method_5_code
def yX1_begins : MethodName := ⟨RX1, "begins", "(I)Z"⟩
abbrev cX1_ends : ByteArray := prog_3_method_6_code
def yX1_ends : MethodName := ⟨RX1, "ends", "(I)Z"⟩
abbrev cX1_isChord : ByteArray := prog_3_method_7_code
def yX1_isChord : MethodName := ⟨RX1, "isChord", "(II)Z"⟩
abbrev cX1_link : ByteArray := prog_3_method_8_code
def yX1_link : MethodName := ⟨RX1, "link", "(II)V"⟩
abbrev cX1_unlink : ByteArray := prog_3_method_9_code
def yX1_unlink : MethodName := ⟨RX1, "unlink", "(I)I"⟩
abbrev cX1_isFull : ByteArray := prog_3_method_10_code
def yX1_isFull : MethodName := ⟨RX1, "isFull", "()Z"⟩
abbrev cX1_chords : ByteArray := prog_3_method_11_code
def yX1_chords : MethodName := ⟨RX1, "chords", "()I"⟩
abbrev cX1_handles : ByteArray := prog_3_method_12_code
def yX1_handles : MethodName := ⟨RX1, "handles", "()I"⟩
abbrev cX1_rankJoined : ByteArray := prog_3_method_13_code
def yX1_rankJoined : MethodName := ⟨RX1, "rankJoined", "()I"⟩
abbrev cX1_walkRound : ByteArray := prog_3_method_14_code
def yX1_walkRound : MethodName := ⟨RX1, "walkRound", "(II)V"⟩
abbrev cX1_crossings : ByteArray := prog_3_method_15_code
def yX1_crossings : MethodName := ⟨RX1, "crossings", "()I"⟩
abbrev cX1_nestings : ByteArray := prog_3_method_16_code
def yX1_nestings : MethodName := ⟨RX1, "nestings", "()I"⟩
abbrev cX1_parts : ByteArray := prog_3_method_17_code
def yX1_parts : MethodName := ⟨RX1, "parts", "()I"⟩
abbrev cX1_openBehind : ByteArray := prog_3_method_18_code
def yX1_openBehind : MethodName := ⟨RX1, "openBehind", "(I)I"⟩
abbrev cX1_tangle : ByteArray := prog_3_method_19_code
def yX1_tangle : MethodName := ⟨RX1, "tangle", "()I"⟩
abbrev cX1_tangleOver : ByteArray := prog_3_method_20_code
def yX1_tangleOver : MethodName := ⟨RX1, "tangleOver", "(I)I"⟩
abbrev cX1_nest : ByteArray := prog_3_method_21_code
def yX1_nest : MethodName := ⟨RX1, "nest", "()I"⟩
abbrev cX1_shortest : ByteArray := prog_3_method_22_code
def yX1_shortest : MethodName := ⟨RX1, "shortest", "()I"⟩
abbrev cX1_stacks : ByteArray := prog_3_method_23_code
def yX1_stacks : MethodName := ⟨RX1, "stacks", "()I"⟩
abbrev cX1_reduce : ByteArray := prog_3_method_24_code
def yX1_reduce : MethodName := ⟨RX1, "reduce", "()V"⟩
abbrev cX1_dropUnjoined : ByteArray := prog_3_method_25_code
def yX1_dropUnjoined : MethodName := ⟨RX1, "dropUnjoined", "()Z"⟩
abbrev cX1_dropInner : ByteArray := prog_3_method_26_code
def yX1_dropInner : MethodName := ⟨RX1, "dropInner", "()Z"⟩
abbrev cX1_turnAbout : ByteArray := prog_3_method_27_code
def yX1_turnAbout : MethodName := ⟨RX1, "turnAbout", "()V"⟩
abbrev cX1_becomeFull : ByteArray := prog_3_method_28_code
def yX1_becomeFull : MethodName := ⟨RX1, "becomeFull", "(IJ)V"⟩
abbrev cX1_linkInOrder : ByteArray := prog_3_method_29_code
def yX1_linkInOrder : MethodName := ⟨RX1, "linkInOrder", "(IJJ)J"⟩
abbrev cX1_fullOnesAhead : ByteArray := prog_3_method_30_code
def yX1_fullOnesAhead : MethodName := ⟨RX1, "fullOnesAhead", "()J"⟩
abbrev cX1_lesserPartners : ByteArray := prog_3_method_31_code
def yX1_lesserPartners : MethodName := ⟨RX1, "lesserPartners", "(I)I"⟩
abbrev cX1_signAt : ByteArray := prog_3_method_32_code
def yX1_signAt : MethodName := ⟨RX1, "signAt", "(I)I"⟩
def RX2 : String := "ChordFolds$Folder"
def TX2 : u_T := fun k => match k with
  | 0 => ("ChordFolds$Folder", "looseScore", "[[I", true)
  | 1 => ("ChordFolds$Folder", "boundScore", "[[I", true)
  | 2 => ("ChordFolds$Folder", "looseWays", "[[J", true)
  | 3 => ("ChordFolds$Folder", "boundWays", "[[J", true)
  | 4 => ("ChordFolds$Folder", "allWays", "[[J", true)
  | 5 => ("ChordFolds$Folder", "stretchEnd", "[I", true)
  | 6 => ("ChordFolds$Folder", "stretchBound", "[Z", true)
  | 7 => ("ChordFolds$Folder", "least", "I", false)
  | _ => ("ChordFolds$Folder", "ways", "J", false)
def tyX2 : Nat → FieldType := fun k => match k with
  | 0 => .array (.array .int)
  | 1 => .array (.array .int)
  | 2 => .array (.array .long)
  | 3 => .array (.array .long)
  | 4 => .array (.array .long)
  | 5 => .array .int
  | 6 => .array .boolean
  | 7 => .int
  | _ => .long
abbrev wsX20 : List Cond := u_ws RX2 TX2 9
theorem nmX2 : ∀ a, a < 9 → ∀ b, b < 9 → a ≠ b → (TX2 a).2.1 ≠ (TX2 b).2.1 := by decide +kernel
theorem tyX2_ok : ∀ k, k < 9 → parseFieldDescriptor (TX2 k).2.2.1 = some (tyX2 k) := by decide +kernel
abbrev cX2_init : ByteArray := prog_4_method_1_code
def yX2_init : MethodName := ⟨RX2, "<init>", "()V"⟩
abbrev cX2_leastScore : ByteArray := prog_4_method_2_code
def yX2_leastScore : MethodName := ⟨RX2, "leastScore", "(LChordFolds$Strand;)I"⟩
abbrev cX2_leastWays : ByteArray := prog_4_method_3_code
def yX2_leastWays : MethodName := ⟨RX2, "leastWays", "(LChordFolds$Strand;)J"⟩
abbrev cX2_weighAll : ByteArray := prog_4_method_4_code
def yX2_weighAll : MethodName := ⟨RX2, "weighAll", "(LChordFolds$Strand;)V"⟩
abbrev cX2_weigh : ByteArray := prog_4_method_5_code
def yX2_weigh : MethodName := ⟨RX2, "weigh", "(LChordFolds$Strand;II)V"⟩
abbrev cX2_scoreWith : ByteArray := prog_4_method_6_code
def yX2_scoreWith : MethodName := ⟨RX2, "scoreWith", "(LChordFolds$Strand;III)I"⟩
abbrev cX2_offer : ByteArray := prog_4_method_7_code
def yX2_offer : MethodName := ⟨RX2, "offer", "(IJ)V"⟩
abbrev cX2_keepLoose : ByteArray := prog_4_method_8_code
def yX2_keepLoose : MethodName := ⟨RX2, "keepLoose", "(II)V"⟩
abbrev cX2_keepBound : ByteArray := prog_4_method_9_code
def yX2_keepBound : MethodName := ⟨RX2, "keepBound", "(II)V"⟩
abbrev cX2_countAll : ByteArray := prog_4_method_10_code
def yX2_countAll : MethodName := ⟨RX2, "countAll", "(LChordFolds$Strand;)J"⟩
abbrev cX2_drawFirst : ByteArray := prog_4_method_11_code
def yX2_drawFirst : MethodName := ⟨RX2, "drawFirst", "(LChordFolds$Strand;LChordFolds$Drawing;)V"⟩
abbrev cX2_startStretch : ByteArray := prog_4_method_12_code
def yX2_startStretch : MethodName := ⟨RX2, "startStretch", "(IIZ)V"⟩
abbrev cX2_firstMate : ByteArray := prog_4_method_13_code
def yX2_firstMate : MethodName := ⟨RX2, "firstMate", "(LChordFolds$Strand;IIZ)I"⟩
def RX3 : String := "ChordFolds$SignRow"
def TX3 : u_T := fun k => match k with
  | 0 => ("ChordFolds$SignRow", "length", "I", false)
  | 1 => ("ChordFolds$SignRow", "open", "I", false)
  | 2 => ("ChordFolds$SignRow", "beginnings", "[I", true)
  | _ => ("ChordFolds$SignRow", "beginningOf", "[I", true)
def tyX3 : Nat → FieldType := fun k => match k with
  | 0 => .int
  | 1 => .int
  | 2 => .array .int
  | _ => .array .int
abbrev wsX30 : List Cond := u_ws RX3 TX3 4
theorem nmX3 : ∀ a, a < 4 → ∀ b, b < 4 → a ≠ b → (TX3 a).2.1 ≠ (TX3 b).2.1 := by decide +kernel
theorem tyX3_ok : ∀ k, k < 4 → parseFieldDescriptor (TX3 k).2.2.1 = some (tyX3 k) := by decide +kernel
abbrev cX3_init : ByteArray := prog_5_method_1_code
def yX3_init : MethodName := ⟨RX3, "<init>", "()V"⟩
abbrev cX3_canTake : ByteArray := prog_5_method_2_code
def yX3_canTake : MethodName := ⟨RX3, "canTake", "(I)Z"⟩
abbrev cX3_take : ByteArray := prog_5_method_3_code
def yX3_take : MethodName := ⟨RX3, "take", "(I)V"⟩
abbrev cX3_moveTo : ByteArray := prog_5_method_4_code
def yX3_moveTo : MethodName := ⟨RX3, "moveTo", "(LChordFolds$Drawing;)V"⟩
def RX4 : String := "ChordFolds$Strand"
def TX4 : u_T := fun k => match k with
  | 0 => ("ChordFolds$Strand", "length", "I", false)
  | 1 => ("ChordFolds$Strand", "gap", "I", false)
  | 2 => ("ChordFolds$Strand", "bonus", "I", false)
  | 3 => ("ChordFolds$Strand", "scores", "[[I", true)
  | _ => ("ChordFolds$Strand", "letters", "[I", true)
def tyX4 : Nat → FieldType := fun k => match k with
  | 0 => .int
  | 1 => .int
  | 2 => .int
  | 3 => .array (.array .int)
  | _ => .array .int
abbrev wsX40 : List Cond := u_ws RX4 TX4 5
theorem nmX4 : ∀ a, a < 5 → ∀ b, b < 5 → a ≠ b → (TX4 a).2.1 ≠ (TX4 b).2.1 := by decide +kernel
theorem tyX4_ok : ∀ k, k < 5 → parseFieldDescriptor (TX4 k).2.2.1 = some (tyX4 k) := by decide +kernel
abbrev cX4_init : ByteArray := prog_6_method_1_code
def yX4_init : MethodName := ⟨RX4, "<init>", "()V"⟩
abbrev cX4_isLetter : ByteArray := prog_6_method_2_code
def yX4_isLetter : MethodName := ⟨RX4, "isLetter", "(I)Z"⟩
abbrev cX4_append : ByteArray := prog_6_method_3_code
def yX4_append : MethodName := ⟨RX4, "append", "(I)V"⟩
abbrev cX4_scoreOf : ByteArray := prog_6_method_4_code
def yX4_scoreOf : MethodName := ⟨RX4, "scoreOf", "(II)I"⟩
abbrev cX4_mayJoin : ByteArray := prog_6_method_5_code
def yX4_mayJoin : MethodName := ⟨RX4, "mayJoin", "(II)Z"⟩
abbrev cX4_isFold : ByteArray := prog_6_method_6_code
def yX4_isFold : MethodName := ⟨RX4, "isFold", "(LChordFolds$Drawing;)Z"⟩
abbrev cX4_scoreOfFold : ByteArray := prog_6_method_7_code
def yX4_scoreOfFold : MethodName := ⟨RX4, "scoreOfFold", "(LChordFolds$Drawing;)I"⟩
def RX5 : String := "ChordFolds"
def TX5 : u_T := fun k => match k with
  | 0 => ("ChordFolds", "drawing", "LChordFolds$Drawing;", true)
  | 1 => ("ChordFolds", "census", "LChordFolds$Census;", true)
  | 2 => ("ChordFolds", "signs", "LChordFolds$SignRow;", true)
  | 3 => ("ChordFolds", "strand", "LChordFolds$Strand;", true)
  | _ => ("ChordFolds", "folder", "LChordFolds$Folder;", true)
def tyX5 : Nat → FieldType := fun k => match k with
  | 0 => .object "ChordFolds$Drawing"
  | 1 => .object "ChordFolds$Census"
  | 2 => .object "ChordFolds$SignRow"
  | 3 => .object "ChordFolds$Strand"
  | _ => .object "ChordFolds$Folder"
abbrev wsX50 : List Cond := u_ws RX5 TX5 5
theorem nmX5 : ∀ a, a < 5 → ∀ b, b < 5 → a ≠ b → (TX5 a).2.1 ≠ (TX5 b).2.1 := by decide +kernel
theorem tyX5_ok : ∀ k, k < 5 → parseFieldDescriptor (TX5 k).2.2.1 = some (tyX5 k) := by decide +kernel
abbrev cX5_init : ByteArray := prog_1_method_1_code
def yX5_init : MethodName := ⟨RX5, "<init>", "()V"⟩
abbrev cX5_points : ByteArray := prog_1_method_2_code
def yX5_points : MethodName := ⟨RX5, "points", "(I)I"⟩
abbrev cX5_join : ByteArray := prog_1_method_3_code
def yX5_join : MethodName := ⟨RX5, "join", "(II)I"⟩
abbrev cX5_part : ByteArray := prog_1_method_4_code
def yX5_part : MethodName := ⟨RX5, "part", "(I)I"⟩
abbrev cX5_at : ByteArray := prog_1_method_5_code
def yX5_at : MethodName := ⟨RX5, "at", "(I)I"⟩
abbrev cX5_number : ByteArray := prog_1_method_6_code
def yX5_number : MethodName := ⟨RX5, "number", "(I)I"⟩
abbrev cX5_height : ByteArray := prog_1_method_7_code
def yX5_height : MethodName := ⟨RX5, "height", "(I)I"⟩
abbrev cX5_shape : ByteArray := prog_1_method_8_code
def yX5_shape : MethodName := ⟨RX5, "shape", "()I"⟩
abbrev cX5_mirror : ByteArray := prog_1_method_9_code
def yX5_mirror : MethodName := ⟨RX5, "mirror", "()I"⟩
abbrev cX5_many : ByteArray := prog_1_method_10_code
def yX5_many : MethodName := ⟨RX5, "many", "(III)J"⟩
abbrev cX5_row : ByteArray := prog_1_method_11_code
def yX5_row : MethodName := ⟨RX5, "row", "(IJ)I"⟩
abbrev cX5_place : ByteArray := prog_1_method_12_code
def yX5_place : MethodName := ⟨RX5, "place", "()J"⟩
abbrev cX5_worth : ByteArray := prog_1_method_13_code
def yX5_worth : MethodName := ⟨RX5, "worth", "(I)I"⟩
abbrev cX5_sign : ByteArray := prog_1_method_14_code
def yX5_sign : MethodName := ⟨RX5, "sign", "(I)I"⟩
abbrev cX5_draw : ByteArray := prog_1_method_15_code
def yX5_draw : MethodName := ⟨RX5, "draw", "()I"⟩
abbrev cX5_letter : ByteArray := prog_1_method_16_code
def yX5_letter : MethodName := ⟨RX5, "letter", "(I)I"⟩
abbrev cX5_wipe : ByteArray := prog_1_method_17_code
def yX5_wipe : MethodName := ⟨RX5, "wipe", "()I"⟩
abbrev cX5_score : ByteArray := prog_1_method_18_code
def yX5_score : MethodName := ⟨RX5, "score", "(III)I"⟩
abbrev cX5_set : ByteArray := prog_1_method_19_code
def yX5_set : MethodName := ⟨RX5, "set", "(II)I"⟩
abbrev cX5_best : ByteArray := prog_1_method_20_code
def yX5_best : MethodName := ⟨RX5, "best", "()I"⟩
abbrev cX5_folds : ByteArray := prog_1_method_21_code
def yX5_folds : MethodName := ⟨RX5, "folds", "(I)J"⟩
abbrev cX5_fold : ByteArray := prog_1_method_22_code
def yX5_fold : MethodName := ⟨RX5, "fold", "()I"⟩
abbrev cX5_judge : ByteArray := prog_1_method_23_code
def yX5_judge : MethodName := ⟨RX5, "judge", "()I"⟩
abbrev cX5_count : ByteArray := prog_1_method_24_code
def yX5_count : MethodName := ⟨RX5, "count", "(I)I"⟩
def RX6 : String := "ChordFoldsModel"
def TX6 : u_T := fun k => match k with
  | 0 => ("ChordFoldsModel", "l", "I", false)
  | 1 => ("ChordFoldsModel", "partner", "[I", true)
  | 2 => ("ChordFoldsModel", "signs", "I", false)
  | 3 => ("ChordFoldsModel", "sign", "[I", true)
  | 4 => ("ChordFoldsModel", "letters", "I", false)
  | 5 => ("ChordFoldsModel", "letter", "[I", true)
  | 6 => ("ChordFoldsModel", "scores", "[I", true)
  | 7 => ("ChordFoldsModel", "gap", "I", false)
  | 8 => ("ChordFoldsModel", "bonus", "I", false)
  | 9 => ("ChordFoldsModel", "run", "[I", true)
  | 10 => ("ChordFoldsModel", "other", "[I", true)
  | 11 => ("ChordFoldsModel", "byHandles", "[J", true)
  | 12 => ("ChordFoldsModel", "ways", "[J", true)
  | 13 => ("ChordFoldsModel", "before", "[J", true)
  | 14 => ("ChordFoldsModel", "least", "[I", true)
  | 15 => ("ChordFoldsModel", "bests", "[J", true)
  | 16 => ("ChordFoldsModel", "folds", "[J", true)
  | 17 => ("ChordFoldsModel", "from", "[I", true)
  | 18 => ("ChordFoldsModel", "to", "[I", true)
  | _ => ("ChordFoldsModel", "inside", "[I", true)
def tyX6 : Nat → FieldType := fun k => match k with
  | 0 => .int
  | 1 => .array .int
  | 2 => .int
  | 3 => .array .int
  | 4 => .int
  | 5 => .array .int
  | 6 => .array .int
  | 7 => .int
  | 8 => .int
  | 9 => .array .int
  | 10 => .array .int
  | 11 => .array .long
  | 12 => .array .long
  | 13 => .array .long
  | 14 => .array .int
  | 15 => .array .long
  | 16 => .array .long
  | 17 => .array .int
  | 18 => .array .int
  | _ => .array .int
abbrev wsX60 : List Cond := u_ws RX6 TX6 20
theorem nmX6 : ∀ a, a < 20 → ∀ b, b < 20 → a ≠ b → (TX6 a).2.1 ≠ (TX6 b).2.1 := by decide +kernel
theorem tyX6_ok : ∀ k, k < 20 → parseFieldDescriptor (TX6 k).2.2.1 = some (tyX6 k) := by decide +kernel
abbrev cX6_init : ByteArray := prog_8_method_1_code
def yX6_init : MethodName := ⟨RX6, "<init>", "()V"⟩
abbrev cX6_in : ByteArray := prog_8_method_2_code
def yX6_in : MethodName := ⟨RX6, "in", "(JJJ)Z"⟩
abbrev cX6_isPoint : ByteArray := prog_8_method_3_code
def yX6_isPoint : MethodName := ⟨RX6, "isPoint", "(I)Z"⟩
abbrev cX6_clear : ByteArray := prog_8_method_4_code
def yX6_clear : MethodName := ⟨RX6, "clear", "(I)V"⟩
abbrev cX6_tie : ByteArray := prog_8_method_5_code
def yX6_tie : MethodName := ⟨RX6, "tie", "(II)V"⟩
abbrev cX6_points : ByteArray := prog_8_method_6_code
def yX6_points : MethodName := ⟨RX6, "points", "(I)I"⟩
abbrev cX6_begins : ByteArray := prog_8_method_7_code
def yX6_begins : MethodName := ⟨RX6, "begins", "(I)Z"⟩
abbrev cX6_chords : ByteArray := prog_8_method_8_code
def yX6_chords : MethodName := ⟨RX6, "chords", "()I"⟩
abbrev cX6_join : ByteArray := prog_8_method_9_code
def yX6_join : MethodName := ⟨RX6, "join", "(II)I"⟩
abbrev cX6_part : ByteArray := prog_8_method_10_code
def yX6_part : MethodName := ⟨RX6, "part", "(I)I"⟩
abbrev cX6_at : ByteArray := prog_8_method_11_code
def yX6_at : MethodName := ⟨RX6, "at", "(I)I"⟩
abbrev cX6_nextJoined : ByteArray := prog_8_method_12_code
def yX6_nextJoined : MethodName := ⟨RX6, "nextJoined", "(I)I"⟩
abbrev cX6_handles : ByteArray := prog_8_method_13_code
def yX6_handles : MethodName := ⟨RX6, "handles", "()I"⟩
abbrev cX6_pairs : ByteArray := prog_8_method_14_code
def yX6_pairs : MethodName := ⟨RX6, "pairs", "(Z)I"⟩
abbrev cX6_parts : ByteArray := prog_8_method_15_code
def yX6_parts : MethodName := ⟨RX6, "parts", "()I"⟩
abbrev cX6_tangleFrom : ByteArray := prog_8_method_16_code
def yX6_tangleFrom : MethodName := ⟨RX6, "tangleFrom", "(I)I"⟩
abbrev cX6_tangle : ByteArray := prog_8_method_17_code
def yX6_tangle : MethodName := ⟨RX6, "tangle", "()I"⟩
abbrev cX6_nest : ByteArray := prog_8_method_18_code
def yX6_nest : MethodName := ⟨RX6, "nest", "()I"⟩
abbrev cX6_shortest : ByteArray := prog_8_method_19_code
def yX6_shortest : MethodName := ⟨RX6, "shortest", "()I"⟩
abbrev cX6_isInner : ByteArray := prog_8_method_20_code
def yX6_isInner : MethodName := ⟨RX6, "isInner", "(I)Z"⟩
abbrev cX6_stacks : ByteArray := prog_8_method_21_code
def yX6_stacks : MethodName := ⟨RX6, "stacks", "()I"⟩
abbrev cX6_number : ByteArray := prog_8_method_22_code
def yX6_number : MethodName := ⟨RX6, "number", "(I)I"⟩
abbrev cX6_heightOf : ByteArray := prog_8_method_23_code
def yX6_heightOf : MethodName := ⟨RX6, "heightOf", "(I)I"⟩
abbrev cX6_height : ByteArray := prog_8_method_24_code
def yX6_height : MethodName := ⟨RX6, "height", "(I)I"⟩
abbrev cX6_remove : ByteArray := prog_8_method_25_code
def yX6_remove : MethodName := ⟨RX6, "remove", "(I)V"⟩
abbrev cX6_firstAlone : ByteArray := prog_8_method_26_code
def yX6_firstAlone : MethodName := ⟨RX6, "firstAlone", "()I"⟩
abbrev cX6_firstInner : ByteArray := prog_8_method_27_code
def yX6_firstInner : MethodName := ⟨RX6, "firstInner", "()I"⟩
abbrev cX6_shape : ByteArray := prog_8_method_28_code
def yX6_shape : MethodName := ⟨RX6, "shape", "()I"⟩
abbrev cX6_mirror : ByteArray := prog_8_method_29_code
def yX6_mirror : MethodName := ⟨RX6, "mirror", "()I"⟩
abbrev cX6_layHandles : ByteArray := prog_8_method_30_code
def yX6_layHandles : MethodName := ⟨RX6, "layHandles", "()V"⟩
abbrev cX6_layCrossings : ByteArray := prog_8_method_31_code
def yX6_layCrossings : MethodName := ⟨RX6, "layCrossings", "(I)V"⟩
abbrev cX6_many : ByteArray := prog_8_method_32_code
def yX6_many : MethodName := ⟨RX6, "many", "(III)J"⟩
abbrev cX6_allOf : ByteArray := prog_8_method_33_code
def yX6_allOf : MethodName := ⟨RX6, "allOf", "(I)J"⟩
abbrev cX6_row : ByteArray := prog_8_method_34_code
def yX6_row : MethodName := ⟨RX6, "row", "(IJ)I"⟩
abbrev cX6_isFull : ByteArray := prog_8_method_35_code
def yX6_isFull : MethodName := ⟨RX6, "isFull", "()Z"⟩
abbrev cX6_place : ByteArray := prog_8_method_36_code
def yX6_place : MethodName := ⟨RX6, "place", "()J"⟩
abbrev cX6_worth : ByteArray := prog_8_method_37_code
def yX6_worth : MethodName := ⟨RX6, "worth", "(I)I"⟩
abbrev cX6_open : ByteArray := prog_8_method_38_code
def yX6_open : MethodName := ⟨RX6, "open", "()I"⟩
abbrev cX6_sign : ByteArray := prog_8_method_39_code
def yX6_sign : MethodName := ⟨RX6, "sign", "(I)I"⟩
abbrev cX6_draw : ByteArray := prog_8_method_40_code
def yX6_draw : MethodName := ⟨RX6, "draw", "()I"⟩
abbrev cX6_letter : ByteArray := prog_8_method_41_code
def yX6_letter : MethodName := ⟨RX6, "letter", "(I)I"⟩
abbrev cX6_wipe : ByteArray := prog_8_method_42_code
def yX6_wipe : MethodName := ⟨RX6, "wipe", "()I"⟩
abbrev cX6_score : ByteArray := prog_8_method_43_code
def yX6_score : MethodName := ⟨RX6, "score", "(III)I"⟩
abbrev cX6_set : ByteArray := prog_8_method_44_code
def yX6_set : MethodName := ⟨RX6, "set", "(II)I"⟩
abbrev cX6_mayJoin : ByteArray := prog_8_method_45_code
def yX6_mayJoin : MethodName := ⟨RX6, "mayJoin", "(II)Z"⟩
abbrev cX6_cellAt : ByteArray := prog_8_method_46_code
def yX6_cellAt : MethodName := ⟨RX6, "cellAt", "(III)I"⟩
abbrev cX6_withChord : ByteArray := prog_8_method_47_code
def yX6_withChord : MethodName := ⟨RX6, "withChord", "(IIII)I"⟩
abbrev cX6_layStretch : ByteArray := prog_8_method_48_code
def yX6_layStretch : MethodName := ⟨RX6, "layStretch", "(III)V"⟩
abbrev cX6_layAll : ByteArray := prog_8_method_49_code
def yX6_layAll : MethodName := ⟨RX6, "layAll", "()V"⟩
abbrev cX6_best : ByteArray := prog_8_method_50_code
def yX6_best : MethodName := ⟨RX6, "best", "()I"⟩
abbrev cX6_folds : ByteArray := prog_8_method_51_code
def yX6_folds : MethodName := ⟨RX6, "folds", "(I)J"⟩
abbrev cX6_fold : ByteArray := prog_8_method_52_code
def yX6_fold : MethodName := ⟨RX6, "fold", "()I"⟩
abbrev cX6_judge : ByteArray := prog_8_method_53_code
def yX6_judge : MethodName := ⟨RX6, "judge", "()I"⟩
abbrev cX6_count : ByteArray := prog_8_method_54_code
def yX6_count : MethodName := ⟨RX6, "count", "(I)I"⟩
def RJ9 : String := "java/lang/Math"
abbrev cJ9_max_7cf53 : ByteArray := prog_9_method_65_code
def yJ9_max_7cf53 : MethodName := ⟨RJ9, "max", "(II)I"⟩
abbrev cJ9_min_7cf53 : ByteArray := prog_9_method_69_code
def yJ9_min_7cf53 : MethodName := ⟨RJ9, "min", "(II)I"⟩
def RJ10 : String := "java/lang/System"
def RJ7 : String := "java/util/Arrays"
abbrev cJ7_fill_53178 : ByteArray := prog_11_method_103_code
def yJ7_fill_53178 : MethodName := ⟨RJ7, "fill", "([II)V"⟩
def RL : String := "ChordFoldsLaw"
abbrev cL_law : ByteArray := code
def yL_law : MethodName := ⟨RL, "law", "([I)Z"⟩
