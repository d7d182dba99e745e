-- ===== PART A: goes FIRST, ahead of the names: the tables' words, and 'selects' of the private methods out of them =====
/-- a private method of a class that the tables say can be made, by its rows of tables_1 -/
def lw_okq (q : MethodName × Nat) : Prop := (q.1.cls ≠ "java/lang/invoke/MethodHandle" ∧ q.1.cls ≠ "java/lang/invoke/VarHandle") ∧ Cond.instantiable q.1.cls q.2 ∈ tables_1 ∧ Cond.privateMethod q.1 ∈ tables_1 ∧ Cond.instanceMethod q.1 ∈ tables_1
theorem lw_p0 : lw_okq (⟨"CountTriangles$Falls", "waysByNext", "(III)I"⟩, 1) := ⟨⟨by decide +kernel, by decide +kernel⟩, List.mem_of_getElem? (i := 82) (by decide +kernel), List.mem_of_getElem? (i := 88) (by decide +kernel), List.mem_of_getElem? (i := 89) (by decide +kernel)⟩
theorem lw_p1 : lw_okq (⟨"CountTriangles$LesserPairs", "waysByNext", "(II)I"⟩, 1) := ⟨⟨by decide +kernel, by decide +kernel⟩, List.mem_of_getElem? (i := 101) (by decide +kernel), List.mem_of_getElem? (i := 107) (by decide +kernel), List.mem_of_getElem? (i := 108) (by decide +kernel)⟩
theorem lw_p2 : lw_okq (⟨"CountTriangles$Text", "numberEnd", "(I)I"⟩, 2) := ⟨⟨by decide +kernel, by decide +kernel⟩, List.mem_of_getElem? (i := 27) (by decide +kernel), List.mem_of_getElem? (i := 254) (by decide +kernel), List.mem_of_getElem? (i := 255) (by decide +kernel)⟩
theorem lw_p3 : lw_okq (⟨"CountTriangles$Law", "takeItem", "(LCountTriangles$Text;I)V"⟩, 7) := ⟨⟨by decide +kernel, by decide +kernel⟩, List.mem_of_getElem? (i := 154) (by decide +kernel), List.mem_of_getElem? (i := 274) (by decide +kernel), List.mem_of_getElem? (i := 275) (by decide +kernel)⟩
theorem lw_p4 : lw_okq (⟨"CountTriangles$Law", "fillNumbers", "()V"⟩, 7) := ⟨⟨by decide +kernel, by decide +kernel⟩, List.mem_of_getElem? (i := 154) (by decide +kernel), List.mem_of_getElem? (i := 287) (by decide +kernel), List.mem_of_getElem? (i := 288) (by decide +kernel)⟩
theorem lw_p5 : lw_okq (⟨"CountTriangles$Law", "madeOfAbove", "(II)J"⟩, 7) := ⟨⟨by decide +kernel, by decide +kernel⟩, List.mem_of_getElem? (i := 154) (by decide +kernel), List.mem_of_getElem? (i := 291) (by decide +kernel), List.mem_of_getElem? (i := 292) (by decide +kernel)⟩
theorem lw_p6 : lw_okq (⟨"CountTriangles$Law", "endsInOnes", "(I)Z"⟩, 7) := ⟨⟨by decide +kernel, by decide +kernel⟩, List.mem_of_getElem? (i := 154) (by decide +kernel), List.mem_of_getElem? (i := 417) (by decide +kernel), List.mem_of_getElem? (i := 418) (by decide +kernel)⟩
theorem lw_p7 : lw_okq (⟨"CountTriangles$Law", "columnSum", "(II)J"⟩, 7) := ⟨⟨by decide +kernel, by decide +kernel⟩, List.mem_of_getElem? (i := 154) (by decide +kernel), List.mem_of_getElem? (i := 422) (by decide +kernel), List.mem_of_getElem? (i := 423) (by decide +kernel)⟩
theorem lw_p8 : lw_okq (⟨"CountTriangles$Partings", "waysFrom", "(II)I"⟩, 1) := ⟨⟨by decide +kernel, by decide +kernel⟩, List.mem_of_getElem? (i := 43) (by decide +kernel), List.mem_of_getElem? (i := 434) (by decide +kernel), List.mem_of_getElem? (i := 435) (by decide +kernel)⟩
theorem lw_p9 : lw_okq (⟨"CountTriangles$LongestRise", "fillTable", "()V"⟩, 2) := ⟨⟨by decide +kernel, by decide +kernel⟩, List.mem_of_getElem? (i := 130) (by decide +kernel), List.mem_of_getElem? (i := 517) (by decide +kernel), List.mem_of_getElem? (i := 518) (by decide +kernel)⟩
theorem lw_p10 : lw_okq (⟨"CountTriangles$LongestRise", "waysByNext", "(II)I"⟩, 2) := ⟨⟨by decide +kernel, by decide +kernel⟩, List.mem_of_getElem? (i := 130) (by decide +kernel), List.mem_of_getElem? (i := 521) (by decide +kernel), List.mem_of_getElem? (i := 522) (by decide +kernel)⟩
theorem lw_p11 : lw_okq (⟨"CountTriangles$Orders", "packed", "(I)I"⟩, 3) := ⟨⟨by decide +kernel, by decide +kernel⟩, List.mem_of_getElem? (i := 54) (by decide +kernel), List.mem_of_getElem? (i := 576) (by decide +kernel), List.mem_of_getElem? (i := 577) (by decide +kernel)⟩
theorem lw_p12 : lw_okq (⟨"CountTriangles", "isOrder", "(II)Z"⟩, 5) := ⟨⟨by decide +kernel, by decide +kernel⟩, List.mem_of_getElem? (i := 19) (by decide +kernel), List.mem_of_getElem? (i := 584) (by decide +kernel), List.mem_of_getElem? (i := 585) (by decide +kernel)⟩
theorem lw_p13 : lw_okq (⟨"CountTriangles$Orders", "lesserLater", "(II)I"⟩, 3) := ⟨⟨by decide +kernel, by decide +kernel⟩, List.mem_of_getElem? (i := 54) (by decide +kernel), List.mem_of_getElem? (i := 601) (by decide +kernel), List.mem_of_getElem? (i := 602) (by decide +kernel)⟩
theorem lw_p14 : lw_okq (⟨"CountTriangles$Polynomial", "findTurned", "(I)Z"⟩, 3) := ⟨⟨by decide +kernel, by decide +kernel⟩, List.mem_of_getElem? (i := 182) (by decide +kernel), List.mem_of_getElem? (i := 683) (by decide +kernel), List.mem_of_getElem? (i := 684) (by decide +kernel)⟩
theorem lw_p15 : lw_okq (⟨"CountTriangles$Polynomial", "choicesAreWholeFalling", "()Z"⟩, 3) := ⟨⟨by decide +kernel, by decide +kernel⟩, List.mem_of_getElem? (i := 182) (by decide +kernel), List.mem_of_getElem? (i := 690) (by decide +kernel), List.mem_of_getElem? (i := 691) (by decide +kernel)⟩
def lw_privs_1 : List (MethodName × Nat) := [(⟨"CountTriangles$Falls", "waysByNext", "(III)I"⟩, 1), (⟨"CountTriangles$LesserPairs", "waysByNext", "(II)I"⟩, 1), (⟨"CountTriangles$Text", "numberEnd", "(I)I"⟩, 2), (⟨"CountTriangles$Law", "takeItem", "(LCountTriangles$Text;I)V"⟩, 7), (⟨"CountTriangles$Law", "fillNumbers", "()V"⟩, 7), (⟨"CountTriangles$Law", "madeOfAbove", "(II)J"⟩, 7), (⟨"CountTriangles$Law", "endsInOnes", "(I)Z"⟩, 7), (⟨"CountTriangles$Law", "columnSum", "(II)J"⟩, 7), (⟨"CountTriangles$Partings", "waysFrom", "(II)I"⟩, 1), (⟨"CountTriangles$LongestRise", "fillTable", "()V"⟩, 2), (⟨"CountTriangles$LongestRise", "waysByNext", "(II)I"⟩, 2), (⟨"CountTriangles$Orders", "packed", "(I)I"⟩, 3), (⟨"CountTriangles", "isOrder", "(II)Z"⟩, 5), (⟨"CountTriangles$Orders", "lesserLater", "(II)I"⟩, 3), (⟨"CountTriangles$Polynomial", "findTurned", "(I)Z"⟩, 3), (⟨"CountTriangles$Polynomial", "choicesAreWholeFalling", "()Z"⟩, 3)]
theorem lw_r1 : ∀ q ∈ lw_privs_1, lw_okq q := List.forall_mem_cons.mpr ⟨lw_p0, List.forall_mem_cons.mpr ⟨lw_p1, List.forall_mem_cons.mpr ⟨lw_p2, List.forall_mem_cons.mpr ⟨lw_p3, List.forall_mem_cons.mpr ⟨lw_p4, List.forall_mem_cons.mpr ⟨lw_p5, List.forall_mem_cons.mpr ⟨lw_p6, List.forall_mem_cons.mpr ⟨lw_p7, List.forall_mem_cons.mpr ⟨lw_p8, List.forall_mem_cons.mpr ⟨lw_p9, List.forall_mem_cons.mpr ⟨lw_p10, List.forall_mem_cons.mpr ⟨lw_p11, List.forall_mem_cons.mpr ⟨lw_p12, List.forall_mem_cons.mpr ⟨lw_p13, List.forall_mem_cons.mpr ⟨lw_p14, List.forall_mem_cons.mpr ⟨lw_p15, fun _ h => absurd h List.not_mem_nil⟩⟩⟩⟩⟩⟩⟩⟩⟩⟩⟩⟩⟩⟩⟩⟩
theorem lw_p16 : lw_okq (⟨"CountTriangles$Polynomial", "multiplyRoom", "(II)V"⟩, 3) := ⟨⟨by decide +kernel, by decide +kernel⟩, List.mem_of_getElem? (i := 182) (by decide +kernel), List.mem_of_getElem? (i := 698) (by decide +kernel), List.mem_of_getElem? (i := 699) (by decide +kernel)⟩
theorem lw_p17 : lw_okq (⟨"CountTriangles$Polynomial", "roomMayStand", "(I)Z"⟩, 3) := ⟨⟨by decide +kernel, by decide +kernel⟩, List.mem_of_getElem? (i := 182) (by decide +kernel), List.mem_of_getElem? (i := 702) (by decide +kernel), List.mem_of_getElem? (i := 703) (by decide +kernel)⟩
theorem lw_p18 : lw_okq (⟨"CountTriangles", "itemsOfLaws", "()I"⟩, 5) := ⟨⟨by decide +kernel, by decide +kernel⟩, List.mem_of_getElem? (i := 19) (by decide +kernel), List.mem_of_getElem? (i := 738) (by decide +kernel), List.mem_of_getElem? (i := 739) (by decide +kernel)⟩
theorem lw_p19 : lw_okq (⟨"CountTriangles", "coefficientsInUse", "()I"⟩, 5) := ⟨⟨by decide +kernel, by decide +kernel⟩, List.mem_of_getElem? (i := 19) (by decide +kernel), List.mem_of_getElem? (i := 742) (by decide +kernel), List.mem_of_getElem? (i := 743) (by decide +kernel)⟩
theorem lw_p20 : lw_okq (⟨"CountTrianglesModel", "isRead", "()Z"⟩, 21) := ⟨⟨by decide +kernel, by decide +kernel⟩, List.mem_of_getElem? (i := 750) (by decide +kernel), List.mem_of_getElem? (i := 838) (by decide +kernel), List.mem_of_getElem? (i := 839) (by decide +kernel)⟩
theorem lw_p21 : lw_okq (⟨"CountTrianglesModel", "isItem", "()Z"⟩, 21) := ⟨⟨by decide +kernel, by decide +kernel⟩, List.mem_of_getElem? (i := 750) (by decide +kernel), List.mem_of_getElem? (i := 842) (by decide +kernel), List.mem_of_getElem? (i := 843) (by decide +kernel)⟩
theorem lw_p22 : lw_okq (⟨"CountTrianglesModel", "byteNow", "()I"⟩, 21) := ⟨⟨by decide +kernel, by decide +kernel⟩, List.mem_of_getElem? (i := 750) (by decide +kernel), List.mem_of_getElem? (i := 846) (by decide +kernel), List.mem_of_getElem? (i := 847) (by decide +kernel)⟩
theorem lw_p23 : lw_okq (⟨"CountTrianglesModel", "isNumber", "(II)Z"⟩, 21) := ⟨⟨by decide +kernel, by decide +kernel⟩, List.mem_of_getElem? (i := 750) (by decide +kernel), List.mem_of_getElem? (i := 850) (by decide +kernel), List.mem_of_getElem? (i := 851) (by decide +kernel)⟩
theorem lw_p24 : lw_okq (⟨"CountTrianglesModel", "findRows", "(III)V"⟩, 21) := ⟨⟨by decide +kernel, by decide +kernel⟩, List.mem_of_getElem? (i := 750) (by decide +kernel), List.mem_of_getElem? (i := 869) (by decide +kernel), List.mem_of_getElem? (i := 870) (by decide +kernel)⟩
theorem lw_p25 : lw_okq (⟨"CountTrianglesModel", "comes", "(IIII)I"⟩, 21) := ⟨⟨by decide +kernel, by decide +kernel⟩, List.mem_of_getElem? (i := 750) (by decide +kernel), List.mem_of_getElem? (i := 876) (by decide +kernel), List.mem_of_getElem? (i := 877) (by decide +kernel)⟩
theorem lw_p26 : lw_okq (⟨"CountTrianglesModel", "product", "(II)J"⟩, 21) := ⟨⟨by decide +kernel, by decide +kernel⟩, List.mem_of_getElem? (i := 750) (by decide +kernel), List.mem_of_getElem? (i := 912) (by decide +kernel), List.mem_of_getElem? (i := 913) (by decide +kernel)⟩
theorem lw_p27 : lw_okq (⟨"CountTrianglesModel", "partsOf", "(I)I"⟩, 21) := ⟨⟨by decide +kernel, by decide +kernel⟩, List.mem_of_getElem? (i := 750) (by decide +kernel), List.mem_of_getElem? (i := 931) (by decide +kernel), List.mem_of_getElem? (i := 932) (by decide +kernel)⟩
theorem lw_p28 : lw_okq (⟨"CountTrianglesModel", "packed", "(I)I"⟩, 21) := ⟨⟨by decide +kernel, by decide +kernel⟩, List.mem_of_getElem? (i := 750) (by decide +kernel), List.mem_of_getElem? (i := 935) (by decide +kernel), List.mem_of_getElem? (i := 936) (by decide +kernel)⟩
theorem lw_p29 : lw_okq (⟨"CountTrianglesModel", "turnParting", "(I)Z"⟩, 21) := ⟨⟨by decide +kernel, by decide +kernel⟩, List.mem_of_getElem? (i := 750) (by decide +kernel), List.mem_of_getElem? (i := 939) (by decide +kernel), List.mem_of_getElem? (i := 940) (by decide +kernel)⟩
theorem lw_p30 : lw_okq (⟨"CountTrianglesModel", "unpack", "(II)Z"⟩, 21) := ⟨⟨by decide +kernel, by decide +kernel⟩, List.mem_of_getElem? (i := 750) (by decide +kernel), List.mem_of_getElem? (i := 947) (by decide +kernel), List.mem_of_getElem? (i := 948) (by decide +kernel)⟩
theorem lw_p31 : lw_okq (⟨"CountTrianglesModel", "beginOrder", "(I)V"⟩, 21) := ⟨⟨by decide +kernel, by decide +kernel⟩, List.mem_of_getElem? (i := 750) (by decide +kernel), List.mem_of_getElem? (i := 957) (by decide +kernel), List.mem_of_getElem? (i := 958) (by decide +kernel)⟩
def lw_privs_2 : List (MethodName × Nat) := [(⟨"CountTriangles$Polynomial", "multiplyRoom", "(II)V"⟩, 3), (⟨"CountTriangles$Polynomial", "roomMayStand", "(I)Z"⟩, 3), (⟨"CountTriangles", "itemsOfLaws", "()I"⟩, 5), (⟨"CountTriangles", "coefficientsInUse", "()I"⟩, 5), (⟨"CountTrianglesModel", "isRead", "()Z"⟩, 21), (⟨"CountTrianglesModel", "isItem", "()Z"⟩, 21), (⟨"CountTrianglesModel", "byteNow", "()I"⟩, 21), (⟨"CountTrianglesModel", "isNumber", "(II)Z"⟩, 21), (⟨"CountTrianglesModel", "findRows", "(III)V"⟩, 21), (⟨"CountTrianglesModel", "comes", "(IIII)I"⟩, 21), (⟨"CountTrianglesModel", "product", "(II)J"⟩, 21), (⟨"CountTrianglesModel", "partsOf", "(I)I"⟩, 21), (⟨"CountTrianglesModel", "packed", "(I)I"⟩, 21), (⟨"CountTrianglesModel", "turnParting", "(I)Z"⟩, 21), (⟨"CountTrianglesModel", "unpack", "(II)Z"⟩, 21), (⟨"CountTrianglesModel", "beginOrder", "(I)V"⟩, 21)]
theorem lw_r2 : ∀ q ∈ lw_privs_2, lw_okq q := List.forall_mem_cons.mpr ⟨lw_p16, List.forall_mem_cons.mpr ⟨lw_p17, List.forall_mem_cons.mpr ⟨lw_p18, List.forall_mem_cons.mpr ⟨lw_p19, List.forall_mem_cons.mpr ⟨lw_p20, List.forall_mem_cons.mpr ⟨lw_p21, List.forall_mem_cons.mpr ⟨lw_p22, List.forall_mem_cons.mpr ⟨lw_p23, List.forall_mem_cons.mpr ⟨lw_p24, List.forall_mem_cons.mpr ⟨lw_p25, List.forall_mem_cons.mpr ⟨lw_p26, List.forall_mem_cons.mpr ⟨lw_p27, List.forall_mem_cons.mpr ⟨lw_p28, List.forall_mem_cons.mpr ⟨lw_p29, List.forall_mem_cons.mpr ⟨lw_p30, List.forall_mem_cons.mpr ⟨lw_p31, fun _ h => absurd h List.not_mem_nil⟩⟩⟩⟩⟩⟩⟩⟩⟩⟩⟩⟩⟩⟩⟩⟩
theorem lw_p32 : lw_okq (⟨"CountTrianglesModel", "markOf", "(II)I"⟩, 21) := ⟨⟨by decide +kernel, by decide +kernel⟩, List.mem_of_getElem? (i := 750) (by decide +kernel), List.mem_of_getElem? (i := 961) (by decide +kernel), List.mem_of_getElem? (i := 962) (by decide +kernel)⟩
theorem lw_p33 : lw_okq (⟨"CountTrianglesModel", "rings", "(I)I"⟩, 21) := ⟨⟨by decide +kernel, by decide +kernel⟩, List.mem_of_getElem? (i := 750) (by decide +kernel), List.mem_of_getElem? (i := 965) (by decide +kernel), List.mem_of_getElem? (i := 966) (by decide +kernel)⟩
theorem lw_p34 : lw_okq (⟨"CountTrianglesModel", "turnOrder", "(I)Z"⟩, 21) := ⟨⟨by decide +kernel, by decide +kernel⟩, List.mem_of_getElem? (i := 750) (by decide +kernel), List.mem_of_getElem? (i := 969) (by decide +kernel), List.mem_of_getElem? (i := 970) (by decide +kernel)⟩
theorem lw_p35 : lw_okq (⟨"CountTrianglesModel", "takeOrder", "(II)Z"⟩, 21) := ⟨⟨by decide +kernel, by decide +kernel⟩, List.mem_of_getElem? (i := 750) (by decide +kernel), List.mem_of_getElem? (i := 977) (by decide +kernel), List.mem_of_getElem? (i := 978) (by decide +kernel)⟩
theorem lw_p36 : lw_okq (⟨"CountTrianglesModel", "isOrder", "(I)Z"⟩, 21) := ⟨⟨by decide +kernel, by decide +kernel⟩, List.mem_of_getElem? (i := 750) (by decide +kernel), List.mem_of_getElem? (i := 981) (by decide +kernel), List.mem_of_getElem? (i := 982) (by decide +kernel)⟩
theorem lw_p37 : lw_okq (⟨"CountTrianglesModel", "degree", "(I)I"⟩, 21) := ⟨⟨by decide +kernel, by decide +kernel⟩, List.mem_of_getElem? (i := 750) (by decide +kernel), List.mem_of_getElem? (i := 1018) (by decide +kernel), List.mem_of_getElem? (i := 1019) (by decide +kernel)⟩
theorem lw_p38 : lw_okq (⟨"CountTrianglesModel", "areMade", "(II)Z"⟩, 21) := ⟨⟨by decide +kernel, by decide +kernel⟩, List.mem_of_getElem? (i := 750) (by decide +kernel), List.mem_of_getElem? (i := 1026) (by decide +kernel), List.mem_of_getElem? (i := 1027) (by decide +kernel)⟩
theorem lw_p39 : lw_okq (⟨"CountTrianglesModel", "findFalling", "(I)V"⟩, 21) := ⟨⟨by decide +kernel, by decide +kernel⟩, List.mem_of_getElem? (i := 750) (by decide +kernel), List.mem_of_getElem? (i := 1030) (by decide +kernel), List.mem_of_getElem? (i := 1031) (by decide +kernel)⟩
theorem lw_p40 : lw_okq (⟨"CountTrianglesModel", "clearMade", "()V"⟩, 21) := ⟨⟨by decide +kernel, by decide +kernel⟩, List.mem_of_getElem? (i := 750) (by decide +kernel), List.mem_of_getElem? (i := 1038) (by decide +kernel), List.mem_of_getElem? (i := 1039) (by decide +kernel)⟩
theorem lw_p41 : lw_okq (⟨"CountTrianglesModel", "timesInFalling", "(J)V"⟩, 21) := ⟨⟨by decide +kernel, by decide +kernel⟩, List.mem_of_getElem? (i := 750) (by decide +kernel), List.mem_of_getElem? (i := 1042) (by decide +kernel), List.mem_of_getElem? (i := 1043) (by decide +kernel)⟩
theorem lw_p42 : lw_okq (⟨"CountTrianglesModel", "timesIn", "(IJ)V"⟩, 21) := ⟨⟨by decide +kernel, by decide +kernel⟩, List.mem_of_getElem? (i := 750) (by decide +kernel), List.mem_of_getElem? (i := 1046) (by decide +kernel), List.mem_of_getElem? (i := 1047) (by decide +kernel)⟩
theorem lw_p43 : lw_okq (⟨"CountTrianglesModel", "valueAt", "(IJ)J"⟩, 21) := ⟨⟨by decide +kernel, by decide +kernel⟩, List.mem_of_getElem? (i := 750) (by decide +kernel), List.mem_of_getElem? (i := 1056) (by decide +kernel), List.mem_of_getElem? (i := 1057) (by decide +kernel)⟩
def lw_privs_3 : List (MethodName × Nat) := [(⟨"CountTrianglesModel", "markOf", "(II)I"⟩, 21), (⟨"CountTrianglesModel", "rings", "(I)I"⟩, 21), (⟨"CountTrianglesModel", "turnOrder", "(I)Z"⟩, 21), (⟨"CountTrianglesModel", "takeOrder", "(II)Z"⟩, 21), (⟨"CountTrianglesModel", "isOrder", "(I)Z"⟩, 21), (⟨"CountTrianglesModel", "degree", "(I)I"⟩, 21), (⟨"CountTrianglesModel", "areMade", "(II)Z"⟩, 21), (⟨"CountTrianglesModel", "findFalling", "(I)V"⟩, 21), (⟨"CountTrianglesModel", "clearMade", "()V"⟩, 21), (⟨"CountTrianglesModel", "timesInFalling", "(J)V"⟩, 21), (⟨"CountTrianglesModel", "timesIn", "(IJ)V"⟩, 21), (⟨"CountTrianglesModel", "valueAt", "(IJ)J"⟩, 21)]
theorem lw_r3 : ∀ q ∈ lw_privs_3, lw_okq q := List.forall_mem_cons.mpr ⟨lw_p32, List.forall_mem_cons.mpr ⟨lw_p33, List.forall_mem_cons.mpr ⟨lw_p34, List.forall_mem_cons.mpr ⟨lw_p35, List.forall_mem_cons.mpr ⟨lw_p36, List.forall_mem_cons.mpr ⟨lw_p37, List.forall_mem_cons.mpr ⟨lw_p38, List.forall_mem_cons.mpr ⟨lw_p39, List.forall_mem_cons.mpr ⟨lw_p40, List.forall_mem_cons.mpr ⟨lw_p41, List.forall_mem_cons.mpr ⟨lw_p42, List.forall_mem_cons.mpr ⟨lw_p43, fun _ h => absurd h List.not_mem_nil⟩⟩⟩⟩⟩⟩⟩⟩⟩⟩⟩⟩
def lw_privs : List (MethodName × Nat) := lw_privs_1 ++ (lw_privs_2 ++ (lw_privs_3))
def lw_tbl : List Cond := k2_sels lw_privs ++ tables_1
theorem lw_privs_ok : ∀ q ∈ lw_privs, lw_okq q := by
  show ∀ q ∈ lw_privs_1 ++ (lw_privs_2 ++ (lw_privs_3)), lw_okq q
  exact List.forall_mem_append.mpr ⟨lw_r1, List.forall_mem_append.mpr ⟨lw_r2, lw_r3⟩⟩
def RX0 : String := "CountTriangles$Falls"
def TX0 : u_T := fun k => match k with
  | _ => ("CountTriangles$Falls", "table", "[I", true)
def tyX0 : Nat → FieldType := fun k => match k with
  | _ => .array .int
abbrev wsX00 : List Cond := u_ws RX0 TX0 1
theorem nmX0 : ∀ a, a < 1 → ∀ b, b < 1 → a ≠ b → (TX0 a).2.1 ≠ (TX0 b).2.1 := by decide +kernel
theorem tyX0_ok : ∀ k, k < 1 → parseFieldDescriptor (TX0 k).2.2.1 = some (tyX0 k) := by decide +kernel
abbrev cX0_init : ByteArray := prog_2_method_1_code
def yX0_init : MethodName := ⟨RX0, "<init>", "()V"⟩
abbrev cX0_waysByNext : ByteArray := prog_2_method_2_code
def yX0_waysByNext : MethodName := ⟨RX0, "waysByNext", "(III)I"⟩
abbrev cX0_start : ByteArray := prog_2_method_3_code
def yX0_start : MethodName := ⟨RX0, "start", "(I)I"⟩
abbrev cX0_growth : ByteArray := prog_2_method_4_code
def yX0_growth : MethodName := ⟨RX0, "growth", "(III[II)I"⟩
abbrev cX0_next : ByteArray := prog_2_method_5_code
def yX0_next : MethodName := ⟨RX0, "next", "(III)I"⟩
abbrev cX0_ways : ByteArray := prog_2_method_6_code
def yX0_ways : MethodName := ⟨RX0, "ways", "(III)I"⟩
def RX1 : String := "CountTriangles$Heights"
def TX1 : u_T := fun k => match k with
  | _ => ("CountTriangles$Heights", "rings", "LCountTriangles$Rings;", true)
def tyX1 : Nat → FieldType := fun k => match k with
  | _ => .object "CountTriangles$Rings"
abbrev wsX10 : List Cond := u_ws RX1 TX1 1
theorem nmX1 : ∀ a, a < 1 → ∀ b, b < 1 → a ≠ b → (TX1 a).2.1 ≠ (TX1 b).2.1 := by decide +kernel
theorem tyX1_ok : ∀ k, k < 1 → parseFieldDescriptor (TX1 k).2.2.1 = some (tyX1 k) := by decide +kernel
abbrev cX1_init : ByteArray := prog_3_method_1_code
def yX1_init : MethodName := ⟨RX1, "<init>", "(LCountTriangles$Rings;)V"⟩
abbrev cX1_start : ByteArray := prog_3_method_2_code
def yX1_start : MethodName := ⟨RX1, "start", "(I)I"⟩
abbrev cX1_growth : ByteArray := prog_3_method_3_code
def yX1_growth : MethodName := ⟨RX1, "growth", "(III[II)I"⟩
abbrev cX1_next : ByteArray := prog_3_method_4_code
def yX1_next : MethodName := ⟨RX1, "next", "(III)I"⟩
abbrev cX1_ways : ByteArray := prog_3_method_5_code
def yX1_ways : MethodName := ⟨RX1, "ways", "(III)I"⟩
def RX2 : String := "CountTriangles$Law"
def TX2 : u_T := fun k => match k with
  | 0 => ("CountTriangles$Law", "left", "[I", true)
  | 1 => ("CountTriangles$Law", "above", "[I", true)
  | 2 => ("CountTriangles$Law", "numbers", "[J", true)
  | 3 => ("CountTriangles$Law", "column", "[J", true)
  | 4 => ("CountTriangles$Law", "rests", "[I", true)
  | 5 => ("CountTriangles$Law", "top", "I", false)
  | _ => ("CountTriangles$Law", "items", "I", false)
def tyX2 : Nat → FieldType := fun k => match k with
  | 0 => .array .int
  | 1 => .array .int
  | 2 => .array .long
  | 3 => .array .long
  | 4 => .array .int
  | 5 => .int
  | _ => .int
abbrev wsX20 : List Cond := u_ws RX2 TX2 7
theorem nmX2 : ∀ a, a < 7 → ∀ b, b < 7 → a ≠ b → (TX2 a).2.1 ≠ (TX2 b).2.1 := by decide +kernel
theorem tyX2_ok : ∀ k, k < 7 → parseFieldDescriptor (TX2 k).2.2.1 = some (tyX2 k) := by decide +kernel
abbrev cX2_init : ByteArray := prog_4_method_1_code
def yX2_init : MethodName := ⟨RX2, "<init>", "()V"⟩
abbrev cX2_items : ByteArray := prog_4_method_2_code
def yX2_items : MethodName := ⟨RX2, "items", "()I"⟩
abbrev cX2_layFrom : ByteArray := prog_4_method_3_code
def yX2_layFrom : MethodName := ⟨RX2, "layFrom", "(LCountTriangles$Text;)V"⟩
abbrev cX2_takeItem : ByteArray := prog_4_method_4_code
def yX2_takeItem : MethodName := ⟨RX2, "takeItem", "(LCountTriangles$Text;I)V"⟩
abbrev cX2_fillNumbers : ByteArray := prog_4_method_5_code
def yX2_fillNumbers : MethodName := ⟨RX2, "fillNumbers", "()V"⟩
abbrev cX2_madeOfAbove : ByteArray := prog_4_method_6_code
def yX2_madeOfAbove : MethodName := ⟨RX2, "madeOfAbove", "(II)J"⟩
abbrev cX2_factor : ByteArray := prog_4_method_7_code
def yX2_factor : MethodName := ⟨RX2, "factor", "([III)I"⟩
abbrev cX2_part : ByteArray := prog_4_method_8_code
def yX2_part : MethodName := ⟨RX2, "part", "(IJ)J"⟩
abbrev cX2_limited : ByteArray := prog_4_method_9_code
def yX2_limited : MethodName := ⟨RX2, "limited", "(J)J"⟩
abbrev cX2_product : ByteArray := prog_4_method_10_code
def yX2_product : MethodName := ⟨RX2, "product", "(JJ)J"⟩
abbrev cX2_numberAt : ByteArray := prog_4_method_11_code
def yX2_numberAt : MethodName := ⟨RX2, "numberAt", "(II)J"⟩
abbrev cX2_rowKeepsTo : ByteArray := prog_4_method_12_code
def yX2_rowKeepsTo : MethodName := ⟨RX2, "rowKeepsTo", "(IJ)Z"⟩
abbrev cX2_rowSum : ByteArray := prog_4_method_13_code
def yX2_rowSum : MethodName := ⟨RX2, "rowSum", "(IZ)J"⟩
abbrev cX2_slantSum : ByteArray := prog_4_method_14_code
def yX2_slantSum : MethodName := ⟨RX2, "slantSum", "(I)J"⟩
abbrev cX2_squareSum : ByteArray := prog_4_method_15_code
def yX2_squareSum : MethodName := ⟨RX2, "squareSum", "(I)J"⟩
abbrev cX2_greatestPlace : ByteArray := prog_4_method_16_code
def yX2_greatestPlace : MethodName := ⟨RX2, "greatestPlace", "(I)I"⟩
abbrev cX2_breakPlace : ByteArray := prog_4_method_17_code
def yX2_breakPlace : MethodName := ⟨RX2, "breakPlace", "(I)I"⟩
abbrev cX2_bowedPlace : ByteArray := prog_4_method_18_code
def yX2_bowedPlace : MethodName := ⟨RX2, "bowedPlace", "(I)I"⟩
abbrev cX2_restAt : ByteArray := prog_4_method_19_code
def yX2_restAt : MethodName := ⟨RX2, "restAt", "(III)I"⟩
abbrev cX2_productAt : ByteArray := prog_4_method_20_code
def yX2_productAt : MethodName := ⟨RX2, "productAt", "(LCountTriangles$Law;II)J"⟩
abbrev cX2_firstRowNotUndone : ByteArray := prog_4_method_21_code
def yX2_firstRowNotUndone : MethodName := ⟨RX2, "firstRowNotUndone", "(LCountTriangles$Law;I)I"⟩
abbrev cX2_inverseAt : ByteArray := prog_4_method_22_code
def yX2_inverseAt : MethodName := ⟨RX2, "inverseAt", "(II)J"⟩
abbrev cX2_columnSum : ByteArray := prog_4_method_23_code
def yX2_columnSum : MethodName := ⟨RX2, "columnSum", "(II)J"⟩
abbrev cX2_endsInOnes : ByteArray := prog_4_method_24_code
def yX2_endsInOnes : MethodName := ⟨RX2, "endsInOnes", "(I)Z"⟩
def RX3 : String := "CountTriangles$LesserPairs"
def TX3 : u_T := fun k => match k with
  | _ => ("CountTriangles$LesserPairs", "table", "[I", true)
def tyX3 : Nat → FieldType := fun k => match k with
  | _ => .array .int
abbrev wsX30 : List Cond := u_ws RX3 TX3 1
theorem nmX3 : ∀ a, a < 1 → ∀ b, b < 1 → a ≠ b → (TX3 a).2.1 ≠ (TX3 b).2.1 := by decide +kernel
theorem tyX3_ok : ∀ k, k < 1 → parseFieldDescriptor (TX3 k).2.2.1 = some (tyX3 k) := by decide +kernel
abbrev cX3_init : ByteArray := prog_5_method_1_code
def yX3_init : MethodName := ⟨RX3, "<init>", "()V"⟩
abbrev cX3_waysByNext : ByteArray := prog_5_method_2_code
def yX3_waysByNext : MethodName := ⟨RX3, "waysByNext", "(II)I"⟩
abbrev cX3_start : ByteArray := prog_5_method_3_code
def yX3_start : MethodName := ⟨RX3, "start", "(I)I"⟩
abbrev cX3_growth : ByteArray := prog_5_method_4_code
def yX3_growth : MethodName := ⟨RX3, "growth", "(III[II)I"⟩
abbrev cX3_next : ByteArray := prog_5_method_5_code
def yX3_next : MethodName := ⟨RX3, "next", "(III)I"⟩
abbrev cX3_ways : ByteArray := prog_5_method_6_code
def yX3_ways : MethodName := ⟨RX3, "ways", "(III)I"⟩
def RX4 : String := "CountTriangles$LongestRise"
def TX4 : u_T := fun k => match k with
  | 0 => ("CountTriangles$LongestRise", "table", "[I", true)
  | _ => ("CountTriangles$LongestRise", "wanted", "I", false)
def tyX4 : Nat → FieldType := fun k => match k with
  | 0 => .array .int
  | _ => .int
abbrev wsX40 : List Cond := u_ws RX4 TX4 2
theorem nmX4 : ∀ a, a < 2 → ∀ b, b < 2 → a ≠ b → (TX4 a).2.1 ≠ (TX4 b).2.1 := by decide +kernel
theorem tyX4_ok : ∀ k, k < 2 → parseFieldDescriptor (TX4 k).2.2.1 = some (tyX4 k) := by decide +kernel
abbrev cX4_init : ByteArray := prog_6_method_1_code
def yX4_init : MethodName := ⟨RX4, "<init>", "()V"⟩
abbrev cX4_start : ByteArray := prog_6_method_2_code
def yX4_start : MethodName := ⟨RX4, "start", "(I)I"⟩
abbrev cX4_growth : ByteArray := prog_6_method_3_code
def yX4_growth : MethodName := ⟨RX4, "growth", "(III[II)I"⟩
abbrev cX4_next : ByteArray := prog_6_method_4_code
def yX4_next : MethodName := ⟨RX4, "next", "(III)I"⟩
abbrev cX4_withEnd : ByteArray := prog_6_method_5_code
def yX4_withEnd : MethodName := ⟨RX4, "withEnd", "(II)I"⟩
abbrev cX4_ways : ByteArray := prog_6_method_6_code
def yX4_ways : MethodName := ⟨RX4, "ways", "(III)I"⟩
abbrev cX4_fillTable : ByteArray := prog_6_method_7_code
def yX4_fillTable : MethodName := ⟨RX4, "fillTable", "()V"⟩
abbrev cX4_waysByNext : ByteArray := prog_6_method_8_code
def yX4_waysByNext : MethodName := ⟨RX4, "waysByNext", "(II)I"⟩
def RX5 : String := "CountTriangles$Mark"
def TX5 : u_T := fun k => match k with
  | _ => ("", "", "", false)
def tyX5 : Nat → FieldType := fun k => match k with
  | _ => .int
abbrev wsX50 : List Cond := u_ws RX5 TX5 0
theorem nmX5 : ∀ a, a < 0 → ∀ b, b < 0 → a ≠ b → (TX5 a).2.1 ≠ (TX5 b).2.1 := by decide +kernel
theorem tyX5_ok : ∀ k, k < 0 → parseFieldDescriptor (TX5 k).2.2.1 = some (tyX5 k) := by decide +kernel
abbrev cX5_init : ByteArray := prog_7_method_1_code
def yX5_init : MethodName := ⟨RX5, "<init>", "()V"⟩
def RX6 : String := "CountTriangles$Orders"
def TX6 : u_T := fun k => match k with
  | 0 => ("CountTriangles$Orders", "row", "[I", true)
  | 1 => ("CountTriangles$Orders", "source", "[I", true)
  | _ => ("CountTriangles$Orders", "marks", "[LCountTriangles$Mark;", true)
def tyX6 : Nat → FieldType := fun k => match k with
  | 0 => .array .int
  | 1 => .array .int
  | _ => .array (.object "CountTriangles$Mark")
abbrev wsX60 : List Cond := u_ws RX6 TX6 3
theorem nmX6 : ∀ a, a < 3 → ∀ b, b < 3 → a ≠ b → (TX6 a).2.1 ≠ (TX6 b).2.1 := by decide +kernel
theorem tyX6_ok : ∀ k, k < 3 → parseFieldDescriptor (TX6 k).2.2.1 = some (tyX6 k) := by decide +kernel
abbrev cX6_init : ByteArray := prog_8_method_1_code
def yX6_init : MethodName := ⟨RX6, "<init>", "()V"⟩
abbrev cX6_isOne : ByteArray := prog_8_method_2_code
def yX6_isOne : MethodName := ⟨RX6, "isOne", "(II)Z"⟩
abbrev cX6_howMany : ByteArray := prog_8_method_3_code
def yX6_howMany : MethodName := ⟨RX6, "howMany", "(III)I"⟩
abbrev cX6_ith : ByteArray := prog_8_method_4_code
def yX6_ith : MethodName := ⟨RX6, "ith", "(IIII)I"⟩
abbrev cX6_unusedDigit : ByteArray := prog_8_method_5_code
def yX6_unusedDigit : MethodName := ⟨RX6, "unusedDigit", "(II)I"⟩
abbrev cX6_markOf : ByteArray := prog_8_method_6_code
def yX6_markOf : MethodName := ⟨RX6, "markOf", "(III)I"⟩
abbrev cX6_rankOf : ByteArray := prog_8_method_7_code
def yX6_rankOf : MethodName := ⟨RX6, "rankOf", "(II)I"⟩
abbrev cX6_turnedOver : ByteArray := prog_8_method_8_code
def yX6_turnedOver : MethodName := ⟨RX6, "turnedOver", "(II)I"⟩
abbrev cX6_oneBehind : ByteArray := prog_8_method_9_code
def yX6_oneBehind : MethodName := ⟨RX6, "oneBehind", "(III)I"⟩
abbrev cX6_lesserLater : ByteArray := prog_8_method_10_code
def yX6_lesserLater : MethodName := ⟨RX6, "lesserLater", "(II)I"⟩
abbrev cX6_unpack : ByteArray := prog_8_method_11_code
def yX6_unpack : MethodName := ⟨RX6, "unpack", "(II[I)V"⟩
abbrev cX6_packed : ByteArray := prog_8_method_12_code
def yX6_packed : MethodName := ⟨RX6, "packed", "(I)I"⟩
def RX7 : String := "CountTriangles$Partings"
def TX7 : u_T := fun k => match k with
  | _ => ("CountTriangles$Partings", "ways", "[I", true)
def tyX7 : Nat → FieldType := fun k => match k with
  | _ => .array .int
abbrev wsX70 : List Cond := u_ws RX7 TX7 1
theorem nmX7 : ∀ a, a < 1 → ∀ b, b < 1 → a ≠ b → (TX7 a).2.1 ≠ (TX7 b).2.1 := by decide +kernel
theorem tyX7_ok : ∀ k, k < 1 → parseFieldDescriptor (TX7 k).2.2.1 = some (tyX7 k) := by decide +kernel
abbrev cX7_init : ByteArray := prog_9_method_1_code
def yX7_init : MethodName := ⟨RX7, "<init>", "()V"⟩
abbrev cX7_want : ByteArray := prog_9_method_2_code
def yX7_want : MethodName := ⟨RX7, "want", "(I)V"⟩
abbrev cX7_waysFrom : ByteArray := prog_9_method_3_code
def yX7_waysFrom : MethodName := ⟨RX7, "waysFrom", "(II)I"⟩
abbrev cX7_howMany : ByteArray := prog_9_method_4_code
def yX7_howMany : MethodName := ⟨RX7, "howMany", "(I)I"⟩
abbrev cX7_ith : ByteArray := prog_9_method_5_code
def yX7_ith : MethodName := ⟨RX7, "ith", "(II)I"⟩
abbrev cX7_partsOf : ByteArray := prog_9_method_6_code
def yX7_partsOf : MethodName := ⟨RX7, "partsOf", "(II)I"⟩
abbrev cX7_rankOf : ByteArray := prog_9_method_7_code
def yX7_rankOf : MethodName := ⟨RX7, "rankOf", "(II)I"⟩
def RX8 : String := "CountTriangles$Polynomial"
def TX8 : u_T := fun k => match k with
  | 0 => ("CountTriangles$Polynomial", "coefficients", "[J", true)
  | 1 => ("CountTriangles$Polynomial", "room", "[J", true)
  | _ => ("CountTriangles$Polynomial", "base", "I", false)
def tyX8 : Nat → FieldType := fun k => match k with
  | 0 => .array .long
  | 1 => .array .long
  | _ => .int
abbrev wsX80 : List Cond := u_ws RX8 TX8 3
theorem nmX8 : ∀ a, a < 3 → ∀ b, b < 3 → a ≠ b → (TX8 a).2.1 ≠ (TX8 b).2.1 := by decide +kernel
theorem tyX8_ok : ∀ k, k < 3 → parseFieldDescriptor (TX8 k).2.2.1 = some (tyX8 k) := by decide +kernel
abbrev cX8_init : ByteArray := prog_10_method_1_code
def yX8_init : MethodName := ⟨RX8, "<init>", "()V"⟩
abbrev cX8_baseNow : ByteArray := prog_10_method_2_code
def yX8_baseNow : MethodName := ⟨RX8, "baseNow", "()I"⟩
abbrev cX8_clearIn : ByteArray := prog_10_method_3_code
def yX8_clearIn : MethodName := ⟨RX8, "clearIn", "(I)V"⟩
abbrev cX8_at : ByteArray := prog_10_method_4_code
def yX8_at : MethodName := ⟨RX8, "at", "(I)J"⟩
abbrev cX8_put : ByteArray := prog_10_method_5_code
def yX8_put : MethodName := ⟨RX8, "put", "(IJ)V"⟩
abbrev cX8_degree : ByteArray := prog_10_method_6_code
def yX8_degree : MethodName := ⟨RX8, "degree", "()I"⟩
abbrev cX8_inUse : ByteArray := prog_10_method_7_code
def yX8_inUse : MethodName := ⟨RX8, "inUse", "()I"⟩
abbrev cX8_zero : ByteArray := prog_10_method_8_code
def yX8_zero : MethodName := ⟨RX8, "zero", "(II)I"⟩
abbrev cX8_valueAt : ByteArray := prog_10_method_9_code
def yX8_valueAt : MethodName := ⟨RX8, "valueAt", "(I)J"⟩
abbrev cX8_difference : ByteArray := prog_10_method_10_code
def yX8_difference : MethodName := ⟨RX8, "difference", "(II)J"⟩
abbrev cX8_turnInto : ByteArray := prog_10_method_11_code
def yX8_turnInto : MethodName := ⟨RX8, "turnInto", "(I)Z"⟩
abbrev cX8_becomeSum : ByteArray := prog_10_method_12_code
def yX8_becomeSum : MethodName := ⟨RX8, "becomeSum", "()Z"⟩
abbrev cX8_findTurned : ByteArray := prog_10_method_13_code
def yX8_findTurned : MethodName := ⟨RX8, "findTurned", "(I)Z"⟩
abbrev cX8_choicesAreWholeFalling : ByteArray := prog_10_method_14_code
def yX8_choicesAreWholeFalling : MethodName := ⟨RX8, "choicesAreWholeFalling", "()Z"⟩
abbrev cX8_multiplyRoom : ByteArray := prog_10_method_15_code
def yX8_multiplyRoom : MethodName := ⟨RX8, "multiplyRoom", "(II)V"⟩
abbrev cX8_roomMayStand : ByteArray := prog_10_method_16_code
def yX8_roomMayStand : MethodName := ⟨RX8, "roomMayStand", "(I)Z"⟩
def RX9 : String := "CountTriangles$Rings"
def TX9 : u_T := fun k => match k with
  | _ => ("CountTriangles$Rings", "table", "[I", true)
def tyX9 : Nat → FieldType := fun k => match k with
  | _ => .array .int
abbrev wsX90 : List Cond := u_ws RX9 TX9 1
theorem nmX9 : ∀ a, a < 1 → ∀ b, b < 1 → a ≠ b → (TX9 a).2.1 ≠ (TX9 b).2.1 := by decide +kernel
theorem tyX9_ok : ∀ k, k < 1 → parseFieldDescriptor (TX9 k).2.2.1 = some (tyX9 k) := by decide +kernel
abbrev cX9_init : ByteArray := prog_11_method_1_code
def yX9_init : MethodName := ⟨RX9, "<init>", "()V"⟩
abbrev cX9_start : ByteArray := prog_11_method_2_code
def yX9_start : MethodName := ⟨RX9, "start", "(I)I"⟩
abbrev cX9_growth : ByteArray := prog_11_method_3_code
def yX9_growth : MethodName := ⟨RX9, "growth", "(III[II)I"⟩
abbrev cX9_next : ByteArray := prog_11_method_4_code
def yX9_next : MethodName := ⟨RX9, "next", "(III)I"⟩
abbrev cX9_ways : ByteArray := prog_11_method_5_code
def yX9_ways : MethodName := ⟨RX9, "ways", "(III)I"⟩
def RX10 : String := "CountTriangles$Text"
def TX10 : u_T := fun k => match k with
  | 0 => ("CountTriangles$Text", "bytes", "[B", true)
  | _ => ("CountTriangles$Text", "length", "I", false)
def tyX10 : Nat → FieldType := fun k => match k with
  | 0 => .array .byte
  | _ => .int
abbrev wsX100 : List Cond := u_ws RX10 TX10 2
theorem nmX10 : ∀ a, a < 2 → ∀ b, b < 2 → a ≠ b → (TX10 a).2.1 ≠ (TX10 b).2.1 := by decide +kernel
theorem tyX10_ok : ∀ k, k < 2 → parseFieldDescriptor (TX10 k).2.2.1 = some (tyX10 k) := by decide +kernel
abbrev cX10_init : ByteArray := prog_12_method_1_code
def yX10_init : MethodName := ⟨RX10, "<init>", "()V"⟩
abbrev cX10_length : ByteArray := prog_12_method_2_code
def yX10_length : MethodName := ⟨RX10, "length", "()I"⟩
abbrev cX10_clear : ByteArray := prog_12_method_3_code
def yX10_clear : MethodName := ⟨RX10, "clear", "()V"⟩
abbrev cX10_append : ByteArray := prog_12_method_4_code
def yX10_append : MethodName := ⟨RX10, "append", "(IJ)Z"⟩
abbrev cX10_byteAt : ByteArray := prog_12_method_5_code
def yX10_byteAt : MethodName := ⟨RX10, "byteAt", "(I)I"⟩
abbrev cX10_firstFault : ByteArray := prog_12_method_6_code
def yX10_firstFault : MethodName := ⟨RX10, "firstFault", "()I"⟩
abbrev cX10_itemEnd : ByteArray := prog_12_method_7_code
def yX10_itemEnd : MethodName := ⟨RX10, "itemEnd", "(I)I"⟩
abbrev cX10_numbersBehind : ByteArray := prog_12_method_8_code
def yX10_numbersBehind : MethodName := ⟨RX10, "numbersBehind", "(I)I"⟩
abbrev cX10_numberEnd : ByteArray := prog_12_method_9_code
def yX10_numberEnd : MethodName := ⟨RX10, "numberEnd", "(I)I"⟩
abbrev cX10_numberFrom : ByteArray := prog_12_method_10_code
def yX10_numberFrom : MethodName := ⟨RX10, "numberFrom", "(I)I"⟩
abbrev cX10_nextNumber : ByteArray := prog_12_method_11_code
def yX10_nextNumber : MethodName := ⟨RX10, "nextNumber", "(I)I"⟩
def RX11 : String := "CountTriangles"
def TX11 : u_T := fun k => match k with
  | 0 => ("CountTriangles", "text", "LCountTriangles$Text;", true)
  | 1 => ("CountTriangles", "laws", "[LCountTriangles$Law;", true)
  | 2 => ("CountTriangles", "partings", "LCountTriangles$Partings;", true)
  | 3 => ("CountTriangles", "orders", "LCountTriangles$Orders;", true)
  | _ => ("CountTriangles", "polynomials", "[LCountTriangles$Polynomial;", true)
def tyX11 : Nat → FieldType := fun k => match k with
  | 0 => .object "CountTriangles$Text"
  | 1 => .array (.object "CountTriangles$Law")
  | 2 => .object "CountTriangles$Partings"
  | 3 => .object "CountTriangles$Orders"
  | _ => .array (.object "CountTriangles$Polynomial")
abbrev wsX110 : List Cond := u_ws RX11 TX11 5
theorem nmX11 : ∀ a, a < 5 → ∀ b, b < 5 → a ≠ b → (TX11 a).2.1 ≠ (TX11 b).2.1 := by decide +kernel
theorem tyX11_ok : ∀ k, k < 5 → parseFieldDescriptor (TX11 k).2.2.1 = some (tyX11 k) := by decide +kernel
abbrev cX11_init : ByteArray := prog_1_method_1_code
def yX11_init : MethodName := ⟨RX11, "<init>", "()V"⟩
abbrev cX11_write : ByteArray := prog_1_method_2_code
def yX11_write : MethodName := ⟨RX11, "write", "(IJ)I"⟩
abbrev cX11_wipe : ByteArray := prog_1_method_3_code
def yX11_wipe : MethodName := ⟨RX11, "wipe", "()I"⟩
abbrev cX11_fault : ByteArray := prog_1_method_4_code
def yX11_fault : MethodName := ⟨RX11, "fault", "()I"⟩
abbrev cX11_lay : ByteArray := prog_1_method_5_code
def yX11_lay : MethodName := ⟨RX11, "lay", "(I)I"⟩
abbrev cX11_number : ByteArray := prog_1_method_6_code
def yX11_number : MethodName := ⟨RX11, "number", "(III)J"⟩
abbrev cX11_sum : ByteArray := prog_1_method_7_code
def yX11_sum : MethodName := ⟨RX11, "sum", "(III)J"⟩
abbrev cX11_shape : ByteArray := prog_1_method_8_code
def yX11_shape : MethodName := ⟨RX11, "shape", "(III)I"⟩
abbrev cX11_rest : ByteArray := prog_1_method_9_code
def yX11_rest : MethodName := ⟨RX11, "rest", "(IIII)I"⟩
abbrev cX11_times : ByteArray := prog_1_method_10_code
def yX11_times : MethodName := ⟨RX11, "times", "(IIII)J"⟩
abbrev cX11_undoes : ByteArray := prog_1_method_11_code
def yX11_undoes : MethodName := ⟨RX11, "undoes", "(III)I"⟩
abbrev cX11_back : ByteArray := prog_1_method_12_code
def yX11_back : MethodName := ⟨RX11, "back", "(III)J"⟩
abbrev cX11_parting : ByteArray := prog_1_method_13_code
def yX11_parting : MethodName := ⟨RX11, "parting", "(III)I"⟩
abbrev cX11_partRank : ByteArray := prog_1_method_14_code
def yX11_partRank : MethodName := ⟨RX11, "partRank", "(II)I"⟩
abbrev cX11_orders : ByteArray := prog_1_method_15_code
def yX11_orders : MethodName := ⟨RX11, "orders", "(IIII)I"⟩
abbrev cX11_mark : ByteArray := prog_1_method_16_code
def yX11_mark : MethodName := ⟨RX11, "mark", "(III)I"⟩
abbrev cX11_rank : ByteArray := prog_1_method_17_code
def yX11_rank : MethodName := ⟨RX11, "rank", "(II)I"⟩
abbrev cX11_over : ByteArray := prog_1_method_18_code
def yX11_over : MethodName := ⟨RX11, "over", "(II)I"⟩
abbrev cX11_behind : ByteArray := prog_1_method_19_code
def yX11_behind : MethodName := ⟨RX11, "behind", "(III)I"⟩
abbrev cX11_base : ByteArray := prog_1_method_20_code
def yX11_base : MethodName := ⟨RX11, "base", "(II)I"⟩
abbrev cX11_set : ByteArray := prog_1_method_21_code
def yX11_set : MethodName := ⟨RX11, "set", "(IIJ)J"⟩
abbrev cX11_coefficient : ByteArray := prog_1_method_22_code
def yX11_coefficient : MethodName := ⟨RX11, "coefficient", "(II)J"⟩
abbrev cX11_told : ByteArray := prog_1_method_23_code
def yX11_told : MethodName := ⟨RX11, "told", "(II)I"⟩
abbrev cX11_turn : ByteArray := prog_1_method_24_code
def yX11_turn : MethodName := ⟨RX11, "turn", "(II)I"⟩
abbrev cX11_value : ByteArray := prog_1_method_25_code
def yX11_value : MethodName := ⟨RX11, "value", "(III)J"⟩
abbrev cX11_sumUp : ByteArray := prog_1_method_26_code
def yX11_sumUp : MethodName := ⟨RX11, "sumUp", "(I)I"⟩
abbrev cX11_root : ByteArray := prog_1_method_27_code
def yX11_root : MethodName := ⟨RX11, "root", "(II)I"⟩
abbrev cX11_count : ByteArray := prog_1_method_28_code
def yX11_count : MethodName := ⟨RX11, "count", "(I)I"⟩
abbrev cX11_itemsOfLaws : ByteArray := prog_1_method_29_code
def yX11_itemsOfLaws : MethodName := ⟨RX11, "itemsOfLaws", "()I"⟩
abbrev cX11_coefficientsInUse : ByteArray := prog_1_method_30_code
def yX11_coefficientsInUse : MethodName := ⟨RX11, "coefficientsInUse", "()I"⟩
abbrev cX11_isOrder : ByteArray := prog_1_method_31_code
def yX11_isOrder : MethodName := ⟨RX11, "isOrder", "(II)Z"⟩
abbrev cX11_isLaw : ByteArray := prog_1_method_32_code
def yX11_isLaw : MethodName := ⟨RX11, "isLaw", "(I)Z"⟩
abbrev cX11_isPolynomial : ByteArray := prog_1_method_33_code
def yX11_isPolynomial : MethodName := ⟨RX11, "isPolynomial", "(I)Z"⟩
abbrev cX11_isPlace : ByteArray := prog_1_method_34_code
def yX11_isPlace : MethodName := ⟨RX11, "isPlace", "(III)Z"⟩
abbrev cX11_within : ByteArray := prog_1_method_35_code
def yX11_within : MethodName := ⟨RX11, "within", "(III)Z"⟩
abbrev cX11_beyond : ByteArray := prog_1_method_36_code
def yX11_beyond : MethodName := ⟨RX11, "beyond", "(JJ)Z"⟩
abbrev cX11_answer : ByteArray := prog_1_method_37_code
def yX11_answer : MethodName := ⟨RX11, "answer", "(J)J"⟩
abbrev cX11_digitAt : ByteArray := prog_1_method_38_code
def yX11_digitAt : MethodName := ⟨RX11, "digitAt", "(III)I"⟩
abbrev cX11_hasDigitsAlone : ByteArray := prog_1_method_39_code
def yX11_hasDigitsAlone : MethodName := ⟨RX11, "hasDigitsAlone", "(II)Z"⟩
def RX12 : String := "CountTrianglesModel"
def TX12 : u_T := fun k => match k with
  | 0 => ("CountTrianglesModel", "bytes", "I", false)
  | 1 => ("CountTrianglesModel", "text", "[I", true)
  | 2 => ("CountTrianglesModel", "position", "I", false)
  | 3 => ("CountTrianglesModel", "begin", "I", false)
  | 4 => ("CountTrianglesModel", "readMany", "I", false)
  | 5 => ("CountTrianglesModel", "read", "[I", true)
  | 6 => ("CountTrianglesModel", "law", "[I", true)
  | 7 => ("CountTrianglesModel", "items", "[I", true)
  | 8 => ("CountTrianglesModel", "cell", "[J", true)
  | 9 => ("CountTrianglesModel", "isGreat", "[Z", true)
  | 10 => ("CountTrianglesModel", "rests", "[I", true)
  | 11 => ("CountTrianglesModel", "column", "[J", true)
  | 12 => ("CountTrianglesModel", "isNo", "Z", false)
  | 13 => ("CountTrianglesModel", "digit", "[I", true)
  | 14 => ("CountTrianglesModel", "other", "[I", true)
  | 15 => ("CountTrianglesModel", "turned", "[I", true)
  | 16 => ("CountTrianglesModel", "base", "[I", true)
  | 17 => ("CountTrianglesModel", "factor", "[J", true)
  | 18 => ("CountTrianglesModel", "falling", "[J", true)
  | 19 => ("CountTrianglesModel", "made", "[J", true)
  | _ => ("CountTrianglesModel", "table", "[J", true)
def tyX12 : Nat → FieldType := fun k => match k with
  | 0 => .int
  | 1 => .array .int
  | 2 => .int
  | 3 => .int
  | 4 => .int
  | 5 => .array .int
  | 6 => .array .int
  | 7 => .array .int
  | 8 => .array .long
  | 9 => .array .boolean
  | 10 => .array .int
  | 11 => .array .long
  | 12 => .boolean
  | 13 => .array .int
  | 14 => .array .int
  | 15 => .array .int
  | 16 => .array .int
  | 17 => .array .long
  | 18 => .array .long
  | 19 => .array .long
  | _ => .array .long
abbrev wsX120 : List Cond := u_ws RX12 TX12 21
theorem nmX12 : ∀ a, a < 21 → ∀ b, b < 21 → a ≠ b → (TX12 a).2.1 ≠ (TX12 b).2.1 := by decide +kernel
theorem tyX12_ok : ∀ k, k < 21 → parseFieldDescriptor (TX12 k).2.2.1 = some (tyX12 k) := by decide +kernel
abbrev cX12_init : ByteArray := prog_14_method_1_code
def yX12_init : MethodName := ⟨RX12, "<init>", "()V"⟩
abbrev cX12_in : ByteArray := prog_14_method_2_code
def yX12_in : MethodName := ⟨RX12, "in", "(JJJ)Z"⟩
abbrev cX12_write : ByteArray := prog_14_method_3_code
def yX12_write : MethodName := ⟨RX12, "write", "(IJ)I"⟩
abbrev cX12_wipe : ByteArray := prog_14_method_4_code
def yX12_wipe : MethodName := ⟨RX12, "wipe", "()I"⟩
abbrev cX12_byteNow : ByteArray := prog_14_method_5_code
def yX12_byteNow : MethodName := ⟨RX12, "byteNow", "()I"⟩
abbrev cX12_isNumber : ByteArray := prog_14_method_6_code
def yX12_isNumber : MethodName := ⟨RX12, "isNumber", "(II)Z"⟩
abbrev cX12_isItem : ByteArray := prog_14_method_7_code
def yX12_isItem : MethodName := ⟨RX12, "isItem", "()Z"⟩
abbrev cX12_isRead : ByteArray := prog_14_method_8_code
def yX12_isRead : MethodName := ⟨RX12, "isRead", "()Z"⟩
abbrev cX12_fault : ByteArray := prog_14_method_9_code
def yX12_fault : MethodName := ⟨RX12, "fault", "()I"⟩
abbrev cX12_isLaw : ByteArray := prog_14_method_10_code
def yX12_isLaw : MethodName := ⟨RX12, "isLaw", "(I)Z"⟩
abbrev cX12_lay : ByteArray := prog_14_method_11_code
def yX12_lay : MethodName := ⟨RX12, "lay", "(I)I"⟩
abbrev cX12_at : ByteArray := prog_14_method_12_code
def yX12_at : MethodName := ⟨RX12, "at", "(III)I"⟩
abbrev cX12_comes : ByteArray := prog_14_method_13_code
def yX12_comes : MethodName := ⟨RX12, "comes", "(IIII)I"⟩
abbrev cX12_isBeyond : ByteArray := prog_14_method_14_code
def yX12_isBeyond : MethodName := ⟨RX12, "isBeyond", "(J)Z"⟩
abbrev cX12_size : ByteArray := prog_14_method_15_code
def yX12_size : MethodName := ⟨RX12, "size", "(J)J"⟩
abbrev cX12_isTooMuch : ByteArray := prog_14_method_16_code
def yX12_isTooMuch : MethodName := ⟨RX12, "isTooMuch", "(JJ)Z"⟩
abbrev cX12_findRows : ByteArray := prog_14_method_17_code
def yX12_findRows : MethodName := ⟨RX12, "findRows", "(III)V"⟩
abbrev cX12_number : ByteArray := prog_14_method_18_code
def yX12_number : MethodName := ⟨RX12, "number", "(III)J"⟩
abbrev cX12_sum : ByteArray := prog_14_method_19_code
def yX12_sum : MethodName := ⟨RX12, "sum", "(III)J"⟩
abbrev cX12_shape : ByteArray := prog_14_method_20_code
def yX12_shape : MethodName := ⟨RX12, "shape", "(III)I"⟩
abbrev cX12_rest : ByteArray := prog_14_method_21_code
def yX12_rest : MethodName := ⟨RX12, "rest", "(IIII)I"⟩
abbrev cX12_product : ByteArray := prog_14_method_22_code
def yX12_product : MethodName := ⟨RX12, "product", "(II)J"⟩
abbrev cX12_times : ByteArray := prog_14_method_23_code
def yX12_times : MethodName := ⟨RX12, "times", "(IIII)J"⟩
abbrev cX12_undoes : ByteArray := prog_14_method_24_code
def yX12_undoes : MethodName := ⟨RX12, "undoes", "(III)I"⟩
abbrev cX12_back : ByteArray := prog_14_method_25_code
def yX12_back : MethodName := ⟨RX12, "back", "(III)J"⟩
abbrev cX12_isSize : ByteArray := prog_14_method_26_code
def yX12_isSize : MethodName := ⟨RX12, "isSize", "(I)Z"⟩
abbrev cX12_packed : ByteArray := prog_14_method_27_code
def yX12_packed : MethodName := ⟨RX12, "packed", "(I)I"⟩
abbrev cX12_unpack : ByteArray := prog_14_method_28_code
def yX12_unpack : MethodName := ⟨RX12, "unpack", "(II)Z"⟩
abbrev cX12_partsOf : ByteArray := prog_14_method_29_code
def yX12_partsOf : MethodName := ⟨RX12, "partsOf", "(I)I"⟩
abbrev cX12_turnParting : ByteArray := prog_14_method_30_code
def yX12_turnParting : MethodName := ⟨RX12, "turnParting", "(I)Z"⟩
abbrev cX12_parting : ByteArray := prog_14_method_31_code
def yX12_parting : MethodName := ⟨RX12, "parting", "(III)I"⟩
abbrev cX12_partRank : ByteArray := prog_14_method_32_code
def yX12_partRank : MethodName := ⟨RX12, "partRank", "(II)I"⟩
abbrev cX12_isOrder : ByteArray := prog_14_method_33_code
def yX12_isOrder : MethodName := ⟨RX12, "isOrder", "(I)Z"⟩
abbrev cX12_takeOrder : ByteArray := prog_14_method_34_code
def yX12_takeOrder : MethodName := ⟨RX12, "takeOrder", "(II)Z"⟩
abbrev cX12_beginOrder : ByteArray := prog_14_method_35_code
def yX12_beginOrder : MethodName := ⟨RX12, "beginOrder", "(I)V"⟩
abbrev cX12_turnOrder : ByteArray := prog_14_method_36_code
def yX12_turnOrder : MethodName := ⟨RX12, "turnOrder", "(I)Z"⟩
abbrev cX12_rings : ByteArray := prog_14_method_37_code
def yX12_rings : MethodName := ⟨RX12, "rings", "(I)I"⟩
abbrev cX12_markOf : ByteArray := prog_14_method_38_code
def yX12_markOf : MethodName := ⟨RX12, "markOf", "(II)I"⟩
abbrev cX12_orders : ByteArray := prog_14_method_39_code
def yX12_orders : MethodName := ⟨RX12, "orders", "(IIII)I"⟩
abbrev cX12_mark : ByteArray := prog_14_method_40_code
def yX12_mark : MethodName := ⟨RX12, "mark", "(III)I"⟩
abbrev cX12_rank : ByteArray := prog_14_method_41_code
def yX12_rank : MethodName := ⟨RX12, "rank", "(II)I"⟩
abbrev cX12_over : ByteArray := prog_14_method_42_code
def yX12_over : MethodName := ⟨RX12, "over", "(II)I"⟩
abbrev cX12_behind : ByteArray := prog_14_method_43_code
def yX12_behind : MethodName := ⟨RX12, "behind", "(III)I"⟩
abbrev cX12_isPolynomial : ByteArray := prog_14_method_44_code
def yX12_isPolynomial : MethodName := ⟨RX12, "isPolynomial", "(I)Z"⟩
abbrev cX12_base : ByteArray := prog_14_method_45_code
def yX12_base : MethodName := ⟨RX12, "base", "(II)I"⟩
abbrev cX12_set : ByteArray := prog_14_method_46_code
def yX12_set : MethodName := ⟨RX12, "set", "(IIJ)J"⟩
abbrev cX12_coefficient : ByteArray := prog_14_method_47_code
def yX12_coefficient : MethodName := ⟨RX12, "coefficient", "(II)J"⟩
abbrev cX12_degree : ByteArray := prog_14_method_48_code
def yX12_degree : MethodName := ⟨RX12, "degree", "(I)I"⟩
abbrev cX12_told : ByteArray := prog_14_method_49_code
def yX12_told : MethodName := ⟨RX12, "told", "(II)I"⟩
abbrev cX12_steps : ByteArray := prog_14_method_50_code
def yX12_steps : MethodName := ⟨RX12, "steps", "(I)J"⟩
abbrev cX12_timesInFalling : ByteArray := prog_14_method_51_code
def yX12_timesInFalling : MethodName := ⟨RX12, "timesInFalling", "(J)V"⟩
abbrev cX12_timesIn : ByteArray := prog_14_method_52_code
def yX12_timesIn : MethodName := ⟨RX12, "timesIn", "(IJ)V"⟩
abbrev cX12_clearMade : ByteArray := prog_14_method_53_code
def yX12_clearMade : MethodName := ⟨RX12, "clearMade", "()V"⟩
abbrev cX12_findFalling : ByteArray := prog_14_method_54_code
def yX12_findFalling : MethodName := ⟨RX12, "findFalling", "(I)V"⟩
abbrev cX12_areMade : ByteArray := prog_14_method_55_code
def yX12_areMade : MethodName := ⟨RX12, "areMade", "(II)Z"⟩
abbrev cX12_turn : ByteArray := prog_14_method_56_code
def yX12_turn : MethodName := ⟨RX12, "turn", "(II)I"⟩
abbrev cX12_valueAt : ByteArray := prog_14_method_57_code
def yX12_valueAt : MethodName := ⟨RX12, "valueAt", "(IJ)J"⟩
abbrev cX12_value : ByteArray := prog_14_method_58_code
def yX12_value : MethodName := ⟨RX12, "value", "(III)J"⟩
abbrev cX12_sumUp : ByteArray := prog_14_method_59_code
def yX12_sumUp : MethodName := ⟨RX12, "sumUp", "(I)I"⟩
abbrev cX12_root : ByteArray := prog_14_method_60_code
def yX12_root : MethodName := ⟨RX12, "root", "(II)I"⟩
abbrev cX12_count : ByteArray := prog_14_method_61_code
def yX12_count : MethodName := ⟨RX12, "count", "(I)I"⟩
def RJ6 : String := "java/lang/Integer"
def TJ6 : u_T := fun k => match k with
  | _ => ("", "", "", false)
def tyJ6 : Nat → FieldType := fun k => match k with
  | _ => .int
abbrev wsJ60 : List Cond := u_ws RJ6 TJ6 0
theorem nmJ6 : ∀ a, a < 0 → ∀ b, b < 0 → a ≠ b → (TJ6 a).2.1 ≠ (TJ6 b).2.1 := by decide +kernel
theorem tyJ6_ok : ∀ k, k < 0 → parseFieldDescriptor (TJ6 k).2.2.1 = some (tyJ6 k) := by decide +kernel
abbrev cJ6_bitCount_0f7a4 : ByteArray := prog_15_method_49_code
def yJ6_bitCount_0f7a4 : MethodName := ⟨RJ6, "bitCount", "(I)I"⟩
def RJ9 : String := "java/lang/Math"
def TJ9 : u_T := fun k => match k with
  | _ => ("", "", "", false)
def tyJ9 : Nat → FieldType := fun k => match k with
  | _ => .int
abbrev wsJ90 : List Cond := u_ws RJ9 TJ9 0
theorem nmJ9 : ∀ a, a < 0 → ∀ b, b < 0 → a ≠ b → (TJ9 a).2.1 ≠ (TJ9 b).2.1 := by decide +kernel
theorem tyJ9_ok : ∀ k, k < 0 → parseFieldDescriptor (TJ9 k).2.2.1 = some (tyJ9 k) := by decide +kernel
abbrev cJ9_floorMod_7cf53 : ByteArray := prog_16_method_50_code
def yJ9_floorMod_7cf53 : MethodName := ⟨RJ9, "floorMod", "(II)I"⟩
abbrev cJ9_abs_067f4 : ByteArray := prog_16_method_61_code
def yJ9_abs_067f4 : MethodName := ⟨RJ9, "abs", "(J)J"⟩
abbrev cJ9_max_7cf53 : ByteArray := prog_16_method_65_code
def yJ9_max_7cf53 : MethodName := ⟨RJ9, "max", "(II)I"⟩
abbrev cJ9_min_7cf53 : ByteArray := prog_16_method_69_code
def yJ9_min_7cf53 : MethodName := ⟨RJ9, "min", "(II)I"⟩
def RJ10 : String := "java/lang/System"
def TJ10 : u_T := fun k => match k with
  | _ => ("", "", "", false)
def tyJ10 : Nat → FieldType := fun k => match k with
  | _ => .int
abbrev wsJ100 : List Cond := u_ws RJ10 TJ10 0
theorem nmJ10 : ∀ a, a < 0 → ∀ b, b < 0 → a ≠ b → (TJ10 a).2.1 ≠ (TJ10 b).2.1 := by decide +kernel
theorem tyJ10_ok : ∀ k, k < 0 → parseFieldDescriptor (TJ10 k).2.2.1 = some (tyJ10 k) := by decide +kernel
def RJ7 : String := "java/util/Arrays"
def TJ7 : u_T := fun k => match k with
  | _ => ("", "", "", false)
def tyJ7 : Nat → FieldType := fun k => match k with
  | _ => .int
abbrev wsJ70 : List Cond := u_ws RJ7 TJ7 0
theorem nmJ7 : ∀ a, a < 0 → ∀ b, b < 0 → a ≠ b → (TJ7 a).2.1 ≠ (TJ7 b).2.1 := by decide +kernel
theorem tyJ7_ok : ∀ k, k < 0 → parseFieldDescriptor (TJ7 k).2.2.1 = some (tyJ7 k) := by decide +kernel
abbrev cJ7_fill_d0a16 : ByteArray := prog_18_method_101_code
def yJ7_fill_d0a16 : MethodName := ⟨RJ7, "fill", "([JJ)V"⟩
abbrev cJ7_fill_53178 : ByteArray := prog_18_method_103_code
def yJ7_fill_53178 : MethodName := ⟨RJ7, "fill", "([II)V"⟩
def RL : String := "CountTrianglesLaw"
abbrev cL_law : ByteArray := code
def yL_law : MethodName := ⟨RL, "law", "([I)Z"⟩
abbrev vwCl : List vw_C := [(RX0, TX0, 1), (RX1, TX1, 1), (RX2, TX2, 7), (RX3, TX3, 1), (RX4, TX4, 2), (RX6, TX6, 3), (RX7, TX7, 1), (RX8, TX8, 3), (RX9, TX9, 1), (RX10, TX10, 2), (RX11, TX11, 5), (RX12, TX12, 21)]
def UW : List Cond := lw_tbl.filter goodWord
theorem UW_good : ∀ w ∈ UW, (w.onTables && w.keeps) = true ∨ ∃ ty, w = .arrayClass ty := fun w hw => good_of_word (List.mem_filter.mp hw).2
theorem UW_tbl : ∀ w ∈ UW, w ∈ lw_tbl := fun w hw => (List.mem_filter.mp hw).1
theorem ut_1 {w : Cond} (h : w ∈ tables_1_1) (g : goodWord w = true) : w ∈ UW := List.mem_filter.mpr ⟨List.mem_append_right _ (List.mem_append_left _ h), g⟩
theorem ut_2 {w : Cond} (h : w ∈ tables_1_2) (g : goodWord w = true) : w ∈ UW := List.mem_filter.mpr ⟨List.mem_append_right _ (List.mem_append_right _ (List.mem_append_left _ h)), g⟩
theorem ut_3 {w : Cond} (h : w ∈ tables_1_3) (g : goodWord w = true) : w ∈ UW := List.mem_filter.mpr ⟨List.mem_append_right _ (List.mem_append_right _ (List.mem_append_right _ (List.mem_append_left _ h))), g⟩
theorem ut_4 {w : Cond} (h : w ∈ tables_1_4) (g : goodWord w = true) : w ∈ UW := List.mem_filter.mpr ⟨List.mem_append_right _ (List.mem_append_right _ (List.mem_append_right _ (List.mem_append_right _ (List.mem_append_left _ h)))), g⟩
theorem ut_5 {w : Cond} (h : w ∈ tables_1_5) (g : goodWord w = true) : w ∈ UW := List.mem_filter.mpr ⟨List.mem_append_right _ (List.mem_append_right _ (List.mem_append_right _ (List.mem_append_right _ (List.mem_append_right _ (h))))), g⟩
theorem u_1_0 : (Jvm.Cond.initialized "CountTrianglesLaw") ∈ UW := ut_1 (List.mem_of_getElem? (i := 0) rfl) rfl
theorem u_1_1 : (Jvm.Cond.initialized "CountTriangles") ∈ UW := ut_1 (List.mem_of_getElem? (i := 1) rfl) rfl
theorem u_1_2 : (Jvm.Cond.initialized "CountTriangles$Text") ∈ UW := ut_1 (List.mem_of_getElem? (i := 2) rfl) rfl
theorem u_1_3 : (Jvm.Cond.initialized "CountTriangles$Partings") ∈ UW := ut_1 (List.mem_of_getElem? (i := 3) rfl) rfl
theorem u_1_4 : (Jvm.Cond.initialized "CountTriangles$Orders") ∈ UW := ut_1 (List.mem_of_getElem? (i := 4) rfl) rfl
theorem u_1_5 : (Jvm.Cond.initialized "CountTriangles$Mark") ∈ UW := ut_1 (List.mem_of_getElem? (i := 5) rfl) rfl
theorem u_1_6 : (Jvm.Cond.initialized "CountTriangles$Rings") ∈ UW := ut_1 (List.mem_of_getElem? (i := 6) rfl) rfl
theorem u_1_7 : (Jvm.Cond.initialized "CountTriangles$Falls") ∈ UW := ut_1 (List.mem_of_getElem? (i := 7) rfl) rfl
theorem u_1_8 : (Jvm.Cond.initialized "CountTriangles$LesserPairs") ∈ UW := ut_1 (List.mem_of_getElem? (i := 8) rfl) rfl
theorem u_1_9 : (Jvm.Cond.initialized "CountTriangles$Heights") ∈ UW := ut_1 (List.mem_of_getElem? (i := 9) rfl) rfl
theorem u_1_10 : (Jvm.Cond.initialized "CountTriangles$LongestRise") ∈ UW := ut_1 (List.mem_of_getElem? (i := 10) rfl) rfl
theorem u_1_11 : (Jvm.Cond.initialized "CountTriangles$Law") ∈ UW := ut_1 (List.mem_of_getElem? (i := 11) rfl) rfl
theorem u_1_12 : (Jvm.Cond.initialized "CountTriangles$Polynomial") ∈ UW := ut_1 (List.mem_of_getElem? (i := 12) rfl) rfl
theorem u_1_13 : (Jvm.Cond.initialized "CountTrianglesModel") ∈ UW := ut_1 (List.mem_of_getElem? (i := 13) rfl) rfl
theorem u_1_14 : (Jvm.Cond.initialized "java/util/Arrays") ∈ UW := ut_1 (List.mem_of_getElem? (i := 14) rfl) rfl
theorem u_1_15 : (Jvm.Cond.initialized "java/lang/Math") ∈ UW := ut_1 (List.mem_of_getElem? (i := 15) rfl) rfl
theorem u_1_16 : (Jvm.Cond.initialized "java/lang/Integer") ∈ UW := ut_1 (List.mem_of_getElem? (i := 16) rfl) rfl
theorem u_1_17 : (Jvm.Cond.initialized "java/lang/System") ∈ UW := ut_1 (List.mem_of_getElem? (i := 17) rfl) rfl
theorem u_1_18 : (Jvm.Cond.classLink "CountTrianglesLaw" (7 : Nat) "CountTriangles") ∈ UW := ut_1 (List.mem_of_getElem? (i := 18) rfl) rfl
theorem u_1_19 : (Jvm.Cond.instantiable "CountTriangles" (5 : Nat)) ∈ UW := ut_1 (List.mem_of_getElem? (i := 19) rfl) rfl
theorem u_1_20 : (Jvm.Cond.methodLink "CountTrianglesLaw" (9 : Nat) ({ cls := "CountTriangles", name := "<init>", desc := "()V" } : Jvm.MethodName)) ∈ UW := ut_1 (List.mem_of_getElem? (i := 20) rfl) rfl
theorem u_1_21 : (Jvm.Cond.instanceMethod ({ cls := "CountTriangles", name := "<init>", desc := "()V" } : Jvm.MethodName)) ∈ UW := ut_1 (List.mem_of_getElem? (i := 21) rfl) rfl
theorem u_1_22 : (Jvm.Cond.code ({ cls := "CountTriangles", name := "<init>", desc := "()V" } : Jvm.MethodName) prog_1_method_1_code (2 : Nat) (Option.none : Option Jvm.ClassFile.FieldType)) ∈ UW := ut_1 (List.mem_of_getElem? (i := 22) rfl) rfl
theorem u_1_23 : (Jvm.Cond.methodLink "CountTriangles" (3 : Nat) ({ cls := "java/lang/Object", name := "<init>", desc := "()V" } : Jvm.MethodName)) ∈ UW := ut_1 (List.mem_of_getElem? (i := 23) rfl) rfl
theorem u_1_24 : (Jvm.Cond.instanceMethod ({ cls := "java/lang/Object", name := "<init>", desc := "()V" } : Jvm.MethodName)) ∈ UW := ut_1 (List.mem_of_getElem? (i := 24) rfl) rfl
theorem u_1_25 : (Jvm.Cond.code ({ cls := "java/lang/Object", name := "<init>", desc := "()V" } : Jvm.MethodName) object_method_1_code (1 : Nat) (Option.none : Option Jvm.ClassFile.FieldType)) ∈ UW := ut_1 (List.mem_of_getElem? (i := 25) rfl) rfl
theorem u_1_26 : (Jvm.Cond.classLink "CountTriangles" (9 : Nat) "CountTriangles$Text") ∈ UW := ut_1 (List.mem_of_getElem? (i := 26) rfl) rfl
theorem u_1_27 : (Jvm.Cond.instantiable "CountTriangles$Text" (2 : Nat)) ∈ UW := ut_1 (List.mem_of_getElem? (i := 27) rfl) rfl
theorem u_1_29 : (Jvm.Cond.instanceMethod ({ cls := "CountTriangles$Text", name := "<init>", desc := "()V" } : Jvm.MethodName)) ∈ UW := ut_1 (List.mem_of_getElem? (i := 29) rfl) rfl
theorem u_1_30 : (Jvm.Cond.code ({ cls := "CountTriangles$Text", name := "<init>", desc := "()V" } : Jvm.MethodName) prog_12_method_1_code (1 : Nat) (Option.none : Option Jvm.ClassFile.FieldType)) ∈ UW := ut_1 (List.mem_of_getElem? (i := 30) rfl) rfl
theorem u_1_31 : (Jvm.Cond.methodLink "CountTriangles$Text" (3 : Nat) ({ cls := "java/lang/Object", name := "<init>", desc := "()V" } : Jvm.MethodName)) ∈ UW := ut_1 (List.mem_of_getElem? (i := 31) rfl) rfl
theorem u_1_32 : (Jvm.Cond.fieldLink "CountTriangles$Text" (11 : Nat) "CountTriangles$Text" "bytes" "[B") ∈ UW := ut_1 (List.mem_of_getElem? (i := 32) rfl) rfl
theorem u_1_33 : (Jvm.Cond.fieldLink "CountTriangles$Text" (15 : Nat) "CountTriangles$Text" "length" "I") ∈ UW := ut_1 (List.mem_of_getElem? (i := 33) rfl) rfl
theorem u_1_34 : (Jvm.Cond.laysFinal "CountTriangles$Text" "CountTriangles$Text" "bytes" "[B") ∈ UW := ut_1 (List.mem_of_getElem? (i := 34) rfl) rfl
theorem u_1_36 : (Jvm.Cond.lays "CountTriangles$Text" "CountTriangles$Text" "length" "I") ∈ UW := ut_1 (List.mem_of_getElem? (i := 36) rfl) rfl
theorem u_1_39 : (Jvm.Cond.arrayClass Jvm.ClassFile.FieldType.byte) ∈ UW := ut_1 (List.mem_of_getElem? (i := 39) rfl) rfl
theorem u_1_40 : (Jvm.Cond.classLink "CountTriangles" (16 : Nat) "CountTriangles$Law") ∈ UW := ut_1 (List.mem_of_getElem? (i := 40) rfl) rfl
theorem u_1_42 : (Jvm.Cond.classLink "CountTriangles" (22 : Nat) "CountTriangles$Partings") ∈ UW := ut_1 (List.mem_of_getElem? (i := 42) rfl) rfl
theorem u_1_43 : (Jvm.Cond.instantiable "CountTriangles$Partings" (1 : Nat)) ∈ UW := ut_1 (List.mem_of_getElem? (i := 43) rfl) rfl
theorem u_1_45 : (Jvm.Cond.instanceMethod ({ cls := "CountTriangles$Partings", name := "<init>", desc := "()V" } : Jvm.MethodName)) ∈ UW := ut_1 (List.mem_of_getElem? (i := 45) rfl) rfl
theorem u_1_46 : (Jvm.Cond.code ({ cls := "CountTriangles$Partings", name := "<init>", desc := "()V" } : Jvm.MethodName) prog_9_method_1_code (1 : Nat) (Option.none : Option Jvm.ClassFile.FieldType)) ∈ UW := ut_1 (List.mem_of_getElem? (i := 46) rfl) rfl
theorem u_1_47 : (Jvm.Cond.methodLink "CountTriangles$Partings" (3 : Nat) ({ cls := "java/lang/Object", name := "<init>", desc := "()V" } : Jvm.MethodName)) ∈ UW := ut_1 (List.mem_of_getElem? (i := 47) rfl) rfl
theorem u_1_48 : (Jvm.Cond.fieldLink "CountTriangles$Partings" (9 : Nat) "CountTriangles$Partings" "ways" "[I") ∈ UW := ut_1 (List.mem_of_getElem? (i := 48) rfl) rfl
theorem u_1_49 : (Jvm.Cond.laysFinal "CountTriangles$Partings" "CountTriangles$Partings" "ways" "[I") ∈ UW := ut_1 (List.mem_of_getElem? (i := 49) rfl) rfl
theorem u_1_52 : (Jvm.Cond.arrayClass Jvm.ClassFile.FieldType.int) ∈ UW := ut_1 (List.mem_of_getElem? (i := 52) rfl) rfl
theorem u_1_53 : (Jvm.Cond.classLink "CountTriangles" (29 : Nat) "CountTriangles$Orders") ∈ UW := ut_1 (List.mem_of_getElem? (i := 53) rfl) rfl
theorem u_1_54 : (Jvm.Cond.instantiable "CountTriangles$Orders" (3 : Nat)) ∈ UW := ut_1 (List.mem_of_getElem? (i := 54) rfl) rfl
theorem u_1_55 : (Jvm.Cond.methodLink "CountTriangles" (31 : Nat) ({ cls := "CountTriangles$Orders", name := "<init>", desc := "()V" } : Jvm.MethodName)) ∈ UW := ut_1 (List.mem_of_getElem? (i := 55) rfl) rfl
theorem u_1_56 : (Jvm.Cond.instanceMethod ({ cls := "CountTriangles$Orders", name := "<init>", desc := "()V" } : Jvm.MethodName)) ∈ UW := ut_1 (List.mem_of_getElem? (i := 56) rfl) rfl
theorem u_1_57 : (Jvm.Cond.code ({ cls := "CountTriangles$Orders", name := "<init>", desc := "()V" } : Jvm.MethodName) prog_8_method_1_code (2 : Nat) (Option.none : Option Jvm.ClassFile.FieldType)) ∈ UW := ut_1 (List.mem_of_getElem? (i := 57) rfl) rfl
theorem u_1_58 : (Jvm.Cond.methodLink "CountTriangles$Orders" (3 : Nat) ({ cls := "java/lang/Object", name := "<init>", desc := "()V" } : Jvm.MethodName)) ∈ UW := ut_1 (List.mem_of_getElem? (i := 58) rfl) rfl
theorem u_1_59 : (Jvm.Cond.classLink "CountTriangles$Orders" (18 : Nat) "CountTriangles$Mark") ∈ UW := ut_1 (List.mem_of_getElem? (i := 59) rfl) rfl
theorem u_1_61 : (Jvm.Cond.classLink "CountTriangles$Orders" (24 : Nat) "CountTriangles$Rings") ∈ UW := ut_1 (List.mem_of_getElem? (i := 61) rfl) rfl
theorem u_1_62 : (Jvm.Cond.instantiable "CountTriangles$Rings" (1 : Nat)) ∈ UW := ut_1 (List.mem_of_getElem? (i := 62) rfl) rfl
theorem u_1_63 : (Jvm.Cond.methodLink "CountTriangles$Orders" (26 : Nat) ({ cls := "CountTriangles$Rings", name := "<init>", desc := "()V" } : Jvm.MethodName)) ∈ UW := ut_1 (List.mem_of_getElem? (i := 63) rfl) rfl
theorem u_1_64 : (Jvm.Cond.instanceMethod ({ cls := "CountTriangles$Rings", name := "<init>", desc := "()V" } : Jvm.MethodName)) ∈ UW := ut_1 (List.mem_of_getElem? (i := 64) rfl) rfl
theorem u_1_65 : (Jvm.Cond.code ({ cls := "CountTriangles$Rings", name := "<init>", desc := "()V" } : Jvm.MethodName) prog_11_method_1_code (3 : Nat) (Option.none : Option Jvm.ClassFile.FieldType)) ∈ UW := ut_1 (List.mem_of_getElem? (i := 65) rfl) rfl
theorem u_1_67 : (Jvm.Cond.instanceMethod ({ cls := "CountTriangles$Mark", name := "<init>", desc := "()V" } : Jvm.MethodName)) ∈ UW := ut_1 (List.mem_of_getElem? (i := 67) rfl) rfl
theorem u_1_68 : (Jvm.Cond.code ({ cls := "CountTriangles$Mark", name := "<init>", desc := "()V" } : Jvm.MethodName) prog_7_method_1_code (1 : Nat) (Option.none : Option Jvm.ClassFile.FieldType)) ∈ UW := ut_1 (List.mem_of_getElem? (i := 68) rfl) rfl
theorem u_1_69 : (Jvm.Cond.methodLink "CountTriangles$Mark" (1 : Nat) ({ cls := "java/lang/Object", name := "<init>", desc := "()V" } : Jvm.MethodName)) ∈ UW := ut_1 (List.mem_of_getElem? (i := 69) rfl) rfl
theorem u_1_70 : (Jvm.Cond.methodLink "CountTriangles$Rings" (15 : Nat) ({ cls := "CountTriangles$Rings", name := "ways", desc := "(III)I" } : Jvm.MethodName)) ∈ UW := ut_1 (List.mem_of_getElem? (i := 70) rfl) rfl
theorem u_1_71 : (Jvm.Cond.instanceMethod ({ cls := "CountTriangles$Rings", name := "ways", desc := "(III)I" } : Jvm.MethodName)) ∈ UW := ut_1 (List.mem_of_getElem? (i := 71) rfl) rfl
theorem u_1_72 : (Jvm.Cond.selects "CountTriangles$Rings" ({ cls := "CountTriangles$Rings", name := "ways", desc := "(III)I" } : Jvm.MethodName) ({ cls := "CountTriangles$Rings", name := "ways", desc := "(III)I" } : Jvm.MethodName)) ∈ UW := ut_1 (List.mem_of_getElem? (i := 72) rfl) rfl
theorem u_1_73 : (Jvm.Cond.code ({ cls := "CountTriangles$Rings", name := "ways", desc := "(III)I" } : Jvm.MethodName) prog_11_method_5_code (4 : Nat) (Option.some Jvm.ClassFile.FieldType.int)) ∈ UW := ut_1 (List.mem_of_getElem? (i := 73) rfl) rfl
theorem u_1_75 : (Jvm.Cond.static ({ cls := "CountTriangles", name := "within", desc := "(III)Z" } : Jvm.MethodName)) ∈ UW := ut_1 (List.mem_of_getElem? (i := 75) rfl) rfl
theorem u_1_76 : (Jvm.Cond.code ({ cls := "CountTriangles", name := "within", desc := "(III)Z" } : Jvm.MethodName) prog_1_method_35_code (3 : Nat) (Option.some Jvm.ClassFile.FieldType.boolean)) ∈ UW := ut_1 (List.mem_of_getElem? (i := 76) rfl) rfl
theorem u_1_77 : (Jvm.Cond.fieldLink "CountTriangles$Rings" (9 : Nat) "CountTriangles$Rings" "table" "[I") ∈ UW := ut_1 (List.mem_of_getElem? (i := 77) rfl) rfl
theorem u_1_78 : (Jvm.Cond.laysFinal "CountTriangles$Rings" "CountTriangles$Rings" "table" "[I") ∈ UW := ut_1 (List.mem_of_getElem? (i := 78) rfl) rfl
theorem u_1_81 : (Jvm.Cond.classLink "CountTriangles$Orders" (27 : Nat) "CountTriangles$Falls") ∈ UW := ut_1 (List.mem_of_getElem? (i := 81) rfl) rfl
theorem u_1_82 : (Jvm.Cond.instantiable "CountTriangles$Falls" (1 : Nat)) ∈ UW := ut_1 (List.mem_of_getElem? (i := 82) rfl) rfl
theorem u_1_83 : (Jvm.Cond.methodLink "CountTriangles$Orders" (29 : Nat) ({ cls := "CountTriangles$Falls", name := "<init>", desc := "()V" } : Jvm.MethodName)) ∈ UW := ut_1 (List.mem_of_getElem? (i := 83) rfl) rfl
theorem u_1_84 : (Jvm.Cond.instanceMethod ({ cls := "CountTriangles$Falls", name := "<init>", desc := "()V" } : Jvm.MethodName)) ∈ UW := ut_1 (List.mem_of_getElem? (i := 84) rfl) rfl
theorem u_1_85 : (Jvm.Cond.code ({ cls := "CountTriangles$Falls", name := "<init>", desc := "()V" } : Jvm.MethodName) prog_2_method_1_code (4 : Nat) (Option.none : Option Jvm.ClassFile.FieldType)) ∈ UW := ut_1 (List.mem_of_getElem? (i := 85) rfl) rfl
theorem u_1_87 : (Jvm.Cond.methodLink "CountTriangles$Falls" (15 : Nat) ({ cls := "CountTriangles$Falls", name := "waysByNext", desc := "(III)I" } : Jvm.MethodName)) ∈ UW := ut_1 (List.mem_of_getElem? (i := 87) rfl) rfl
theorem u_1_89 : (Jvm.Cond.instanceMethod ({ cls := "CountTriangles$Falls", name := "waysByNext", desc := "(III)I" } : Jvm.MethodName)) ∈ UW := ut_1 (List.mem_of_getElem? (i := 89) rfl) rfl
theorem u_1_90 : (Jvm.Cond.code ({ cls := "CountTriangles$Falls", name := "waysByNext", desc := "(III)I" } : Jvm.MethodName) prog_2_method_2_code (6 : Nat) (Option.some Jvm.ClassFile.FieldType.int)) ∈ UW := ut_1 (List.mem_of_getElem? (i := 90) rfl) rfl
theorem u_1_91 : (Jvm.Cond.methodLink "CountTriangles$Falls" (19 : Nat) ({ cls := "CountTriangles$Falls", name := "ways", desc := "(III)I" } : Jvm.MethodName)) ∈ UW := ut_1 (List.mem_of_getElem? (i := 91) rfl) rfl
theorem u_1_92 : (Jvm.Cond.instanceMethod ({ cls := "CountTriangles$Falls", name := "ways", desc := "(III)I" } : Jvm.MethodName)) ∈ UW := ut_1 (List.mem_of_getElem? (i := 92) rfl) rfl
theorem u_1_93 : (Jvm.Cond.selects "CountTriangles$Falls" ({ cls := "CountTriangles$Falls", name := "ways", desc := "(III)I" } : Jvm.MethodName) ({ cls := "CountTriangles$Falls", name := "ways", desc := "(III)I" } : Jvm.MethodName)) ∈ UW := ut_1 (List.mem_of_getElem? (i := 93) rfl) rfl
theorem u_1_94 : (Jvm.Cond.code ({ cls := "CountTriangles$Falls", name := "ways", desc := "(III)I" } : Jvm.MethodName) prog_2_method_6_code (4 : Nat) (Option.some Jvm.ClassFile.FieldType.int)) ∈ UW := ut_1 (List.mem_of_getElem? (i := 94) rfl) rfl
theorem u_1_96 : (Jvm.Cond.fieldLink "CountTriangles$Falls" (9 : Nat) "CountTriangles$Falls" "table" "[I") ∈ UW := ut_1 (List.mem_of_getElem? (i := 96) rfl) rfl
theorem u_1_97 : (Jvm.Cond.laysFinal "CountTriangles$Falls" "CountTriangles$Falls" "table" "[I") ∈ UW := ut_1 (List.mem_of_getElem? (i := 97) rfl) rfl
theorem u_1_100 : (Jvm.Cond.classLink "CountTriangles$Orders" (30 : Nat) "CountTriangles$LesserPairs") ∈ UW := ut_1 (List.mem_of_getElem? (i := 100) rfl) rfl
theorem u_1_101 : (Jvm.Cond.instantiable "CountTriangles$LesserPairs" (1 : Nat)) ∈ UW := ut_1 (List.mem_of_getElem? (i := 101) rfl) rfl
theorem u_1_102 : (Jvm.Cond.methodLink "CountTriangles$Orders" (32 : Nat) ({ cls := "CountTriangles$LesserPairs", name := "<init>", desc := "()V" } : Jvm.MethodName)) ∈ UW := ut_1 (List.mem_of_getElem? (i := 102) rfl) rfl
theorem u_1_103 : (Jvm.Cond.instanceMethod ({ cls := "CountTriangles$LesserPairs", name := "<init>", desc := "()V" } : Jvm.MethodName)) ∈ UW := ut_1 (List.mem_of_getElem? (i := 103) rfl) rfl
theorem u_1_104 : (Jvm.Cond.code ({ cls := "CountTriangles$LesserPairs", name := "<init>", desc := "()V" } : Jvm.MethodName) prog_5_method_1_code (3 : Nat) (Option.none : Option Jvm.ClassFile.FieldType)) ∈ UW := ut_1 (List.mem_of_getElem? (i := 104) rfl) rfl
theorem u_1_106 : (Jvm.Cond.methodLink "CountTriangles$LesserPairs" (15 : Nat) ({ cls := "CountTriangles$LesserPairs", name := "waysByNext", desc := "(II)I" } : Jvm.MethodName)) ∈ UW := ut_1 (List.mem_of_getElem? (i := 106) rfl) rfl
theorem u_1_108 : (Jvm.Cond.instanceMethod ({ cls := "CountTriangles$LesserPairs", name := "waysByNext", desc := "(II)I" } : Jvm.MethodName)) ∈ UW := ut_1 (List.mem_of_getElem? (i := 108) rfl) rfl
theorem u_1_109 : (Jvm.Cond.code ({ cls := "CountTriangles$LesserPairs", name := "waysByNext", desc := "(II)I" } : Jvm.MethodName) prog_5_method_2_code (5 : Nat) (Option.some Jvm.ClassFile.FieldType.int)) ∈ UW := ut_1 (List.mem_of_getElem? (i := 109) rfl) rfl
theorem u_1_110 : (Jvm.Cond.methodLink "CountTriangles$LesserPairs" (19 : Nat) ({ cls := "CountTriangles$LesserPairs", name := "ways", desc := "(III)I" } : Jvm.MethodName)) ∈ UW := ut_1 (List.mem_of_getElem? (i := 110) rfl) rfl
theorem u_1_111 : (Jvm.Cond.instanceMethod ({ cls := "CountTriangles$LesserPairs", name := "ways", desc := "(III)I" } : Jvm.MethodName)) ∈ UW := ut_1 (List.mem_of_getElem? (i := 111) rfl) rfl
theorem u_1_112 : (Jvm.Cond.selects "CountTriangles$LesserPairs" ({ cls := "CountTriangles$LesserPairs", name := "ways", desc := "(III)I" } : Jvm.MethodName) ({ cls := "CountTriangles$LesserPairs", name := "ways", desc := "(III)I" } : Jvm.MethodName)) ∈ UW := ut_1 (List.mem_of_getElem? (i := 112) rfl) rfl
theorem u_1_113 : (Jvm.Cond.code ({ cls := "CountTriangles$LesserPairs", name := "ways", desc := "(III)I" } : Jvm.MethodName) prog_5_method_6_code (4 : Nat) (Option.some Jvm.ClassFile.FieldType.int)) ∈ UW := ut_1 (List.mem_of_getElem? (i := 113) rfl) rfl
theorem u_1_115 : (Jvm.Cond.fieldLink "CountTriangles$LesserPairs" (9 : Nat) "CountTriangles$LesserPairs" "table" "[I") ∈ UW := ut_1 (List.mem_of_getElem? (i := 115) rfl) rfl
theorem u_1_116 : (Jvm.Cond.laysFinal "CountTriangles$LesserPairs" "CountTriangles$LesserPairs" "table" "[I") ∈ UW := ut_1 (List.mem_of_getElem? (i := 116) rfl) rfl
theorem u_1_119 : (Jvm.Cond.classLink "CountTriangles$Orders" (33 : Nat) "CountTriangles$Heights") ∈ UW := ut_1 (List.mem_of_getElem? (i := 119) rfl) rfl
theorem u_1_120 : (Jvm.Cond.instantiable "CountTriangles$Heights" (1 : Nat)) ∈ UW := ut_1 (List.mem_of_getElem? (i := 120) rfl) rfl
theorem u_1_121 : (Jvm.Cond.methodLink "CountTriangles$Orders" (35 : Nat) ({ cls := "CountTriangles$Heights", name := "<init>", desc := "(LCountTriangles$Rings;)V" } : Jvm.MethodName)) ∈ UW := ut_1 (List.mem_of_getElem? (i := 121) rfl) rfl
theorem u_1_122 : (Jvm.Cond.instanceMethod ({ cls := "CountTriangles$Heights", name := "<init>", desc := "(LCountTriangles$Rings;)V" } : Jvm.MethodName)) ∈ UW := ut_1 (List.mem_of_getElem? (i := 122) rfl) rfl
theorem u_1_123 : (Jvm.Cond.code ({ cls := "CountTriangles$Heights", name := "<init>", desc := "(LCountTriangles$Rings;)V" } : Jvm.MethodName) prog_3_method_1_code (2 : Nat) (Option.none : Option Jvm.ClassFile.FieldType)) ∈ UW := ut_1 (List.mem_of_getElem? (i := 123) rfl) rfl
theorem u_1_125 : (Jvm.Cond.fieldLink "CountTriangles$Heights" (9 : Nat) "CountTriangles$Heights" "rings" "LCountTriangles$Rings;") ∈ UW := ut_1 (List.mem_of_getElem? (i := 125) rfl) rfl
theorem u_1_126 : (Jvm.Cond.laysFinal "CountTriangles$Heights" "CountTriangles$Heights" "rings" "LCountTriangles$Rings;") ∈ UW := ut_1 (List.mem_of_getElem? (i := 126) rfl) rfl
theorem u_1_129 : (Jvm.Cond.classLink "CountTriangles$Orders" (38 : Nat) "CountTriangles$LongestRise") ∈ UW := ut_1 (List.mem_of_getElem? (i := 129) rfl) rfl
theorem u_1_130 : (Jvm.Cond.instantiable "CountTriangles$LongestRise" (2 : Nat)) ∈ UW := ut_1 (List.mem_of_getElem? (i := 130) rfl) rfl
theorem u_1_132 : (Jvm.Cond.instanceMethod ({ cls := "CountTriangles$LongestRise", name := "<init>", desc := "()V" } : Jvm.MethodName)) ∈ UW := ut_1 (List.mem_of_getElem? (i := 132) rfl) rfl
theorem u_1_133 : (Jvm.Cond.code ({ cls := "CountTriangles$LongestRise", name := "<init>", desc := "()V" } : Jvm.MethodName) prog_6_method_1_code (1 : Nat) (Option.none : Option Jvm.ClassFile.FieldType)) ∈ UW := ut_1 (List.mem_of_getElem? (i := 133) rfl) rfl
theorem u_1_135 : (Jvm.Cond.fieldLink "CountTriangles$LongestRise" (11 : Nat) "CountTriangles$LongestRise" "table" "[I") ∈ UW := ut_1 (List.mem_of_getElem? (i := 135) rfl) rfl
theorem u_1_136 : (Jvm.Cond.fieldLink "CountTriangles$LongestRise" (15 : Nat) "CountTriangles$LongestRise" "wanted" "I") ∈ UW := ut_1 (List.mem_of_getElem? (i := 136) rfl) rfl
theorem u_1_137 : (Jvm.Cond.laysFinal "CountTriangles$LongestRise" "CountTriangles$LongestRise" "table" "[I") ∈ UW := ut_1 (List.mem_of_getElem? (i := 137) rfl) rfl
theorem u_1_139 : (Jvm.Cond.lays "CountTriangles$LongestRise" "CountTriangles$LongestRise" "wanted" "I") ∈ UW := ut_1 (List.mem_of_getElem? (i := 139) rfl) rfl
theorem u_1_142 : (Jvm.Cond.fieldLink "CountTriangles$Orders" (9 : Nat) "CountTriangles$Orders" "row" "[I") ∈ UW := ut_1 (List.mem_of_getElem? (i := 142) rfl) rfl
theorem u_1_143 : (Jvm.Cond.fieldLink "CountTriangles$Orders" (15 : Nat) "CountTriangles$Orders" "source" "[I") ∈ UW := ut_1 (List.mem_of_getElem? (i := 143) rfl) rfl
theorem u_1_144 : (Jvm.Cond.fieldLink "CountTriangles$Orders" (20 : Nat) "CountTriangles$Orders" "marks" "[LCountTriangles$Mark;") ∈ UW := ut_1 (List.mem_of_getElem? (i := 144) rfl) rfl
theorem u_1_145 : (Jvm.Cond.laysFinal "CountTriangles$Orders" "CountTriangles$Orders" "row" "[I") ∈ UW := ut_1 (List.mem_of_getElem? (i := 145) rfl) rfl
theorem u_1_147 : (Jvm.Cond.laysFinal "CountTriangles$Orders" "CountTriangles$Orders" "source" "[I") ∈ UW := ut_1 (List.mem_of_getElem? (i := 147) rfl) rfl
theorem u_1_149 : (Jvm.Cond.laysFinal "CountTriangles$Orders" "CountTriangles$Orders" "marks" "[LCountTriangles$Mark;") ∈ UW := ut_1 (List.mem_of_getElem? (i := 149) rfl) rfl
theorem u_1_152 : (Jvm.Cond.classLink "CountTriangles" (36 : Nat) "CountTriangles$Polynomial") ∈ UW := ut_1 (List.mem_of_getElem? (i := 152) rfl) rfl
theorem u_1_154 : (Jvm.Cond.instantiable "CountTriangles$Law" (7 : Nat)) ∈ UW := ut_1 (List.mem_of_getElem? (i := 154) rfl) rfl
theorem u_1_155 : (Jvm.Cond.methodLink "CountTriangles" (42 : Nat) ({ cls := "CountTriangles$Law", name := "<init>", desc := "()V" } : Jvm.MethodName)) ∈ UW := ut_1 (List.mem_of_getElem? (i := 155) rfl) rfl
theorem u_1_156 : (Jvm.Cond.instanceMethod ({ cls := "CountTriangles$Law", name := "<init>", desc := "()V" } : Jvm.MethodName)) ∈ UW := ut_1 (List.mem_of_getElem? (i := 156) rfl) rfl
theorem u_1_157 : (Jvm.Cond.code ({ cls := "CountTriangles$Law", name := "<init>", desc := "()V" } : Jvm.MethodName) prog_4_method_1_code (1 : Nat) (Option.none : Option Jvm.ClassFile.FieldType)) ∈ UW := ut_1 (List.mem_of_getElem? (i := 157) rfl) rfl
theorem u_1_158 : (Jvm.Cond.methodLink "CountTriangles$Law" (3 : Nat) ({ cls := "java/lang/Object", name := "<init>", desc := "()V" } : Jvm.MethodName)) ∈ UW := ut_1 (List.mem_of_getElem? (i := 158) rfl) rfl
theorem u_1_159 : (Jvm.Cond.fieldLink "CountTriangles$Law" (9 : Nat) "CountTriangles$Law" "left" "[I") ∈ UW := ut_1 (List.mem_of_getElem? (i := 159) rfl) rfl
theorem u_1_160 : (Jvm.Cond.fieldLink "CountTriangles$Law" (15 : Nat) "CountTriangles$Law" "above" "[I") ∈ UW := ut_1 (List.mem_of_getElem? (i := 160) rfl) rfl
theorem u_1_161 : (Jvm.Cond.fieldLink "CountTriangles$Law" (18 : Nat) "CountTriangles$Law" "numbers" "[J") ∈ UW := ut_1 (List.mem_of_getElem? (i := 161) rfl) rfl
theorem u_1_162 : (Jvm.Cond.fieldLink "CountTriangles$Law" (22 : Nat) "CountTriangles$Law" "column" "[J") ∈ UW := ut_1 (List.mem_of_getElem? (i := 162) rfl) rfl
theorem u_1_163 : (Jvm.Cond.fieldLink "CountTriangles$Law" (25 : Nat) "CountTriangles$Law" "rests" "[I") ∈ UW := ut_1 (List.mem_of_getElem? (i := 163) rfl) rfl
theorem u_1_164 : (Jvm.Cond.fieldLink "CountTriangles$Law" (28 : Nat) "CountTriangles$Law" "top" "I") ∈ UW := ut_1 (List.mem_of_getElem? (i := 164) rfl) rfl
theorem u_1_165 : (Jvm.Cond.fieldLink "CountTriangles$Law" (32 : Nat) "CountTriangles$Law" "items" "I") ∈ UW := ut_1 (List.mem_of_getElem? (i := 165) rfl) rfl
theorem u_1_166 : (Jvm.Cond.laysFinal "CountTriangles$Law" "CountTriangles$Law" "left" "[I") ∈ UW := ut_1 (List.mem_of_getElem? (i := 166) rfl) rfl
theorem u_1_168 : (Jvm.Cond.laysFinal "CountTriangles$Law" "CountTriangles$Law" "above" "[I") ∈ UW := ut_1 (List.mem_of_getElem? (i := 168) rfl) rfl
theorem u_1_170 : (Jvm.Cond.laysFinal "CountTriangles$Law" "CountTriangles$Law" "numbers" "[J") ∈ UW := ut_1 (List.mem_of_getElem? (i := 170) rfl) rfl
theorem u_1_172 : (Jvm.Cond.laysFinal "CountTriangles$Law" "CountTriangles$Law" "column" "[J") ∈ UW := ut_1 (List.mem_of_getElem? (i := 172) rfl) rfl
theorem u_1_174 : (Jvm.Cond.laysFinal "CountTriangles$Law" "CountTriangles$Law" "rests" "[I") ∈ UW := ut_1 (List.mem_of_getElem? (i := 174) rfl) rfl
theorem u_1_176 : (Jvm.Cond.lays "CountTriangles$Law" "CountTriangles$Law" "top" "I") ∈ UW := ut_1 (List.mem_of_getElem? (i := 176) rfl) rfl
theorem u_1_178 : (Jvm.Cond.lays "CountTriangles$Law" "CountTriangles$Law" "items" "I") ∈ UW := ut_1 (List.mem_of_getElem? (i := 178) rfl) rfl
theorem u_1_181 : (Jvm.Cond.arrayClass Jvm.ClassFile.FieldType.long) ∈ UW := ut_1 (List.mem_of_getElem? (i := 181) rfl) rfl
theorem u_1_182 : (Jvm.Cond.instantiable "CountTriangles$Polynomial" (3 : Nat)) ∈ UW := ut_1 (List.mem_of_getElem? (i := 182) rfl) rfl
theorem u_1_184 : (Jvm.Cond.instanceMethod ({ cls := "CountTriangles$Polynomial", name := "<init>", desc := "()V" } : Jvm.MethodName)) ∈ UW := ut_1 (List.mem_of_getElem? (i := 184) rfl) rfl
theorem u_1_185 : (Jvm.Cond.code ({ cls := "CountTriangles$Polynomial", name := "<init>", desc := "()V" } : Jvm.MethodName) prog_10_method_1_code (1 : Nat) (Option.none : Option Jvm.ClassFile.FieldType)) ∈ UW := ut_1 (List.mem_of_getElem? (i := 185) rfl) rfl
theorem u_1_186 : (Jvm.Cond.methodLink "CountTriangles$Polynomial" (3 : Nat) ({ cls := "java/lang/Object", name := "<init>", desc := "()V" } : Jvm.MethodName)) ∈ UW := ut_1 (List.mem_of_getElem? (i := 186) rfl) rfl
theorem u_1_187 : (Jvm.Cond.fieldLink "CountTriangles$Polynomial" (9 : Nat) "CountTriangles$Polynomial" "coefficients" "[J") ∈ UW := ut_1 (List.mem_of_getElem? (i := 187) rfl) rfl
theorem u_1_188 : (Jvm.Cond.fieldLink "CountTriangles$Polynomial" (15 : Nat) "CountTriangles$Polynomial" "room" "[J") ∈ UW := ut_1 (List.mem_of_getElem? (i := 188) rfl) rfl
theorem u_1_189 : (Jvm.Cond.fieldLink "CountTriangles$Polynomial" (18 : Nat) "CountTriangles$Polynomial" "base" "I") ∈ UW := ut_1 (List.mem_of_getElem? (i := 189) rfl) rfl
theorem u_1_190 : (Jvm.Cond.laysFinal "CountTriangles$Polynomial" "CountTriangles$Polynomial" "coefficients" "[J") ∈ UW := ut_1 (List.mem_of_getElem? (i := 190) rfl) rfl
theorem u_1_192 : (Jvm.Cond.laysFinal "CountTriangles$Polynomial" "CountTriangles$Polynomial" "room" "[J") ∈ UW := ut_1 (List.mem_of_getElem? (i := 192) rfl) rfl
theorem u_1_194 : (Jvm.Cond.lays "CountTriangles$Polynomial" "CountTriangles$Polynomial" "base" "I") ∈ UW := ut_1 (List.mem_of_getElem? (i := 194) rfl) rfl
theorem u_1_197 : (Jvm.Cond.fieldLink "CountTriangles" (12 : Nat) "CountTriangles" "text" "LCountTriangles$Text;") ∈ UW := ut_1 (List.mem_of_getElem? (i := 197) rfl) rfl
theorem u_1_198 : (Jvm.Cond.fieldLink "CountTriangles" (18 : Nat) "CountTriangles" "laws" "[LCountTriangles$Law;") ∈ UW := ut_1 (List.mem_of_getElem? (i := 198) rfl) rfl
theorem u_1_199 : (Jvm.Cond.fieldLink "CountTriangles" (25 : Nat) "CountTriangles" "partings" "LCountTriangles$Partings;") ∈ UW := ut_1 (List.mem_of_getElem? (i := 199) rfl) rfl
theorem u_1_200 : (Jvm.Cond.fieldLink "CountTriangles" (32 : Nat) "CountTriangles" "orders" "LCountTriangles$Orders;") ∈ UW := ut_1 (List.mem_of_getElem? (i := 200) rfl) rfl
theorem u_1_201 : (Jvm.Cond.fieldLink "CountTriangles" (38 : Nat) "CountTriangles" "polynomials" "[LCountTriangles$Polynomial;") ∈ UW := ut_1 (List.mem_of_getElem? (i := 201) rfl) rfl
theorem u_1_202 : (Jvm.Cond.laysFinal "CountTriangles" "CountTriangles" "text" "LCountTriangles$Text;") ∈ UW := ut_1 (List.mem_of_getElem? (i := 202) rfl) rfl
theorem u_1_204 : (Jvm.Cond.laysFinal "CountTriangles" "CountTriangles" "laws" "[LCountTriangles$Law;") ∈ UW := ut_1 (List.mem_of_getElem? (i := 204) rfl) rfl
theorem u_1_206 : (Jvm.Cond.laysFinal "CountTriangles" "CountTriangles" "partings" "LCountTriangles$Partings;") ∈ UW := ut_1 (List.mem_of_getElem? (i := 206) rfl) rfl
theorem u_1_208 : (Jvm.Cond.laysFinal "CountTriangles" "CountTriangles" "orders" "LCountTriangles$Orders;") ∈ UW := ut_1 (List.mem_of_getElem? (i := 208) rfl) rfl
theorem u_1_210 : (Jvm.Cond.laysFinal "CountTriangles" "CountTriangles" "polynomials" "[LCountTriangles$Polynomial;") ∈ UW := ut_1 (List.mem_of_getElem? (i := 210) rfl) rfl
theorem u_1_213 : (Jvm.Cond.methodLink "CountTrianglesLaw" (15 : Nat) ({ cls := "CountTriangles", name := "write", desc := "(IJ)I" } : Jvm.MethodName)) ∈ UW := ut_1 (List.mem_of_getElem? (i := 213) rfl) rfl
theorem u_1_214 : (Jvm.Cond.instanceMethod ({ cls := "CountTriangles", name := "write", desc := "(IJ)I" } : Jvm.MethodName)) ∈ UW := ut_1 (List.mem_of_getElem? (i := 214) rfl) rfl
theorem u_1_215 : (Jvm.Cond.selects "CountTriangles" ({ cls := "CountTriangles", name := "write", desc := "(IJ)I" } : Jvm.MethodName) ({ cls := "CountTriangles", name := "write", desc := "(IJ)I" } : Jvm.MethodName)) ∈ UW := ut_1 (List.mem_of_getElem? (i := 215) rfl) rfl
theorem u_1_216 : (Jvm.Cond.code ({ cls := "CountTriangles", name := "write", desc := "(IJ)I" } : Jvm.MethodName) prog_1_method_2_code (4 : Nat) (Option.some Jvm.ClassFile.FieldType.int)) ∈ UW := ut_1 (List.mem_of_getElem? (i := 216) rfl) rfl
theorem u_1_217 : (Jvm.Cond.methodLink "CountTriangles" (44 : Nat) ({ cls := "CountTriangles", name := "within", desc := "(III)Z" } : Jvm.MethodName)) ∈ UW := ut_1 (List.mem_of_getElem? (i := 217) rfl) rfl
theorem u_1_218 : (Jvm.Cond.methodLink "CountTriangles" (48 : Nat) ({ cls := "CountTriangles$Text", name := "append", desc := "(IJ)Z" } : Jvm.MethodName)) ∈ UW := ut_1 (List.mem_of_getElem? (i := 218) rfl) rfl
theorem u_1_219 : (Jvm.Cond.instanceMethod ({ cls := "CountTriangles$Text", name := "append", desc := "(IJ)Z" } : Jvm.MethodName)) ∈ UW := ut_1 (List.mem_of_getElem? (i := 219) rfl) rfl
theorem u_1_220 : (Jvm.Cond.selects "CountTriangles$Text" ({ cls := "CountTriangles$Text", name := "append", desc := "(IJ)Z" } : Jvm.MethodName) ({ cls := "CountTriangles$Text", name := "append", desc := "(IJ)Z" } : Jvm.MethodName)) ∈ UW := ut_1 (List.mem_of_getElem? (i := 220) rfl) rfl
theorem u_1_221 : (Jvm.Cond.code ({ cls := "CountTriangles$Text", name := "append", desc := "(IJ)Z" } : Jvm.MethodName) prog_12_method_4_code (5 : Nat) (Option.some Jvm.ClassFile.FieldType.boolean)) ∈ UW := ut_1 (List.mem_of_getElem? (i := 221) rfl) rfl
theorem u_1_222 : (Jvm.Cond.methodLink "CountTriangles" (52 : Nat) ({ cls := "CountTriangles$Text", name := "length", desc := "()I" } : Jvm.MethodName)) ∈ UW := ut_1 (List.mem_of_getElem? (i := 222) rfl) rfl
theorem u_1_223 : (Jvm.Cond.instanceMethod ({ cls := "CountTriangles$Text", name := "length", desc := "()I" } : Jvm.MethodName)) ∈ UW := ut_1 (List.mem_of_getElem? (i := 223) rfl) rfl
theorem u_1_224 : (Jvm.Cond.selects "CountTriangles$Text" ({ cls := "CountTriangles$Text", name := "length", desc := "()I" } : Jvm.MethodName) ({ cls := "CountTriangles$Text", name := "length", desc := "()I" } : Jvm.MethodName)) ∈ UW := ut_1 (List.mem_of_getElem? (i := 224) rfl) rfl
theorem u_1_225 : (Jvm.Cond.code ({ cls := "CountTriangles$Text", name := "length", desc := "()I" } : Jvm.MethodName) prog_12_method_2_code (1 : Nat) (Option.some Jvm.ClassFile.FieldType.int)) ∈ UW := ut_1 (List.mem_of_getElem? (i := 225) rfl) rfl
theorem u_1_226 : (Jvm.Cond.methodLink "CountTrianglesLaw" (20 : Nat) ({ cls := "CountTriangles", name := "wipe", desc := "()I" } : Jvm.MethodName)) ∈ UW := ut_1 (List.mem_of_getElem? (i := 226) rfl) rfl
theorem u_1_227 : (Jvm.Cond.instanceMethod ({ cls := "CountTriangles", name := "wipe", desc := "()I" } : Jvm.MethodName)) ∈ UW := ut_1 (List.mem_of_getElem? (i := 227) rfl) rfl
theorem u_1_228 : (Jvm.Cond.selects "CountTriangles" ({ cls := "CountTriangles", name := "wipe", desc := "()I" } : Jvm.MethodName) ({ cls := "CountTriangles", name := "wipe", desc := "()I" } : Jvm.MethodName)) ∈ UW := ut_1 (List.mem_of_getElem? (i := 228) rfl) rfl
theorem u_1_229 : (Jvm.Cond.code ({ cls := "CountTriangles", name := "wipe", desc := "()I" } : Jvm.MethodName) prog_1_method_3_code (2 : Nat) (Option.some Jvm.ClassFile.FieldType.int)) ∈ UW := ut_1 (List.mem_of_getElem? (i := 229) rfl) rfl
theorem u_1_230 : (Jvm.Cond.methodLink "CountTriangles" (56 : Nat) ({ cls := "CountTriangles$Text", name := "clear", desc := "()V" } : Jvm.MethodName)) ∈ UW := ut_1 (List.mem_of_getElem? (i := 230) rfl) rfl
theorem u_1_231 : (Jvm.Cond.instanceMethod ({ cls := "CountTriangles$Text", name := "clear", desc := "()V" } : Jvm.MethodName)) ∈ UW := ut_1 (List.mem_of_getElem? (i := 231) rfl) rfl
theorem u_1_232 : (Jvm.Cond.selects "CountTriangles$Text" ({ cls := "CountTriangles$Text", name := "clear", desc := "()V" } : Jvm.MethodName) ({ cls := "CountTriangles$Text", name := "clear", desc := "()V" } : Jvm.MethodName)) ∈ UW := ut_1 (List.mem_of_getElem? (i := 232) rfl) rfl
theorem u_1_233 : (Jvm.Cond.code ({ cls := "CountTriangles$Text", name := "clear", desc := "()V" } : Jvm.MethodName) prog_12_method_3_code (1 : Nat) (Option.none : Option Jvm.ClassFile.FieldType)) ∈ UW := ut_1 (List.mem_of_getElem? (i := 233) rfl) rfl
theorem u_1_234 : (Jvm.Cond.methodLink "CountTrianglesLaw" (25 : Nat) ({ cls := "CountTriangles", name := "fault", desc := "()I" } : Jvm.MethodName)) ∈ UW := ut_1 (List.mem_of_getElem? (i := 234) rfl) rfl
theorem u_1_235 : (Jvm.Cond.instanceMethod ({ cls := "CountTriangles", name := "fault", desc := "()I" } : Jvm.MethodName)) ∈ UW := ut_1 (List.mem_of_getElem? (i := 235) rfl) rfl
theorem u_1_236 : (Jvm.Cond.selects "CountTriangles" ({ cls := "CountTriangles", name := "fault", desc := "()I" } : Jvm.MethodName) ({ cls := "CountTriangles", name := "fault", desc := "()I" } : Jvm.MethodName)) ∈ UW := ut_1 (List.mem_of_getElem? (i := 236) rfl) rfl
theorem u_1_237 : (Jvm.Cond.code ({ cls := "CountTriangles", name := "fault", desc := "()I" } : Jvm.MethodName) prog_1_method_4_code (1 : Nat) (Option.some Jvm.ClassFile.FieldType.int)) ∈ UW := ut_1 (List.mem_of_getElem? (i := 237) rfl) rfl
theorem u_1_238 : (Jvm.Cond.methodLink "CountTriangles" (59 : Nat) ({ cls := "CountTriangles$Text", name := "firstFault", desc := "()I" } : Jvm.MethodName)) ∈ UW := ut_1 (List.mem_of_getElem? (i := 238) rfl) rfl
theorem u_1_239 : (Jvm.Cond.instanceMethod ({ cls := "CountTriangles$Text", name := "firstFault", desc := "()I" } : Jvm.MethodName)) ∈ UW := ut_1 (List.mem_of_getElem? (i := 239) rfl) rfl
theorem u_2_0 : (Jvm.Cond.selects "CountTriangles$Text" ({ cls := "CountTriangles$Text", name := "firstFault", desc := "()I" } : Jvm.MethodName) ({ cls := "CountTriangles$Text", name := "firstFault", desc := "()I" } : Jvm.MethodName)) ∈ UW := ut_2 (List.mem_of_getElem? (i := 0) rfl) rfl
theorem u_2_1 : (Jvm.Cond.code ({ cls := "CountTriangles$Text", name := "firstFault", desc := "()I" } : Jvm.MethodName) prog_12_method_6_code (4 : Nat) (Option.some Jvm.ClassFile.FieldType.int)) ∈ UW := ut_2 (List.mem_of_getElem? (i := 1) rfl) rfl
theorem u_2_2 : (Jvm.Cond.methodLink "CountTriangles$Text" (19 : Nat) ({ cls := "CountTriangles$Text", name := "itemEnd", desc := "(I)I" } : Jvm.MethodName)) ∈ UW := ut_2 (List.mem_of_getElem? (i := 2) rfl) rfl
theorem u_2_3 : (Jvm.Cond.instanceMethod ({ cls := "CountTriangles$Text", name := "itemEnd", desc := "(I)I" } : Jvm.MethodName)) ∈ UW := ut_2 (List.mem_of_getElem? (i := 3) rfl) rfl
theorem u_2_4 : (Jvm.Cond.selects "CountTriangles$Text" ({ cls := "CountTriangles$Text", name := "itemEnd", desc := "(I)I" } : Jvm.MethodName) ({ cls := "CountTriangles$Text", name := "itemEnd", desc := "(I)I" } : Jvm.MethodName)) ∈ UW := ut_2 (List.mem_of_getElem? (i := 4) rfl) rfl
theorem u_2_5 : (Jvm.Cond.code ({ cls := "CountTriangles$Text", name := "itemEnd", desc := "(I)I" } : Jvm.MethodName) prog_12_method_7_code (6 : Nat) (Option.some Jvm.ClassFile.FieldType.int)) ∈ UW := ut_2 (List.mem_of_getElem? (i := 5) rfl) rfl
theorem u_2_6 : (Jvm.Cond.methodLink "CountTriangles$Text" (23 : Nat) ({ cls := "CountTriangles$Text", name := "byteAt", desc := "(I)I" } : Jvm.MethodName)) ∈ UW := ut_2 (List.mem_of_getElem? (i := 6) rfl) rfl
theorem u_2_7 : (Jvm.Cond.instanceMethod ({ cls := "CountTriangles$Text", name := "byteAt", desc := "(I)I" } : Jvm.MethodName)) ∈ UW := ut_2 (List.mem_of_getElem? (i := 7) rfl) rfl
theorem u_2_8 : (Jvm.Cond.selects "CountTriangles$Text" ({ cls := "CountTriangles$Text", name := "byteAt", desc := "(I)I" } : Jvm.MethodName) ({ cls := "CountTriangles$Text", name := "byteAt", desc := "(I)I" } : Jvm.MethodName)) ∈ UW := ut_2 (List.mem_of_getElem? (i := 8) rfl) rfl
theorem u_2_9 : (Jvm.Cond.code ({ cls := "CountTriangles$Text", name := "byteAt", desc := "(I)I" } : Jvm.MethodName) prog_12_method_5_code (2 : Nat) (Option.some Jvm.ClassFile.FieldType.int)) ∈ UW := ut_2 (List.mem_of_getElem? (i := 9) rfl) rfl
theorem u_2_10 : (Jvm.Cond.methodLink "CountTriangles$Text" (26 : Nat) ({ cls := "CountTriangles$Text", name := "numbersBehind", desc := "(I)I" } : Jvm.MethodName)) ∈ UW := ut_2 (List.mem_of_getElem? (i := 10) rfl) rfl
theorem u_2_11 : (Jvm.Cond.static ({ cls := "CountTriangles$Text", name := "numbersBehind", desc := "(I)I" } : Jvm.MethodName)) ∈ UW := ut_2 (List.mem_of_getElem? (i := 11) rfl) rfl
theorem u_2_12 : (Jvm.Cond.code ({ cls := "CountTriangles$Text", name := "numbersBehind", desc := "(I)I" } : Jvm.MethodName) prog_12_method_8_code (1 : Nat) (Option.some Jvm.ClassFile.FieldType.int)) ∈ UW := ut_2 (List.mem_of_getElem? (i := 12) rfl) rfl
theorem u_2_13 : (Jvm.Cond.methodLink "CountTriangles$Text" (29 : Nat) ({ cls := "CountTriangles$Text", name := "numberEnd", desc := "(I)I" } : Jvm.MethodName)) ∈ UW := ut_2 (List.mem_of_getElem? (i := 13) rfl) rfl
theorem u_2_15 : (Jvm.Cond.instanceMethod ({ cls := "CountTriangles$Text", name := "numberEnd", desc := "(I)I" } : Jvm.MethodName)) ∈ UW := ut_2 (List.mem_of_getElem? (i := 15) rfl) rfl
theorem u_2_16 : (Jvm.Cond.code ({ cls := "CountTriangles$Text", name := "numberEnd", desc := "(I)I" } : Jvm.MethodName) prog_12_method_9_code (5 : Nat) (Option.some Jvm.ClassFile.FieldType.int)) ∈ UW := ut_2 (List.mem_of_getElem? (i := 16) rfl) rfl
theorem u_2_17 : (Jvm.Cond.methodLink "CountTrianglesLaw" (29 : Nat) ({ cls := "CountTriangles", name := "lay", desc := "(I)I" } : Jvm.MethodName)) ∈ UW := ut_2 (List.mem_of_getElem? (i := 17) rfl) rfl
theorem u_2_18 : (Jvm.Cond.instanceMethod ({ cls := "CountTriangles", name := "lay", desc := "(I)I" } : Jvm.MethodName)) ∈ UW := ut_2 (List.mem_of_getElem? (i := 18) rfl) rfl
theorem u_2_19 : (Jvm.Cond.selects "CountTriangles" ({ cls := "CountTriangles", name := "lay", desc := "(I)I" } : Jvm.MethodName) ({ cls := "CountTriangles", name := "lay", desc := "(I)I" } : Jvm.MethodName)) ∈ UW := ut_2 (List.mem_of_getElem? (i := 19) rfl) rfl
theorem u_2_20 : (Jvm.Cond.code ({ cls := "CountTriangles", name := "lay", desc := "(I)I" } : Jvm.MethodName) prog_1_method_5_code (2 : Nat) (Option.some Jvm.ClassFile.FieldType.int)) ∈ UW := ut_2 (List.mem_of_getElem? (i := 20) rfl) rfl
theorem u_2_21 : (Jvm.Cond.methodLink "CountTriangles" (62 : Nat) ({ cls := "CountTriangles", name := "isLaw", desc := "(I)Z" } : Jvm.MethodName)) ∈ UW := ut_2 (List.mem_of_getElem? (i := 21) rfl) rfl
theorem u_2_22 : (Jvm.Cond.static ({ cls := "CountTriangles", name := "isLaw", desc := "(I)Z" } : Jvm.MethodName)) ∈ UW := ut_2 (List.mem_of_getElem? (i := 22) rfl) rfl
theorem u_2_23 : (Jvm.Cond.code ({ cls := "CountTriangles", name := "isLaw", desc := "(I)Z" } : Jvm.MethodName) prog_1_method_32_code (1 : Nat) (Option.some Jvm.ClassFile.FieldType.boolean)) ∈ UW := ut_2 (List.mem_of_getElem? (i := 23) rfl) rfl
theorem u_2_24 : (Jvm.Cond.methodLink "CountTriangles" (66 : Nat) ({ cls := "CountTriangles$Law", name := "layFrom", desc := "(LCountTriangles$Text;)V" } : Jvm.MethodName)) ∈ UW := ut_2 (List.mem_of_getElem? (i := 24) rfl) rfl
theorem u_2_25 : (Jvm.Cond.instanceMethod ({ cls := "CountTriangles$Law", name := "layFrom", desc := "(LCountTriangles$Text;)V" } : Jvm.MethodName)) ∈ UW := ut_2 (List.mem_of_getElem? (i := 25) rfl) rfl
theorem u_2_26 : (Jvm.Cond.selects "CountTriangles$Law" ({ cls := "CountTriangles$Law", name := "layFrom", desc := "(LCountTriangles$Text;)V" } : Jvm.MethodName) ({ cls := "CountTriangles$Law", name := "layFrom", desc := "(LCountTriangles$Text;)V" } : Jvm.MethodName)) ∈ UW := ut_2 (List.mem_of_getElem? (i := 26) rfl) rfl
theorem u_2_27 : (Jvm.Cond.code ({ cls := "CountTriangles$Law", name := "layFrom", desc := "(LCountTriangles$Text;)V" } : Jvm.MethodName) prog_4_method_3_code (5 : Nat) (Option.none : Option Jvm.ClassFile.FieldType)) ∈ UW := ut_2 (List.mem_of_getElem? (i := 27) rfl) rfl
theorem u_2_28 : (Jvm.Cond.methodLink "CountTriangles$Law" (35 : Nat) ({ cls := "java/util/Arrays", name := "fill", desc := "([II)V" } : Jvm.MethodName)) ∈ UW := ut_2 (List.mem_of_getElem? (i := 28) rfl) rfl
theorem u_2_29 : (Jvm.Cond.static ({ cls := "java/util/Arrays", name := "fill", desc := "([II)V" } : Jvm.MethodName)) ∈ UW := ut_2 (List.mem_of_getElem? (i := 29) rfl) rfl
theorem u_2_30 : (Jvm.Cond.code ({ cls := "java/util/Arrays", name := "fill", desc := "([II)V" } : Jvm.MethodName) prog_18_method_103_code (4 : Nat) (Option.none : Option Jvm.ClassFile.FieldType)) ∈ UW := ut_2 (List.mem_of_getElem? (i := 30) rfl) rfl
theorem u_2_31 : (Jvm.Cond.methodLink "CountTriangles$Law" (43 : Nat) ({ cls := "CountTriangles$Text", name := "length", desc := "()I" } : Jvm.MethodName)) ∈ UW := ut_2 (List.mem_of_getElem? (i := 31) rfl) rfl
theorem u_2_32 : (Jvm.Cond.methodLink "CountTriangles$Law" (47 : Nat) ({ cls := "CountTriangles$Text", name := "itemEnd", desc := "(I)I" } : Jvm.MethodName)) ∈ UW := ut_2 (List.mem_of_getElem? (i := 32) rfl) rfl
theorem u_2_33 : (Jvm.Cond.methodLink "CountTriangles$Law" (51 : Nat) ({ cls := "CountTriangles$Law", name := "takeItem", desc := "(LCountTriangles$Text;I)V" } : Jvm.MethodName)) ∈ UW := ut_2 (List.mem_of_getElem? (i := 33) rfl) rfl
theorem u_2_35 : (Jvm.Cond.instanceMethod ({ cls := "CountTriangles$Law", name := "takeItem", desc := "(LCountTriangles$Text;I)V" } : Jvm.MethodName)) ∈ UW := ut_2 (List.mem_of_getElem? (i := 35) rfl) rfl
theorem u_2_36 : (Jvm.Cond.code ({ cls := "CountTriangles$Law", name := "takeItem", desc := "(LCountTriangles$Text;I)V" } : Jvm.MethodName) prog_4_method_4_code (7 : Nat) (Option.none : Option Jvm.ClassFile.FieldType)) ∈ UW := ut_2 (List.mem_of_getElem? (i := 36) rfl) rfl
theorem u_2_37 : (Jvm.Cond.methodLink "CountTriangles$Law" (58 : Nat) ({ cls := "CountTriangles$Text", name := "byteAt", desc := "(I)I" } : Jvm.MethodName)) ∈ UW := ut_2 (List.mem_of_getElem? (i := 37) rfl) rfl
theorem u_2_38 : (Jvm.Cond.methodLink "CountTriangles$Law" (61 : Nat) ({ cls := "CountTriangles$Text", name := "numberFrom", desc := "(I)I" } : Jvm.MethodName)) ∈ UW := ut_2 (List.mem_of_getElem? (i := 38) rfl) rfl
theorem u_2_39 : (Jvm.Cond.instanceMethod ({ cls := "CountTriangles$Text", name := "numberFrom", desc := "(I)I" } : Jvm.MethodName)) ∈ UW := ut_2 (List.mem_of_getElem? (i := 39) rfl) rfl
theorem u_2_40 : (Jvm.Cond.selects "CountTriangles$Text" ({ cls := "CountTriangles$Text", name := "numberFrom", desc := "(I)I" } : Jvm.MethodName) ({ cls := "CountTriangles$Text", name := "numberFrom", desc := "(I)I" } : Jvm.MethodName)) ∈ UW := ut_2 (List.mem_of_getElem? (i := 40) rfl) rfl
theorem u_2_41 : (Jvm.Cond.code ({ cls := "CountTriangles$Text", name := "numberFrom", desc := "(I)I" } : Jvm.MethodName) prog_12_method_10_code (2 : Nat) (Option.some Jvm.ClassFile.FieldType.int)) ∈ UW := ut_2 (List.mem_of_getElem? (i := 41) rfl) rfl
theorem u_2_42 : (Jvm.Cond.methodLink "CountTriangles$Law" (64 : Nat) ({ cls := "CountTriangles$Text", name := "nextNumber", desc := "(I)I" } : Jvm.MethodName)) ∈ UW := ut_2 (List.mem_of_getElem? (i := 42) rfl) rfl
theorem u_2_43 : (Jvm.Cond.instanceMethod ({ cls := "CountTriangles$Text", name := "nextNumber", desc := "(I)I" } : Jvm.MethodName)) ∈ UW := ut_2 (List.mem_of_getElem? (i := 43) rfl) rfl
theorem u_2_44 : (Jvm.Cond.selects "CountTriangles$Text" ({ cls := "CountTriangles$Text", name := "nextNumber", desc := "(I)I" } : Jvm.MethodName) ({ cls := "CountTriangles$Text", name := "nextNumber", desc := "(I)I" } : Jvm.MethodName)) ∈ UW := ut_2 (List.mem_of_getElem? (i := 44) rfl) rfl
theorem u_2_45 : (Jvm.Cond.code ({ cls := "CountTriangles$Text", name := "nextNumber", desc := "(I)I" } : Jvm.MethodName) prog_12_method_11_code (2 : Nat) (Option.some Jvm.ClassFile.FieldType.int)) ∈ UW := ut_2 (List.mem_of_getElem? (i := 45) rfl) rfl
theorem u_2_46 : (Jvm.Cond.methodLink "CountTriangles$Law" (55 : Nat) ({ cls := "CountTriangles$Law", name := "fillNumbers", desc := "()V" } : Jvm.MethodName)) ∈ UW := ut_2 (List.mem_of_getElem? (i := 46) rfl) rfl
theorem u_2_48 : (Jvm.Cond.instanceMethod ({ cls := "CountTriangles$Law", name := "fillNumbers", desc := "()V" } : Jvm.MethodName)) ∈ UW := ut_2 (List.mem_of_getElem? (i := 48) rfl) rfl
theorem u_2_49 : (Jvm.Cond.code ({ cls := "CountTriangles$Law", name := "fillNumbers", desc := "()V" } : Jvm.MethodName) prog_4_method_5_code (4 : Nat) (Option.none : Option Jvm.ClassFile.FieldType)) ∈ UW := ut_2 (List.mem_of_getElem? (i := 49) rfl) rfl
theorem u_2_50 : (Jvm.Cond.methodLink "CountTriangles$Law" (67 : Nat) ({ cls := "CountTriangles$Law", name := "madeOfAbove", desc := "(II)J" } : Jvm.MethodName)) ∈ UW := ut_2 (List.mem_of_getElem? (i := 50) rfl) rfl
theorem u_2_52 : (Jvm.Cond.instanceMethod ({ cls := "CountTriangles$Law", name := "madeOfAbove", desc := "(II)J" } : Jvm.MethodName)) ∈ UW := ut_2 (List.mem_of_getElem? (i := 52) rfl) rfl
theorem u_2_53 : (Jvm.Cond.code ({ cls := "CountTriangles$Law", name := "madeOfAbove", desc := "(II)J" } : Jvm.MethodName) prog_4_method_6_code (7 : Nat) (Option.some Jvm.ClassFile.FieldType.long)) ∈ UW := ut_2 (List.mem_of_getElem? (i := 53) rfl) rfl
theorem u_2_54 : (Jvm.Cond.methodLink "CountTriangles$Law" (71 : Nat) ({ cls := "CountTriangles$Law", name := "factor", desc := "([III)I" } : Jvm.MethodName)) ∈ UW := ut_2 (List.mem_of_getElem? (i := 54) rfl) rfl
theorem u_2_55 : (Jvm.Cond.static ({ cls := "CountTriangles$Law", name := "factor", desc := "([III)I" } : Jvm.MethodName)) ∈ UW := ut_2 (List.mem_of_getElem? (i := 55) rfl) rfl
theorem u_2_56 : (Jvm.Cond.code ({ cls := "CountTriangles$Law", name := "factor", desc := "([III)I" } : Jvm.MethodName) prog_4_method_7_code (3 : Nat) (Option.some Jvm.ClassFile.FieldType.int)) ∈ UW := ut_2 (List.mem_of_getElem? (i := 56) rfl) rfl
theorem u_2_57 : (Jvm.Cond.methodLink "CountTriangles$Law" (75 : Nat) ({ cls := "CountTriangles$Law", name := "numberAt", desc := "(II)J" } : Jvm.MethodName)) ∈ UW := ut_2 (List.mem_of_getElem? (i := 57) rfl) rfl
theorem u_2_58 : (Jvm.Cond.instanceMethod ({ cls := "CountTriangles$Law", name := "numberAt", desc := "(II)J" } : Jvm.MethodName)) ∈ UW := ut_2 (List.mem_of_getElem? (i := 58) rfl) rfl
theorem u_2_59 : (Jvm.Cond.selects "CountTriangles$Law" ({ cls := "CountTriangles$Law", name := "numberAt", desc := "(II)J" } : Jvm.MethodName) ({ cls := "CountTriangles$Law", name := "numberAt", desc := "(II)J" } : Jvm.MethodName)) ∈ UW := ut_2 (List.mem_of_getElem? (i := 59) rfl) rfl
theorem u_2_60 : (Jvm.Cond.code ({ cls := "CountTriangles$Law", name := "numberAt", desc := "(II)J" } : Jvm.MethodName) prog_4_method_11_code (3 : Nat) (Option.some Jvm.ClassFile.FieldType.long)) ∈ UW := ut_2 (List.mem_of_getElem? (i := 60) rfl) rfl
theorem u_2_62 : (Jvm.Cond.static ({ cls := "CountTriangles", name := "isPlace", desc := "(III)Z" } : Jvm.MethodName)) ∈ UW := ut_2 (List.mem_of_getElem? (i := 62) rfl) rfl
theorem u_2_63 : (Jvm.Cond.code ({ cls := "CountTriangles", name := "isPlace", desc := "(III)Z" } : Jvm.MethodName) prog_1_method_34_code (3 : Nat) (Option.some Jvm.ClassFile.FieldType.boolean)) ∈ UW := ut_2 (List.mem_of_getElem? (i := 63) rfl) rfl
theorem u_2_64 : (Jvm.Cond.methodLink "CountTriangles$Law" (78 : Nat) ({ cls := "CountTriangles$Law", name := "part", desc := "(IJ)J" } : Jvm.MethodName)) ∈ UW := ut_2 (List.mem_of_getElem? (i := 64) rfl) rfl
theorem u_2_65 : (Jvm.Cond.static ({ cls := "CountTriangles$Law", name := "part", desc := "(IJ)J" } : Jvm.MethodName)) ∈ UW := ut_2 (List.mem_of_getElem? (i := 65) rfl) rfl
theorem u_2_66 : (Jvm.Cond.code ({ cls := "CountTriangles$Law", name := "part", desc := "(IJ)J" } : Jvm.MethodName) prog_4_method_8_code (3 : Nat) (Option.some Jvm.ClassFile.FieldType.long)) ∈ UW := ut_2 (List.mem_of_getElem? (i := 66) rfl) rfl
theorem u_2_67 : (Jvm.Cond.methodLink "CountTriangles$Law" (88 : Nat) ({ cls := "CountTriangles$Law", name := "product", desc := "(JJ)J" } : Jvm.MethodName)) ∈ UW := ut_2 (List.mem_of_getElem? (i := 67) rfl) rfl
theorem u_2_68 : (Jvm.Cond.static ({ cls := "CountTriangles$Law", name := "product", desc := "(JJ)J" } : Jvm.MethodName)) ∈ UW := ut_2 (List.mem_of_getElem? (i := 68) rfl) rfl
theorem u_2_69 : (Jvm.Cond.code ({ cls := "CountTriangles$Law", name := "product", desc := "(JJ)J" } : Jvm.MethodName) prog_4_method_10_code (4 : Nat) (Option.some Jvm.ClassFile.FieldType.long)) ∈ UW := ut_2 (List.mem_of_getElem? (i := 69) rfl) rfl
theorem u_2_70 : (Jvm.Cond.constantLong "CountTriangles$Law" (82 : Nat) (-9000000000000000000 : Int64)) ∈ UW := ut_2 (List.mem_of_getElem? (i := 70) rfl) rfl
theorem u_2_71 : (Jvm.Cond.methodLink "CountTriangles$Law" (98 : Nat) ({ cls := "java/lang/Math", name := "abs", desc := "(J)J" } : Jvm.MethodName)) ∈ UW := ut_2 (List.mem_of_getElem? (i := 71) rfl) rfl
theorem u_2_72 : (Jvm.Cond.static ({ cls := "java/lang/Math", name := "abs", desc := "(J)J" } : Jvm.MethodName)) ∈ UW := ut_2 (List.mem_of_getElem? (i := 72) rfl) rfl
theorem u_2_73 : (Jvm.Cond.code ({ cls := "java/lang/Math", name := "abs", desc := "(J)J" } : Jvm.MethodName) prog_16_method_61_code (2 : Nat) (Option.some Jvm.ClassFile.FieldType.long)) ∈ UW := ut_2 (List.mem_of_getElem? (i := 73) rfl) rfl
theorem u_2_74 : (Jvm.Cond.constantLong "CountTriangles$Law" (92 : Nat) (100000000000000000 : Int64)) ∈ UW := ut_2 (List.mem_of_getElem? (i := 74) rfl) rfl
theorem u_2_75 : (Jvm.Cond.methodLink "CountTriangles$Law" (84 : Nat) ({ cls := "CountTriangles$Law", name := "limited", desc := "(J)J" } : Jvm.MethodName)) ∈ UW := ut_2 (List.mem_of_getElem? (i := 75) rfl) rfl
theorem u_2_76 : (Jvm.Cond.static ({ cls := "CountTriangles$Law", name := "limited", desc := "(J)J" } : Jvm.MethodName)) ∈ UW := ut_2 (List.mem_of_getElem? (i := 76) rfl) rfl
theorem u_2_77 : (Jvm.Cond.code ({ cls := "CountTriangles$Law", name := "limited", desc := "(J)J" } : Jvm.MethodName) prog_4_method_9_code (2 : Nat) (Option.some Jvm.ClassFile.FieldType.long)) ∈ UW := ut_2 (List.mem_of_getElem? (i := 77) rfl) rfl
theorem u_2_79 : (Jvm.Cond.static ({ cls := "CountTriangles", name := "beyond", desc := "(JJ)Z" } : Jvm.MethodName)) ∈ UW := ut_2 (List.mem_of_getElem? (i := 79) rfl) rfl
theorem u_2_80 : (Jvm.Cond.code ({ cls := "CountTriangles", name := "beyond", desc := "(JJ)Z" } : Jvm.MethodName) prog_1_method_36_code (4 : Nat) (Option.some Jvm.ClassFile.FieldType.boolean)) ∈ UW := ut_2 (List.mem_of_getElem? (i := 80) rfl) rfl
theorem u_2_81 : (Jvm.Cond.methodLink "CountTriangles" (70 : Nat) ({ cls := "CountTriangles$Law", name := "items", desc := "()I" } : Jvm.MethodName)) ∈ UW := ut_2 (List.mem_of_getElem? (i := 81) rfl) rfl
theorem u_2_82 : (Jvm.Cond.instanceMethod ({ cls := "CountTriangles$Law", name := "items", desc := "()I" } : Jvm.MethodName)) ∈ UW := ut_2 (List.mem_of_getElem? (i := 82) rfl) rfl
theorem u_2_83 : (Jvm.Cond.selects "CountTriangles$Law" ({ cls := "CountTriangles$Law", name := "items", desc := "()I" } : Jvm.MethodName) ({ cls := "CountTriangles$Law", name := "items", desc := "()I" } : Jvm.MethodName)) ∈ UW := ut_2 (List.mem_of_getElem? (i := 83) rfl) rfl
theorem u_2_84 : (Jvm.Cond.code ({ cls := "CountTriangles$Law", name := "items", desc := "()I" } : Jvm.MethodName) prog_4_method_2_code (1 : Nat) (Option.some Jvm.ClassFile.FieldType.int)) ∈ UW := ut_2 (List.mem_of_getElem? (i := 84) rfl) rfl
theorem u_2_85 : (Jvm.Cond.methodLink "CountTrianglesLaw" (34 : Nat) ({ cls := "CountTriangles", name := "number", desc := "(III)J" } : Jvm.MethodName)) ∈ UW := ut_2 (List.mem_of_getElem? (i := 85) rfl) rfl
theorem u_2_86 : (Jvm.Cond.instanceMethod ({ cls := "CountTriangles", name := "number", desc := "(III)J" } : Jvm.MethodName)) ∈ UW := ut_2 (List.mem_of_getElem? (i := 86) rfl) rfl
theorem u_2_87 : (Jvm.Cond.selects "CountTriangles" ({ cls := "CountTriangles", name := "number", desc := "(III)J" } : Jvm.MethodName) ({ cls := "CountTriangles", name := "number", desc := "(III)J" } : Jvm.MethodName)) ∈ UW := ut_2 (List.mem_of_getElem? (i := 87) rfl) rfl
theorem u_2_88 : (Jvm.Cond.code ({ cls := "CountTriangles", name := "number", desc := "(III)J" } : Jvm.MethodName) prog_1_method_6_code (4 : Nat) (Option.some Jvm.ClassFile.FieldType.long)) ∈ UW := ut_2 (List.mem_of_getElem? (i := 88) rfl) rfl
theorem u_2_89 : (Jvm.Cond.methodLink "CountTriangles" (73 : Nat) ({ cls := "CountTriangles", name := "isPlace", desc := "(III)Z" } : Jvm.MethodName)) ∈ UW := ut_2 (List.mem_of_getElem? (i := 89) rfl) rfl
theorem u_2_90 : (Jvm.Cond.constantLong "CountTriangles" (76 : Nat) (-1000000000000000001 : Int64)) ∈ UW := ut_2 (List.mem_of_getElem? (i := 90) rfl) rfl
theorem u_2_91 : (Jvm.Cond.methodLink "CountTriangles" (78 : Nat) ({ cls := "CountTriangles$Law", name := "numberAt", desc := "(II)J" } : Jvm.MethodName)) ∈ UW := ut_2 (List.mem_of_getElem? (i := 91) rfl) rfl
theorem u_2_92 : (Jvm.Cond.methodLink "CountTriangles" (82 : Nat) ({ cls := "CountTriangles", name := "answer", desc := "(J)J" } : Jvm.MethodName)) ∈ UW := ut_2 (List.mem_of_getElem? (i := 92) rfl) rfl
theorem u_2_93 : (Jvm.Cond.static ({ cls := "CountTriangles", name := "answer", desc := "(J)J" } : Jvm.MethodName)) ∈ UW := ut_2 (List.mem_of_getElem? (i := 93) rfl) rfl
theorem u_2_94 : (Jvm.Cond.code ({ cls := "CountTriangles", name := "answer", desc := "(J)J" } : Jvm.MethodName) prog_1_method_37_code (2 : Nat) (Option.some Jvm.ClassFile.FieldType.long)) ∈ UW := ut_2 (List.mem_of_getElem? (i := 94) rfl) rfl
theorem u_2_95 : (Jvm.Cond.constantLong "CountTriangles" (215 : Nat) (-9000000000000000000 : Int64)) ∈ UW := ut_2 (List.mem_of_getElem? (i := 95) rfl) rfl
theorem u_2_96 : (Jvm.Cond.constantLong "CountTriangles" (217 : Nat) (-1000000000000000002 : Int64)) ∈ UW := ut_2 (List.mem_of_getElem? (i := 96) rfl) rfl
theorem u_2_97 : (Jvm.Cond.methodLink "CountTrianglesLaw" (39 : Nat) ({ cls := "CountTriangles", name := "sum", desc := "(III)J" } : Jvm.MethodName)) ∈ UW := ut_2 (List.mem_of_getElem? (i := 97) rfl) rfl
theorem u_2_98 : (Jvm.Cond.instanceMethod ({ cls := "CountTriangles", name := "sum", desc := "(III)J" } : Jvm.MethodName)) ∈ UW := ut_2 (List.mem_of_getElem? (i := 98) rfl) rfl
theorem u_2_99 : (Jvm.Cond.selects "CountTriangles" ({ cls := "CountTriangles", name := "sum", desc := "(III)J" } : Jvm.MethodName) ({ cls := "CountTriangles", name := "sum", desc := "(III)J" } : Jvm.MethodName)) ∈ UW := ut_2 (List.mem_of_getElem? (i := 99) rfl) rfl
theorem u_2_100 : (Jvm.Cond.code ({ cls := "CountTriangles", name := "sum", desc := "(III)J" } : Jvm.MethodName) prog_1_method_7_code (4 : Nat) (Option.some Jvm.ClassFile.FieldType.long)) ∈ UW := ut_2 (List.mem_of_getElem? (i := 100) rfl) rfl
theorem u_2_101 : (Jvm.Cond.methodLink "CountTriangles" (86 : Nat) ({ cls := "CountTriangles$Law", name := "rowSum", desc := "(IZ)J" } : Jvm.MethodName)) ∈ UW := ut_2 (List.mem_of_getElem? (i := 101) rfl) rfl
theorem u_2_102 : (Jvm.Cond.instanceMethod ({ cls := "CountTriangles$Law", name := "rowSum", desc := "(IZ)J" } : Jvm.MethodName)) ∈ UW := ut_2 (List.mem_of_getElem? (i := 102) rfl) rfl
theorem u_2_103 : (Jvm.Cond.selects "CountTriangles$Law" ({ cls := "CountTriangles$Law", name := "rowSum", desc := "(IZ)J" } : Jvm.MethodName) ({ cls := "CountTriangles$Law", name := "rowSum", desc := "(IZ)J" } : Jvm.MethodName)) ∈ UW := ut_2 (List.mem_of_getElem? (i := 103) rfl) rfl
theorem u_2_104 : (Jvm.Cond.code ({ cls := "CountTriangles$Law", name := "rowSum", desc := "(IZ)J" } : Jvm.MethodName) prog_4_method_13_code (6 : Nat) (Option.some Jvm.ClassFile.FieldType.long)) ∈ UW := ut_2 (List.mem_of_getElem? (i := 104) rfl) rfl
theorem u_2_105 : (Jvm.Cond.methodLink "CountTriangles$Law" (107 : Nat) ({ cls := "CountTriangles$Law", name := "rowKeepsTo", desc := "(IJ)Z" } : Jvm.MethodName)) ∈ UW := ut_2 (List.mem_of_getElem? (i := 105) rfl) rfl
theorem u_2_106 : (Jvm.Cond.instanceMethod ({ cls := "CountTriangles$Law", name := "rowKeepsTo", desc := "(IJ)Z" } : Jvm.MethodName)) ∈ UW := ut_2 (List.mem_of_getElem? (i := 106) rfl) rfl
theorem u_2_107 : (Jvm.Cond.selects "CountTriangles$Law" ({ cls := "CountTriangles$Law", name := "rowKeepsTo", desc := "(IJ)Z" } : Jvm.MethodName) ({ cls := "CountTriangles$Law", name := "rowKeepsTo", desc := "(IJ)Z" } : Jvm.MethodName)) ∈ UW := ut_2 (List.mem_of_getElem? (i := 107) rfl) rfl
theorem u_2_108 : (Jvm.Cond.code ({ cls := "CountTriangles$Law", name := "rowKeepsTo", desc := "(IJ)Z" } : Jvm.MethodName) prog_4_method_12_code (5 : Nat) (Option.some Jvm.ClassFile.FieldType.boolean)) ∈ UW := ut_2 (List.mem_of_getElem? (i := 108) rfl) rfl
theorem u_2_109 : (Jvm.Cond.methodLink "CountTriangles" (90 : Nat) ({ cls := "CountTriangles$Law", name := "slantSum", desc := "(I)J" } : Jvm.MethodName)) ∈ UW := ut_2 (List.mem_of_getElem? (i := 109) rfl) rfl
theorem u_2_110 : (Jvm.Cond.instanceMethod ({ cls := "CountTriangles$Law", name := "slantSum", desc := "(I)J" } : Jvm.MethodName)) ∈ UW := ut_2 (List.mem_of_getElem? (i := 110) rfl) rfl
theorem u_2_111 : (Jvm.Cond.selects "CountTriangles$Law" ({ cls := "CountTriangles$Law", name := "slantSum", desc := "(I)J" } : Jvm.MethodName) ({ cls := "CountTriangles$Law", name := "slantSum", desc := "(I)J" } : Jvm.MethodName)) ∈ UW := ut_2 (List.mem_of_getElem? (i := 111) rfl) rfl
theorem u_2_112 : (Jvm.Cond.code ({ cls := "CountTriangles$Law", name := "slantSum", desc := "(I)J" } : Jvm.MethodName) prog_4_method_14_code (7 : Nat) (Option.some Jvm.ClassFile.FieldType.long)) ∈ UW := ut_2 (List.mem_of_getElem? (i := 112) rfl) rfl
theorem u_2_113 : (Jvm.Cond.methodLink "CountTriangles" (94 : Nat) ({ cls := "CountTriangles$Law", name := "squareSum", desc := "(I)J" } : Jvm.MethodName)) ∈ UW := ut_2 (List.mem_of_getElem? (i := 113) rfl) rfl
theorem u_2_114 : (Jvm.Cond.instanceMethod ({ cls := "CountTriangles$Law", name := "squareSum", desc := "(I)J" } : Jvm.MethodName)) ∈ UW := ut_2 (List.mem_of_getElem? (i := 114) rfl) rfl
theorem u_2_115 : (Jvm.Cond.selects "CountTriangles$Law" ({ cls := "CountTriangles$Law", name := "squareSum", desc := "(I)J" } : Jvm.MethodName) ({ cls := "CountTriangles$Law", name := "squareSum", desc := "(I)J" } : Jvm.MethodName)) ∈ UW := ut_2 (List.mem_of_getElem? (i := 115) rfl) rfl
theorem u_2_116 : (Jvm.Cond.code ({ cls := "CountTriangles$Law", name := "squareSum", desc := "(I)J" } : Jvm.MethodName) prog_4_method_15_code (5 : Nat) (Option.some Jvm.ClassFile.FieldType.long)) ∈ UW := ut_2 (List.mem_of_getElem? (i := 116) rfl) rfl
theorem u_2_117 : (Jvm.Cond.constantLong "CountTriangles$Law" (111 : Nat) (100000000 : Int64)) ∈ UW := ut_2 (List.mem_of_getElem? (i := 117) rfl) rfl
theorem u_2_118 : (Jvm.Cond.methodLink "CountTrianglesLaw" (43 : Nat) ({ cls := "CountTriangles", name := "shape", desc := "(III)I" } : Jvm.MethodName)) ∈ UW := ut_2 (List.mem_of_getElem? (i := 118) rfl) rfl
theorem u_2_119 : (Jvm.Cond.instanceMethod ({ cls := "CountTriangles", name := "shape", desc := "(III)I" } : Jvm.MethodName)) ∈ UW := ut_2 (List.mem_of_getElem? (i := 119) rfl) rfl
theorem u_2_120 : (Jvm.Cond.selects "CountTriangles" ({ cls := "CountTriangles", name := "shape", desc := "(III)I" } : Jvm.MethodName) ({ cls := "CountTriangles", name := "shape", desc := "(III)I" } : Jvm.MethodName)) ∈ UW := ut_2 (List.mem_of_getElem? (i := 120) rfl) rfl
theorem u_2_121 : (Jvm.Cond.code ({ cls := "CountTriangles", name := "shape", desc := "(III)I" } : Jvm.MethodName) prog_1_method_8_code (6 : Nat) (Option.some Jvm.ClassFile.FieldType.int)) ∈ UW := ut_2 (List.mem_of_getElem? (i := 121) rfl) rfl
theorem u_2_122 : (Jvm.Cond.constantLong "CountTriangles" (97 : Nat) (100000000 : Int64)) ∈ UW := ut_2 (List.mem_of_getElem? (i := 122) rfl) rfl
theorem u_2_123 : (Jvm.Cond.constantLong "CountTriangles" (99 : Nat) (100000000000000000 : Int64)) ∈ UW := ut_2 (List.mem_of_getElem? (i := 123) rfl) rfl
theorem u_2_124 : (Jvm.Cond.methodLink "CountTriangles" (101 : Nat) ({ cls := "CountTriangles$Law", name := "rowKeepsTo", desc := "(IJ)Z" } : Jvm.MethodName)) ∈ UW := ut_2 (List.mem_of_getElem? (i := 124) rfl) rfl
theorem u_2_125 : (Jvm.Cond.methodLink "CountTriangles" (104 : Nat) ({ cls := "CountTriangles$Law", name := "greatestPlace", desc := "(I)I" } : Jvm.MethodName)) ∈ UW := ut_2 (List.mem_of_getElem? (i := 125) rfl) rfl
theorem u_2_126 : (Jvm.Cond.instanceMethod ({ cls := "CountTriangles$Law", name := "greatestPlace", desc := "(I)I" } : Jvm.MethodName)) ∈ UW := ut_2 (List.mem_of_getElem? (i := 126) rfl) rfl
theorem u_2_127 : (Jvm.Cond.selects "CountTriangles$Law" ({ cls := "CountTriangles$Law", name := "greatestPlace", desc := "(I)I" } : Jvm.MethodName) ({ cls := "CountTriangles$Law", name := "greatestPlace", desc := "(I)I" } : Jvm.MethodName)) ∈ UW := ut_2 (List.mem_of_getElem? (i := 127) rfl) rfl
theorem u_2_128 : (Jvm.Cond.code ({ cls := "CountTriangles$Law", name := "greatestPlace", desc := "(I)I" } : Jvm.MethodName) prog_4_method_16_code (4 : Nat) (Option.some Jvm.ClassFile.FieldType.int)) ∈ UW := ut_2 (List.mem_of_getElem? (i := 128) rfl) rfl
theorem u_2_129 : (Jvm.Cond.methodLink "CountTriangles" (108 : Nat) ({ cls := "CountTriangles$Law", name := "breakPlace", desc := "(I)I" } : Jvm.MethodName)) ∈ UW := ut_2 (List.mem_of_getElem? (i := 129) rfl) rfl
theorem u_2_130 : (Jvm.Cond.instanceMethod ({ cls := "CountTriangles$Law", name := "breakPlace", desc := "(I)I" } : Jvm.MethodName)) ∈ UW := ut_2 (List.mem_of_getElem? (i := 130) rfl) rfl
theorem u_2_131 : (Jvm.Cond.selects "CountTriangles$Law" ({ cls := "CountTriangles$Law", name := "breakPlace", desc := "(I)I" } : Jvm.MethodName) ({ cls := "CountTriangles$Law", name := "breakPlace", desc := "(I)I" } : Jvm.MethodName)) ∈ UW := ut_2 (List.mem_of_getElem? (i := 131) rfl) rfl
theorem u_2_132 : (Jvm.Cond.code ({ cls := "CountTriangles$Law", name := "breakPlace", desc := "(I)I" } : Jvm.MethodName) prog_4_method_17_code (4 : Nat) (Option.some Jvm.ClassFile.FieldType.int)) ∈ UW := ut_2 (List.mem_of_getElem? (i := 132) rfl) rfl
theorem u_2_133 : (Jvm.Cond.methodLink "CountTriangles" (111 : Nat) ({ cls := "CountTriangles$Law", name := "bowedPlace", desc := "(I)I" } : Jvm.MethodName)) ∈ UW := ut_2 (List.mem_of_getElem? (i := 133) rfl) rfl
theorem u_2_134 : (Jvm.Cond.instanceMethod ({ cls := "CountTriangles$Law", name := "bowedPlace", desc := "(I)I" } : Jvm.MethodName)) ∈ UW := ut_2 (List.mem_of_getElem? (i := 134) rfl) rfl
theorem u_2_135 : (Jvm.Cond.selects "CountTriangles$Law" ({ cls := "CountTriangles$Law", name := "bowedPlace", desc := "(I)I" } : Jvm.MethodName) ({ cls := "CountTriangles$Law", name := "bowedPlace", desc := "(I)I" } : Jvm.MethodName)) ∈ UW := ut_2 (List.mem_of_getElem? (i := 135) rfl) rfl
theorem u_2_136 : (Jvm.Cond.code ({ cls := "CountTriangles$Law", name := "bowedPlace", desc := "(I)I" } : Jvm.MethodName) prog_4_method_18_code (5 : Nat) (Option.some Jvm.ClassFile.FieldType.int)) ∈ UW := ut_2 (List.mem_of_getElem? (i := 136) rfl) rfl
theorem u_2_137 : (Jvm.Cond.methodLink "CountTrianglesLaw" (48 : Nat) ({ cls := "CountTriangles", name := "rest", desc := "(IIII)I" } : Jvm.MethodName)) ∈ UW := ut_2 (List.mem_of_getElem? (i := 137) rfl) rfl
theorem u_2_138 : (Jvm.Cond.instanceMethod ({ cls := "CountTriangles", name := "rest", desc := "(IIII)I" } : Jvm.MethodName)) ∈ UW := ut_2 (List.mem_of_getElem? (i := 138) rfl) rfl
theorem u_2_139 : (Jvm.Cond.selects "CountTriangles" ({ cls := "CountTriangles", name := "rest", desc := "(IIII)I" } : Jvm.MethodName) ({ cls := "CountTriangles", name := "rest", desc := "(IIII)I" } : Jvm.MethodName)) ∈ UW := ut_2 (List.mem_of_getElem? (i := 139) rfl) rfl
theorem u_2_140 : (Jvm.Cond.code ({ cls := "CountTriangles", name := "rest", desc := "(IIII)I" } : Jvm.MethodName) prog_1_method_9_code (5 : Nat) (Option.some Jvm.ClassFile.FieldType.int)) ∈ UW := ut_2 (List.mem_of_getElem? (i := 140) rfl) rfl
theorem u_2_141 : (Jvm.Cond.methodLink "CountTriangles" (114 : Nat) ({ cls := "CountTriangles$Law", name := "restAt", desc := "(III)I" } : Jvm.MethodName)) ∈ UW := ut_2 (List.mem_of_getElem? (i := 141) rfl) rfl
theorem u_2_142 : (Jvm.Cond.instanceMethod ({ cls := "CountTriangles$Law", name := "restAt", desc := "(III)I" } : Jvm.MethodName)) ∈ UW := ut_2 (List.mem_of_getElem? (i := 142) rfl) rfl
theorem u_2_143 : (Jvm.Cond.selects "CountTriangles$Law" ({ cls := "CountTriangles$Law", name := "restAt", desc := "(III)I" } : Jvm.MethodName) ({ cls := "CountTriangles$Law", name := "restAt", desc := "(III)I" } : Jvm.MethodName)) ∈ UW := ut_2 (List.mem_of_getElem? (i := 143) rfl) rfl
theorem u_2_144 : (Jvm.Cond.code ({ cls := "CountTriangles$Law", name := "restAt", desc := "(III)I" } : Jvm.MethodName) prog_4_method_19_code (7 : Nat) (Option.some Jvm.ClassFile.FieldType.int)) ∈ UW := ut_2 (List.mem_of_getElem? (i := 144) rfl) rfl
theorem u_2_145 : (Jvm.Cond.methodLink "CountTriangles$Law" (113 : Nat) ({ cls := "java/lang/Math", name := "floorMod", desc := "(II)I" } : Jvm.MethodName)) ∈ UW := ut_2 (List.mem_of_getElem? (i := 145) rfl) rfl
theorem u_2_146 : (Jvm.Cond.static ({ cls := "java/lang/Math", name := "floorMod", desc := "(II)I" } : Jvm.MethodName)) ∈ UW := ut_2 (List.mem_of_getElem? (i := 146) rfl) rfl
theorem u_2_147 : (Jvm.Cond.code ({ cls := "java/lang/Math", name := "floorMod", desc := "(II)I" } : Jvm.MethodName) prog_16_method_50_code (3 : Nat) (Option.some Jvm.ClassFile.FieldType.int)) ∈ UW := ut_2 (List.mem_of_getElem? (i := 147) rfl) rfl
theorem u_2_148 : (Jvm.Cond.methodLink "CountTriangles$Law" (117 : Nat) ({ cls := "java/lang/Math", name := "min", desc := "(II)I" } : Jvm.MethodName)) ∈ UW := ut_2 (List.mem_of_getElem? (i := 148) rfl) rfl
theorem u_2_149 : (Jvm.Cond.static ({ cls := "java/lang/Math", name := "min", desc := "(II)I" } : Jvm.MethodName)) ∈ UW := ut_2 (List.mem_of_getElem? (i := 149) rfl) rfl
theorem u_2_150 : (Jvm.Cond.code ({ cls := "java/lang/Math", name := "min", desc := "(II)I" } : Jvm.MethodName) prog_16_method_69_code (2 : Nat) (Option.some Jvm.ClassFile.FieldType.int)) ∈ UW := ut_2 (List.mem_of_getElem? (i := 150) rfl) rfl
theorem u_2_151 : (Jvm.Cond.methodLink "CountTrianglesLaw" (53 : Nat) ({ cls := "CountTriangles", name := "times", desc := "(IIII)J" } : Jvm.MethodName)) ∈ UW := ut_2 (List.mem_of_getElem? (i := 151) rfl) rfl
theorem u_2_152 : (Jvm.Cond.instanceMethod ({ cls := "CountTriangles", name := "times", desc := "(IIII)J" } : Jvm.MethodName)) ∈ UW := ut_2 (List.mem_of_getElem? (i := 152) rfl) rfl
theorem u_2_153 : (Jvm.Cond.selects "CountTriangles" ({ cls := "CountTriangles", name := "times", desc := "(IIII)J" } : Jvm.MethodName) ({ cls := "CountTriangles", name := "times", desc := "(IIII)J" } : Jvm.MethodName)) ∈ UW := ut_2 (List.mem_of_getElem? (i := 153) rfl) rfl
theorem u_2_154 : (Jvm.Cond.code ({ cls := "CountTriangles", name := "times", desc := "(IIII)J" } : Jvm.MethodName) prog_1_method_10_code (5 : Nat) (Option.some Jvm.ClassFile.FieldType.long)) ∈ UW := ut_2 (List.mem_of_getElem? (i := 154) rfl) rfl
theorem u_2_155 : (Jvm.Cond.methodLink "CountTriangles" (118 : Nat) ({ cls := "CountTriangles$Law", name := "productAt", desc := "(LCountTriangles$Law;II)J" } : Jvm.MethodName)) ∈ UW := ut_2 (List.mem_of_getElem? (i := 155) rfl) rfl
theorem u_2_156 : (Jvm.Cond.instanceMethod ({ cls := "CountTriangles$Law", name := "productAt", desc := "(LCountTriangles$Law;II)J" } : Jvm.MethodName)) ∈ UW := ut_2 (List.mem_of_getElem? (i := 156) rfl) rfl
theorem u_2_157 : (Jvm.Cond.selects "CountTriangles$Law" ({ cls := "CountTriangles$Law", name := "productAt", desc := "(LCountTriangles$Law;II)J" } : Jvm.MethodName) ({ cls := "CountTriangles$Law", name := "productAt", desc := "(LCountTriangles$Law;II)J" } : Jvm.MethodName)) ∈ UW := ut_2 (List.mem_of_getElem? (i := 157) rfl) rfl
theorem u_2_158 : (Jvm.Cond.code ({ cls := "CountTriangles$Law", name := "productAt", desc := "(LCountTriangles$Law;II)J" } : Jvm.MethodName) prog_4_method_20_code (9 : Nat) (Option.some Jvm.ClassFile.FieldType.long)) ∈ UW := ut_2 (List.mem_of_getElem? (i := 158) rfl) rfl
theorem u_2_159 : (Jvm.Cond.methodLink "CountTrianglesLaw" (58 : Nat) ({ cls := "CountTriangles", name := "undoes", desc := "(III)I" } : Jvm.MethodName)) ∈ UW := ut_2 (List.mem_of_getElem? (i := 159) rfl) rfl
theorem u_2_160 : (Jvm.Cond.instanceMethod ({ cls := "CountTriangles", name := "undoes", desc := "(III)I" } : Jvm.MethodName)) ∈ UW := ut_2 (List.mem_of_getElem? (i := 160) rfl) rfl
theorem u_2_161 : (Jvm.Cond.selects "CountTriangles" ({ cls := "CountTriangles", name := "undoes", desc := "(III)I" } : Jvm.MethodName) ({ cls := "CountTriangles", name := "undoes", desc := "(III)I" } : Jvm.MethodName)) ∈ UW := ut_2 (List.mem_of_getElem? (i := 161) rfl) rfl
theorem u_2_162 : (Jvm.Cond.code ({ cls := "CountTriangles", name := "undoes", desc := "(III)I" } : Jvm.MethodName) prog_1_method_11_code (4 : Nat) (Option.some Jvm.ClassFile.FieldType.int)) ∈ UW := ut_2 (List.mem_of_getElem? (i := 162) rfl) rfl
theorem u_2_163 : (Jvm.Cond.methodLink "CountTriangles" (122 : Nat) ({ cls := "CountTriangles$Law", name := "firstRowNotUndone", desc := "(LCountTriangles$Law;I)I" } : Jvm.MethodName)) ∈ UW := ut_2 (List.mem_of_getElem? (i := 163) rfl) rfl
theorem u_2_164 : (Jvm.Cond.instanceMethod ({ cls := "CountTriangles$Law", name := "firstRowNotUndone", desc := "(LCountTriangles$Law;I)I" } : Jvm.MethodName)) ∈ UW := ut_2 (List.mem_of_getElem? (i := 164) rfl) rfl
theorem u_2_165 : (Jvm.Cond.selects "CountTriangles$Law" ({ cls := "CountTriangles$Law", name := "firstRowNotUndone", desc := "(LCountTriangles$Law;I)I" } : Jvm.MethodName) ({ cls := "CountTriangles$Law", name := "firstRowNotUndone", desc := "(LCountTriangles$Law;I)I" } : Jvm.MethodName)) ∈ UW := ut_2 (List.mem_of_getElem? (i := 165) rfl) rfl
theorem u_2_166 : (Jvm.Cond.code ({ cls := "CountTriangles$Law", name := "firstRowNotUndone", desc := "(LCountTriangles$Law;I)I" } : Jvm.MethodName) prog_4_method_21_code (7 : Nat) (Option.some Jvm.ClassFile.FieldType.int)) ∈ UW := ut_2 (List.mem_of_getElem? (i := 166) rfl) rfl
theorem u_2_167 : (Jvm.Cond.methodLink "CountTriangles$Law" (120 : Nat) ({ cls := "CountTriangles$Law", name := "productAt", desc := "(LCountTriangles$Law;II)J" } : Jvm.MethodName)) ∈ UW := ut_2 (List.mem_of_getElem? (i := 167) rfl) rfl
theorem u_2_168 : (Jvm.Cond.methodLink "CountTrianglesLaw" (62 : Nat) ({ cls := "CountTriangles", name := "back", desc := "(III)J" } : Jvm.MethodName)) ∈ UW := ut_2 (List.mem_of_getElem? (i := 168) rfl) rfl
theorem u_2_169 : (Jvm.Cond.instanceMethod ({ cls := "CountTriangles", name := "back", desc := "(III)J" } : Jvm.MethodName)) ∈ UW := ut_2 (List.mem_of_getElem? (i := 169) rfl) rfl
theorem u_2_170 : (Jvm.Cond.selects "CountTriangles" ({ cls := "CountTriangles", name := "back", desc := "(III)J" } : Jvm.MethodName) ({ cls := "CountTriangles", name := "back", desc := "(III)J" } : Jvm.MethodName)) ∈ UW := ut_2 (List.mem_of_getElem? (i := 170) rfl) rfl
theorem u_2_171 : (Jvm.Cond.code ({ cls := "CountTriangles", name := "back", desc := "(III)J" } : Jvm.MethodName) prog_1_method_12_code (4 : Nat) (Option.some Jvm.ClassFile.FieldType.long)) ∈ UW := ut_2 (List.mem_of_getElem? (i := 171) rfl) rfl
theorem u_2_172 : (Jvm.Cond.methodLink "CountTriangles" (126 : Nat) ({ cls := "CountTriangles$Law", name := "inverseAt", desc := "(II)J" } : Jvm.MethodName)) ∈ UW := ut_2 (List.mem_of_getElem? (i := 172) rfl) rfl
theorem u_2_173 : (Jvm.Cond.instanceMethod ({ cls := "CountTriangles$Law", name := "inverseAt", desc := "(II)J" } : Jvm.MethodName)) ∈ UW := ut_2 (List.mem_of_getElem? (i := 173) rfl) rfl
theorem u_2_174 : (Jvm.Cond.selects "CountTriangles$Law" ({ cls := "CountTriangles$Law", name := "inverseAt", desc := "(II)J" } : Jvm.MethodName) ({ cls := "CountTriangles$Law", name := "inverseAt", desc := "(II)J" } : Jvm.MethodName)) ∈ UW := ut_2 (List.mem_of_getElem? (i := 174) rfl) rfl
theorem u_2_175 : (Jvm.Cond.code ({ cls := "CountTriangles$Law", name := "inverseAt", desc := "(II)J" } : Jvm.MethodName) prog_4_method_22_code (6 : Nat) (Option.some Jvm.ClassFile.FieldType.long)) ∈ UW := ut_2 (List.mem_of_getElem? (i := 175) rfl) rfl
theorem u_2_176 : (Jvm.Cond.methodLink "CountTriangles$Law" (124 : Nat) ({ cls := "CountTriangles$Law", name := "endsInOnes", desc := "(I)Z" } : Jvm.MethodName)) ∈ UW := ut_2 (List.mem_of_getElem? (i := 176) rfl) rfl
theorem u_2_178 : (Jvm.Cond.instanceMethod ({ cls := "CountTriangles$Law", name := "endsInOnes", desc := "(I)Z" } : Jvm.MethodName)) ∈ UW := ut_2 (List.mem_of_getElem? (i := 178) rfl) rfl
theorem u_2_179 : (Jvm.Cond.code ({ cls := "CountTriangles$Law", name := "endsInOnes", desc := "(I)Z" } : Jvm.MethodName) prog_4_method_24_code (3 : Nat) (Option.some Jvm.ClassFile.FieldType.boolean)) ∈ UW := ut_2 (List.mem_of_getElem? (i := 179) rfl) rfl
theorem u_2_180 : (Jvm.Cond.constantLong "CountTriangles$Law" (131 : Nat) (-1 : Int64)) ∈ UW := ut_2 (List.mem_of_getElem? (i := 180) rfl) rfl
theorem u_2_181 : (Jvm.Cond.methodLink "CountTriangles$Law" (128 : Nat) ({ cls := "CountTriangles$Law", name := "columnSum", desc := "(II)J" } : Jvm.MethodName)) ∈ UW := ut_2 (List.mem_of_getElem? (i := 181) rfl) rfl
theorem u_2_183 : (Jvm.Cond.instanceMethod ({ cls := "CountTriangles$Law", name := "columnSum", desc := "(II)J" } : Jvm.MethodName)) ∈ UW := ut_2 (List.mem_of_getElem? (i := 183) rfl) rfl
theorem u_2_184 : (Jvm.Cond.code ({ cls := "CountTriangles$Law", name := "columnSum", desc := "(II)J" } : Jvm.MethodName) prog_4_method_23_code (8 : Nat) (Option.some Jvm.ClassFile.FieldType.long)) ∈ UW := ut_2 (List.mem_of_getElem? (i := 184) rfl) rfl
theorem u_2_185 : (Jvm.Cond.methodLink "CountTrianglesLaw" (66 : Nat) ({ cls := "CountTriangles", name := "parting", desc := "(III)I" } : Jvm.MethodName)) ∈ UW := ut_2 (List.mem_of_getElem? (i := 185) rfl) rfl
theorem u_2_186 : (Jvm.Cond.instanceMethod ({ cls := "CountTriangles", name := "parting", desc := "(III)I" } : Jvm.MethodName)) ∈ UW := ut_2 (List.mem_of_getElem? (i := 186) rfl) rfl
theorem u_2_187 : (Jvm.Cond.selects "CountTriangles" ({ cls := "CountTriangles", name := "parting", desc := "(III)I" } : Jvm.MethodName) ({ cls := "CountTriangles", name := "parting", desc := "(III)I" } : Jvm.MethodName)) ∈ UW := ut_2 (List.mem_of_getElem? (i := 187) rfl) rfl
theorem u_2_188 : (Jvm.Cond.code ({ cls := "CountTriangles", name := "parting", desc := "(III)I" } : Jvm.MethodName) prog_1_method_13_code (5 : Nat) (Option.some Jvm.ClassFile.FieldType.int)) ∈ UW := ut_2 (List.mem_of_getElem? (i := 188) rfl) rfl
theorem u_2_189 : (Jvm.Cond.methodLink "CountTriangles" (129 : Nat) ({ cls := "CountTriangles$Partings", name := "want", desc := "(I)V" } : Jvm.MethodName)) ∈ UW := ut_2 (List.mem_of_getElem? (i := 189) rfl) rfl
theorem u_2_190 : (Jvm.Cond.instanceMethod ({ cls := "CountTriangles$Partings", name := "want", desc := "(I)V" } : Jvm.MethodName)) ∈ UW := ut_2 (List.mem_of_getElem? (i := 190) rfl) rfl
theorem u_2_191 : (Jvm.Cond.selects "CountTriangles$Partings" ({ cls := "CountTriangles$Partings", name := "want", desc := "(I)V" } : Jvm.MethodName) ({ cls := "CountTriangles$Partings", name := "want", desc := "(I)V" } : Jvm.MethodName)) ∈ UW := ut_2 (List.mem_of_getElem? (i := 191) rfl) rfl
theorem u_2_192 : (Jvm.Cond.code ({ cls := "CountTriangles$Partings", name := "want", desc := "(I)V" } : Jvm.MethodName) prog_9_method_2_code (4 : Nat) (Option.none : Option Jvm.ClassFile.FieldType)) ∈ UW := ut_2 (List.mem_of_getElem? (i := 192) rfl) rfl
theorem u_2_193 : (Jvm.Cond.methodLink "CountTriangles$Partings" (15 : Nat) ({ cls := "CountTriangles$Partings", name := "waysFrom", desc := "(II)I" } : Jvm.MethodName)) ∈ UW := ut_2 (List.mem_of_getElem? (i := 193) rfl) rfl
theorem u_2_195 : (Jvm.Cond.instanceMethod ({ cls := "CountTriangles$Partings", name := "waysFrom", desc := "(II)I" } : Jvm.MethodName)) ∈ UW := ut_2 (List.mem_of_getElem? (i := 195) rfl) rfl
theorem u_2_196 : (Jvm.Cond.code ({ cls := "CountTriangles$Partings", name := "waysFrom", desc := "(II)I" } : Jvm.MethodName) prog_9_method_3_code (3 : Nat) (Option.some Jvm.ClassFile.FieldType.int)) ∈ UW := ut_2 (List.mem_of_getElem? (i := 196) rfl) rfl
theorem u_2_198 : (Jvm.Cond.methodLink "CountTriangles" (133 : Nat) ({ cls := "CountTriangles$Partings", name := "howMany", desc := "(I)I" } : Jvm.MethodName)) ∈ UW := ut_2 (List.mem_of_getElem? (i := 198) rfl) rfl
theorem u_2_199 : (Jvm.Cond.instanceMethod ({ cls := "CountTriangles$Partings", name := "howMany", desc := "(I)I" } : Jvm.MethodName)) ∈ UW := ut_2 (List.mem_of_getElem? (i := 199) rfl) rfl
theorem u_2_200 : (Jvm.Cond.selects "CountTriangles$Partings" ({ cls := "CountTriangles$Partings", name := "howMany", desc := "(I)I" } : Jvm.MethodName) ({ cls := "CountTriangles$Partings", name := "howMany", desc := "(I)I" } : Jvm.MethodName)) ∈ UW := ut_2 (List.mem_of_getElem? (i := 200) rfl) rfl
theorem u_2_201 : (Jvm.Cond.code ({ cls := "CountTriangles$Partings", name := "howMany", desc := "(I)I" } : Jvm.MethodName) prog_9_method_4_code (2 : Nat) (Option.some Jvm.ClassFile.FieldType.int)) ∈ UW := ut_2 (List.mem_of_getElem? (i := 201) rfl) rfl
theorem u_2_202 : (Jvm.Cond.methodLink "CountTriangles" (136 : Nat) ({ cls := "CountTriangles$Partings", name := "ith", desc := "(II)I" } : Jvm.MethodName)) ∈ UW := ut_2 (List.mem_of_getElem? (i := 202) rfl) rfl
theorem u_2_203 : (Jvm.Cond.instanceMethod ({ cls := "CountTriangles$Partings", name := "ith", desc := "(II)I" } : Jvm.MethodName)) ∈ UW := ut_2 (List.mem_of_getElem? (i := 203) rfl) rfl
theorem u_2_204 : (Jvm.Cond.selects "CountTriangles$Partings" ({ cls := "CountTriangles$Partings", name := "ith", desc := "(II)I" } : Jvm.MethodName) ({ cls := "CountTriangles$Partings", name := "ith", desc := "(II)I" } : Jvm.MethodName)) ∈ UW := ut_2 (List.mem_of_getElem? (i := 204) rfl) rfl
theorem u_2_205 : (Jvm.Cond.code ({ cls := "CountTriangles$Partings", name := "ith", desc := "(II)I" } : Jvm.MethodName) prog_9_method_5_code (9 : Nat) (Option.some Jvm.ClassFile.FieldType.int)) ∈ UW := ut_2 (List.mem_of_getElem? (i := 205) rfl) rfl
theorem u_2_206 : (Jvm.Cond.methodLink "CountTriangles$Partings" (23 : Nat) ({ cls := "java/lang/Math", name := "min", desc := "(II)I" } : Jvm.MethodName)) ∈ UW := ut_2 (List.mem_of_getElem? (i := 206) rfl) rfl
theorem u_2_207 : (Jvm.Cond.methodLink "CountTriangles$Partings" (28 : Nat) ({ cls := "java/lang/Math", name := "max", desc := "(II)I" } : Jvm.MethodName)) ∈ UW := ut_2 (List.mem_of_getElem? (i := 207) rfl) rfl
theorem u_2_208 : (Jvm.Cond.static ({ cls := "java/lang/Math", name := "max", desc := "(II)I" } : Jvm.MethodName)) ∈ UW := ut_2 (List.mem_of_getElem? (i := 208) rfl) rfl
theorem u_2_209 : (Jvm.Cond.code ({ cls := "java/lang/Math", name := "max", desc := "(II)I" } : Jvm.MethodName) prog_16_method_65_code (2 : Nat) (Option.some Jvm.ClassFile.FieldType.int)) ∈ UW := ut_2 (List.mem_of_getElem? (i := 209) rfl) rfl
theorem u_2_210 : (Jvm.Cond.methodLink "CountTrianglesLaw" (70 : Nat) ({ cls := "CountTriangles", name := "partRank", desc := "(II)I" } : Jvm.MethodName)) ∈ UW := ut_2 (List.mem_of_getElem? (i := 210) rfl) rfl
theorem u_2_211 : (Jvm.Cond.instanceMethod ({ cls := "CountTriangles", name := "partRank", desc := "(II)I" } : Jvm.MethodName)) ∈ UW := ut_2 (List.mem_of_getElem? (i := 211) rfl) rfl
theorem u_2_212 : (Jvm.Cond.selects "CountTriangles" ({ cls := "CountTriangles", name := "partRank", desc := "(II)I" } : Jvm.MethodName) ({ cls := "CountTriangles", name := "partRank", desc := "(II)I" } : Jvm.MethodName)) ∈ UW := ut_2 (List.mem_of_getElem? (i := 212) rfl) rfl
theorem u_2_213 : (Jvm.Cond.code ({ cls := "CountTriangles", name := "partRank", desc := "(II)I" } : Jvm.MethodName) prog_1_method_14_code (4 : Nat) (Option.some Jvm.ClassFile.FieldType.int)) ∈ UW := ut_2 (List.mem_of_getElem? (i := 213) rfl) rfl
theorem u_2_214 : (Jvm.Cond.methodLink "CountTriangles" (140 : Nat) ({ cls := "CountTriangles$Partings", name := "partsOf", desc := "(II)I" } : Jvm.MethodName)) ∈ UW := ut_2 (List.mem_of_getElem? (i := 214) rfl) rfl
theorem u_2_215 : (Jvm.Cond.instanceMethod ({ cls := "CountTriangles$Partings", name := "partsOf", desc := "(II)I" } : Jvm.MethodName)) ∈ UW := ut_2 (List.mem_of_getElem? (i := 215) rfl) rfl
theorem u_2_216 : (Jvm.Cond.selects "CountTriangles$Partings" ({ cls := "CountTriangles$Partings", name := "partsOf", desc := "(II)I" } : Jvm.MethodName) ({ cls := "CountTriangles$Partings", name := "partsOf", desc := "(II)I" } : Jvm.MethodName)) ∈ UW := ut_2 (List.mem_of_getElem? (i := 216) rfl) rfl
theorem u_2_217 : (Jvm.Cond.code ({ cls := "CountTriangles$Partings", name := "partsOf", desc := "(II)I" } : Jvm.MethodName) prog_9_method_6_code (6 : Nat) (Option.some Jvm.ClassFile.FieldType.int)) ∈ UW := ut_2 (List.mem_of_getElem? (i := 217) rfl) rfl
theorem u_2_219 : (Jvm.Cond.static ({ cls := "CountTriangles", name := "hasDigitsAlone", desc := "(II)Z" } : Jvm.MethodName)) ∈ UW := ut_2 (List.mem_of_getElem? (i := 219) rfl) rfl
theorem u_2_220 : (Jvm.Cond.code ({ cls := "CountTriangles", name := "hasDigitsAlone", desc := "(II)Z" } : Jvm.MethodName) prog_1_method_39_code (2 : Nat) (Option.some Jvm.ClassFile.FieldType.boolean)) ∈ UW := ut_2 (List.mem_of_getElem? (i := 220) rfl) rfl
theorem u_2_222 : (Jvm.Cond.static ({ cls := "CountTriangles", name := "digitAt", desc := "(III)I" } : Jvm.MethodName)) ∈ UW := ut_2 (List.mem_of_getElem? (i := 222) rfl) rfl
theorem u_2_223 : (Jvm.Cond.code ({ cls := "CountTriangles", name := "digitAt", desc := "(III)I" } : Jvm.MethodName) prog_1_method_38_code (3 : Nat) (Option.some Jvm.ClassFile.FieldType.int)) ∈ UW := ut_2 (List.mem_of_getElem? (i := 223) rfl) rfl
theorem u_2_224 : (Jvm.Cond.methodLink "CountTriangles" (143 : Nat) ({ cls := "CountTriangles$Partings", name := "rankOf", desc := "(II)I" } : Jvm.MethodName)) ∈ UW := ut_2 (List.mem_of_getElem? (i := 224) rfl) rfl
theorem u_2_225 : (Jvm.Cond.instanceMethod ({ cls := "CountTriangles$Partings", name := "rankOf", desc := "(II)I" } : Jvm.MethodName)) ∈ UW := ut_2 (List.mem_of_getElem? (i := 225) rfl) rfl
theorem u_2_226 : (Jvm.Cond.selects "CountTriangles$Partings" ({ cls := "CountTriangles$Partings", name := "rankOf", desc := "(II)I" } : Jvm.MethodName) ({ cls := "CountTriangles$Partings", name := "rankOf", desc := "(II)I" } : Jvm.MethodName)) ∈ UW := ut_2 (List.mem_of_getElem? (i := 226) rfl) rfl
theorem u_2_227 : (Jvm.Cond.code ({ cls := "CountTriangles$Partings", name := "rankOf", desc := "(II)I" } : Jvm.MethodName) prog_9_method_7_code (7 : Nat) (Option.some Jvm.ClassFile.FieldType.int)) ∈ UW := ut_2 (List.mem_of_getElem? (i := 227) rfl) rfl
theorem u_2_228 : (Jvm.Cond.methodLink "CountTrianglesLaw" (75 : Nat) ({ cls := "CountTriangles", name := "orders", desc := "(IIII)I" } : Jvm.MethodName)) ∈ UW := ut_2 (List.mem_of_getElem? (i := 228) rfl) rfl
theorem u_2_229 : (Jvm.Cond.instanceMethod ({ cls := "CountTriangles", name := "orders", desc := "(IIII)I" } : Jvm.MethodName)) ∈ UW := ut_2 (List.mem_of_getElem? (i := 229) rfl) rfl
theorem u_2_230 : (Jvm.Cond.selects "CountTriangles" ({ cls := "CountTriangles", name := "orders", desc := "(IIII)I" } : Jvm.MethodName) ({ cls := "CountTriangles", name := "orders", desc := "(IIII)I" } : Jvm.MethodName)) ∈ UW := ut_2 (List.mem_of_getElem? (i := 230) rfl) rfl
theorem u_2_231 : (Jvm.Cond.code ({ cls := "CountTriangles", name := "orders", desc := "(IIII)I" } : Jvm.MethodName) prog_1_method_15_code (6 : Nat) (Option.some Jvm.ClassFile.FieldType.int)) ∈ UW := ut_2 (List.mem_of_getElem? (i := 231) rfl) rfl
theorem u_2_232 : (Jvm.Cond.methodLink "CountTriangles" (146 : Nat) ({ cls := "CountTriangles$Orders", name := "howMany", desc := "(III)I" } : Jvm.MethodName)) ∈ UW := ut_2 (List.mem_of_getElem? (i := 232) rfl) rfl
theorem u_2_233 : (Jvm.Cond.instanceMethod ({ cls := "CountTriangles$Orders", name := "howMany", desc := "(III)I" } : Jvm.MethodName)) ∈ UW := ut_2 (List.mem_of_getElem? (i := 233) rfl) rfl
theorem u_2_234 : (Jvm.Cond.selects "CountTriangles$Orders" ({ cls := "CountTriangles$Orders", name := "howMany", desc := "(III)I" } : Jvm.MethodName) ({ cls := "CountTriangles$Orders", name := "howMany", desc := "(III)I" } : Jvm.MethodName)) ∈ UW := ut_2 (List.mem_of_getElem? (i := 234) rfl) rfl
theorem u_2_235 : (Jvm.Cond.code ({ cls := "CountTriangles$Orders", name := "howMany", desc := "(III)I" } : Jvm.MethodName) prog_8_method_3_code (4 : Nat) (Option.some Jvm.ClassFile.FieldType.int)) ∈ UW := ut_2 (List.mem_of_getElem? (i := 235) rfl) rfl
theorem u_2_236 : (Jvm.Cond.methodLink "CountTriangles$Orders" (49 : Nat) ({ cls := "CountTriangles$Mark", name := "start", desc := "(I)I" } : Jvm.MethodName)) ∈ UW := ut_2 (List.mem_of_getElem? (i := 236) rfl) rfl
theorem u_2_238 : (Jvm.Cond.sameMethod "CountTriangles$Mark" "CountTriangles$Mark" "start" "(I)I") ∈ UW := ut_2 (List.mem_of_getElem? (i := 238) rfl) rfl
theorem u_2_239 : (Jvm.Cond.selects "CountTriangles$Falls" ({ cls := "CountTriangles$Mark", name := "start", desc := "(I)I" } : Jvm.MethodName) ({ cls := "CountTriangles$Falls", name := "start", desc := "(I)I" } : Jvm.MethodName)) ∈ UW := ut_2 (List.mem_of_getElem? (i := 239) rfl) rfl
theorem u_3_0 : (Jvm.Cond.instanceMethod ({ cls := "CountTriangles$Falls", name := "start", desc := "(I)I" } : Jvm.MethodName)) ∈ UW := ut_3 (List.mem_of_getElem? (i := 0) rfl) rfl
theorem u_3_1 : (Jvm.Cond.code ({ cls := "CountTriangles$Falls", name := "start", desc := "(I)I" } : Jvm.MethodName) prog_2_method_3_code (2 : Nat) (Option.some Jvm.ClassFile.FieldType.int)) ∈ UW := ut_3 (List.mem_of_getElem? (i := 1) rfl) rfl
theorem u_3_2 : (Jvm.Cond.selects "CountTriangles$Heights" ({ cls := "CountTriangles$Mark", name := "start", desc := "(I)I" } : Jvm.MethodName) ({ cls := "CountTriangles$Heights", name := "start", desc := "(I)I" } : Jvm.MethodName)) ∈ UW := ut_3 (List.mem_of_getElem? (i := 2) rfl) rfl
theorem u_3_3 : (Jvm.Cond.instanceMethod ({ cls := "CountTriangles$Heights", name := "start", desc := "(I)I" } : Jvm.MethodName)) ∈ UW := ut_3 (List.mem_of_getElem? (i := 3) rfl) rfl
theorem u_3_4 : (Jvm.Cond.code ({ cls := "CountTriangles$Heights", name := "start", desc := "(I)I" } : Jvm.MethodName) prog_3_method_2_code (2 : Nat) (Option.some Jvm.ClassFile.FieldType.int)) ∈ UW := ut_3 (List.mem_of_getElem? (i := 4) rfl) rfl
theorem u_3_5 : (Jvm.Cond.selects "CountTriangles$LesserPairs" ({ cls := "CountTriangles$Mark", name := "start", desc := "(I)I" } : Jvm.MethodName) ({ cls := "CountTriangles$LesserPairs", name := "start", desc := "(I)I" } : Jvm.MethodName)) ∈ UW := ut_3 (List.mem_of_getElem? (i := 5) rfl) rfl
theorem u_3_6 : (Jvm.Cond.instanceMethod ({ cls := "CountTriangles$LesserPairs", name := "start", desc := "(I)I" } : Jvm.MethodName)) ∈ UW := ut_3 (List.mem_of_getElem? (i := 6) rfl) rfl
theorem u_3_7 : (Jvm.Cond.code ({ cls := "CountTriangles$LesserPairs", name := "start", desc := "(I)I" } : Jvm.MethodName) prog_5_method_3_code (2 : Nat) (Option.some Jvm.ClassFile.FieldType.int)) ∈ UW := ut_3 (List.mem_of_getElem? (i := 7) rfl) rfl
theorem u_3_8 : (Jvm.Cond.selects "CountTriangles$LongestRise" ({ cls := "CountTriangles$Mark", name := "start", desc := "(I)I" } : Jvm.MethodName) ({ cls := "CountTriangles$LongestRise", name := "start", desc := "(I)I" } : Jvm.MethodName)) ∈ UW := ut_3 (List.mem_of_getElem? (i := 8) rfl) rfl
theorem u_3_9 : (Jvm.Cond.instanceMethod ({ cls := "CountTriangles$LongestRise", name := "start", desc := "(I)I" } : Jvm.MethodName)) ∈ UW := ut_3 (List.mem_of_getElem? (i := 9) rfl) rfl
theorem u_3_10 : (Jvm.Cond.code ({ cls := "CountTriangles$LongestRise", name := "start", desc := "(I)I" } : Jvm.MethodName) prog_6_method_2_code (2 : Nat) (Option.some Jvm.ClassFile.FieldType.int)) ∈ UW := ut_3 (List.mem_of_getElem? (i := 10) rfl) rfl
theorem u_3_11 : (Jvm.Cond.selects "CountTriangles$Rings" ({ cls := "CountTriangles$Mark", name := "start", desc := "(I)I" } : Jvm.MethodName) ({ cls := "CountTriangles$Rings", name := "start", desc := "(I)I" } : Jvm.MethodName)) ∈ UW := ut_3 (List.mem_of_getElem? (i := 11) rfl) rfl
theorem u_3_12 : (Jvm.Cond.instanceMethod ({ cls := "CountTriangles$Rings", name := "start", desc := "(I)I" } : Jvm.MethodName)) ∈ UW := ut_3 (List.mem_of_getElem? (i := 12) rfl) rfl
theorem u_3_13 : (Jvm.Cond.code ({ cls := "CountTriangles$Rings", name := "start", desc := "(I)I" } : Jvm.MethodName) prog_11_method_2_code (2 : Nat) (Option.some Jvm.ClassFile.FieldType.int)) ∈ UW := ut_3 (List.mem_of_getElem? (i := 13) rfl) rfl
theorem u_3_14 : (Jvm.Cond.methodLink "CountTriangles$Orders" (53 : Nat) ({ cls := "CountTriangles$Mark", name := "ways", desc := "(III)I" } : Jvm.MethodName)) ∈ UW := ut_3 (List.mem_of_getElem? (i := 14) rfl) rfl
theorem u_3_16 : (Jvm.Cond.sameMethod "CountTriangles$Mark" "CountTriangles$Mark" "ways" "(III)I") ∈ UW := ut_3 (List.mem_of_getElem? (i := 16) rfl) rfl
theorem u_3_17 : (Jvm.Cond.selects "CountTriangles$Falls" ({ cls := "CountTriangles$Mark", name := "ways", desc := "(III)I" } : Jvm.MethodName) ({ cls := "CountTriangles$Falls", name := "ways", desc := "(III)I" } : Jvm.MethodName)) ∈ UW := ut_3 (List.mem_of_getElem? (i := 17) rfl) rfl
theorem u_3_18 : (Jvm.Cond.selects "CountTriangles$Heights" ({ cls := "CountTriangles$Mark", name := "ways", desc := "(III)I" } : Jvm.MethodName) ({ cls := "CountTriangles$Heights", name := "ways", desc := "(III)I" } : Jvm.MethodName)) ∈ UW := ut_3 (List.mem_of_getElem? (i := 18) rfl) rfl
theorem u_3_19 : (Jvm.Cond.instanceMethod ({ cls := "CountTriangles$Heights", name := "ways", desc := "(III)I" } : Jvm.MethodName)) ∈ UW := ut_3 (List.mem_of_getElem? (i := 19) rfl) rfl
theorem u_3_20 : (Jvm.Cond.code ({ cls := "CountTriangles$Heights", name := "ways", desc := "(III)I" } : Jvm.MethodName) prog_3_method_5_code (4 : Nat) (Option.some Jvm.ClassFile.FieldType.int)) ∈ UW := ut_3 (List.mem_of_getElem? (i := 20) rfl) rfl
theorem u_3_24 : (Jvm.Cond.methodLink "CountTriangles$Heights" (29 : Nat) ({ cls := "CountTriangles$Rings", name := "ways", desc := "(III)I" } : Jvm.MethodName)) ∈ UW := ut_3 (List.mem_of_getElem? (i := 24) rfl) rfl
theorem u_3_25 : (Jvm.Cond.selects "CountTriangles$LesserPairs" ({ cls := "CountTriangles$Mark", name := "ways", desc := "(III)I" } : Jvm.MethodName) ({ cls := "CountTriangles$LesserPairs", name := "ways", desc := "(III)I" } : Jvm.MethodName)) ∈ UW := ut_3 (List.mem_of_getElem? (i := 25) rfl) rfl
theorem u_3_26 : (Jvm.Cond.selects "CountTriangles$LongestRise" ({ cls := "CountTriangles$Mark", name := "ways", desc := "(III)I" } : Jvm.MethodName) ({ cls := "CountTriangles$LongestRise", name := "ways", desc := "(III)I" } : Jvm.MethodName)) ∈ UW := ut_3 (List.mem_of_getElem? (i := 26) rfl) rfl
theorem u_3_27 : (Jvm.Cond.instanceMethod ({ cls := "CountTriangles$LongestRise", name := "ways", desc := "(III)I" } : Jvm.MethodName)) ∈ UW := ut_3 (List.mem_of_getElem? (i := 27) rfl) rfl
theorem u_3_28 : (Jvm.Cond.code ({ cls := "CountTriangles$LongestRise", name := "ways", desc := "(III)I" } : Jvm.MethodName) prog_6_method_6_code (5 : Nat) (Option.some Jvm.ClassFile.FieldType.int)) ∈ UW := ut_3 (List.mem_of_getElem? (i := 28) rfl) rfl
theorem u_3_29 : (Jvm.Cond.methodLink "CountTriangles$LongestRise" (23 : Nat) ({ cls := "java/lang/Integer", name := "bitCount", desc := "(I)I" } : Jvm.MethodName)) ∈ UW := ut_3 (List.mem_of_getElem? (i := 29) rfl) rfl
theorem u_3_30 : (Jvm.Cond.static ({ cls := "java/lang/Integer", name := "bitCount", desc := "(I)I" } : Jvm.MethodName)) ∈ UW := ut_3 (List.mem_of_getElem? (i := 30) rfl) rfl
theorem u_3_31 : (Jvm.Cond.code ({ cls := "java/lang/Integer", name := "bitCount", desc := "(I)I" } : Jvm.MethodName) prog_15_method_49_code (1 : Nat) (Option.some Jvm.ClassFile.FieldType.int)) ∈ UW := ut_3 (List.mem_of_getElem? (i := 31) rfl) rfl
theorem u_3_32 : (Jvm.Cond.constant "java/lang/Integer" (265 : Nat) (1431655765 : Int32)) ∈ UW := ut_3 (List.mem_of_getElem? (i := 32) rfl) rfl
theorem u_3_33 : (Jvm.Cond.constant "java/lang/Integer" (266 : Nat) (858993459 : Int32)) ∈ UW := ut_3 (List.mem_of_getElem? (i := 33) rfl) rfl
theorem u_3_34 : (Jvm.Cond.constant "java/lang/Integer" (267 : Nat) (252645135 : Int32)) ∈ UW := ut_3 (List.mem_of_getElem? (i := 34) rfl) rfl
theorem u_3_36 : (Jvm.Cond.methodLink "CountTriangles$LongestRise" (37 : Nat) ({ cls := "CountTriangles$LongestRise", name := "fillTable", desc := "()V" } : Jvm.MethodName)) ∈ UW := ut_3 (List.mem_of_getElem? (i := 36) rfl) rfl
theorem u_3_38 : (Jvm.Cond.instanceMethod ({ cls := "CountTriangles$LongestRise", name := "fillTable", desc := "()V" } : Jvm.MethodName)) ∈ UW := ut_3 (List.mem_of_getElem? (i := 38) rfl) rfl
theorem u_3_39 : (Jvm.Cond.code ({ cls := "CountTriangles$LongestRise", name := "fillTable", desc := "()V" } : Jvm.MethodName) prog_6_method_7_code (4 : Nat) (Option.none : Option Jvm.ClassFile.FieldType)) ∈ UW := ut_3 (List.mem_of_getElem? (i := 39) rfl) rfl
theorem u_3_40 : (Jvm.Cond.methodLink "CountTriangles$LongestRise" (40 : Nat) ({ cls := "CountTriangles$LongestRise", name := "waysByNext", desc := "(II)I" } : Jvm.MethodName)) ∈ UW := ut_3 (List.mem_of_getElem? (i := 40) rfl) rfl
theorem u_3_42 : (Jvm.Cond.instanceMethod ({ cls := "CountTriangles$LongestRise", name := "waysByNext", desc := "(II)I" } : Jvm.MethodName)) ∈ UW := ut_3 (List.mem_of_getElem? (i := 42) rfl) rfl
theorem u_3_43 : (Jvm.Cond.code ({ cls := "CountTriangles$LongestRise", name := "waysByNext", desc := "(II)I" } : Jvm.MethodName) prog_6_method_8_code (6 : Nat) (Option.some Jvm.ClassFile.FieldType.int)) ∈ UW := ut_3 (List.mem_of_getElem? (i := 43) rfl) rfl
theorem u_3_44 : (Jvm.Cond.methodLink "CountTriangles$LongestRise" (29 : Nat) ({ cls := "CountTriangles$LongestRise", name := "withEnd", desc := "(II)I" } : Jvm.MethodName)) ∈ UW := ut_3 (List.mem_of_getElem? (i := 44) rfl) rfl
theorem u_3_45 : (Jvm.Cond.static ({ cls := "CountTriangles$LongestRise", name := "withEnd", desc := "(II)I" } : Jvm.MethodName)) ∈ UW := ut_3 (List.mem_of_getElem? (i := 45) rfl) rfl
theorem u_3_46 : (Jvm.Cond.code ({ cls := "CountTriangles$LongestRise", name := "withEnd", desc := "(II)I" } : Jvm.MethodName) prog_6_method_5_code (5 : Nat) (Option.some Jvm.ClassFile.FieldType.int)) ∈ UW := ut_3 (List.mem_of_getElem? (i := 46) rfl) rfl
theorem u_3_47 : (Jvm.Cond.selects "CountTriangles$Rings" ({ cls := "CountTriangles$Mark", name := "ways", desc := "(III)I" } : Jvm.MethodName) ({ cls := "CountTriangles$Rings", name := "ways", desc := "(III)I" } : Jvm.MethodName)) ∈ UW := ut_3 (List.mem_of_getElem? (i := 47) rfl) rfl
theorem u_3_48 : (Jvm.Cond.methodLink "CountTriangles" (148 : Nat) ({ cls := "CountTriangles$Orders", name := "ith", desc := "(IIII)I" } : Jvm.MethodName)) ∈ UW := ut_3 (List.mem_of_getElem? (i := 48) rfl) rfl
theorem u_3_49 : (Jvm.Cond.instanceMethod ({ cls := "CountTriangles$Orders", name := "ith", desc := "(IIII)I" } : Jvm.MethodName)) ∈ UW := ut_3 (List.mem_of_getElem? (i := 49) rfl) rfl
theorem u_3_50 : (Jvm.Cond.selects "CountTriangles$Orders" ({ cls := "CountTriangles$Orders", name := "ith", desc := "(IIII)I" } : Jvm.MethodName) ({ cls := "CountTriangles$Orders", name := "ith", desc := "(IIII)I" } : Jvm.MethodName)) ∈ UW := ut_3 (List.mem_of_getElem? (i := 50) rfl) rfl
theorem u_3_51 : (Jvm.Cond.code ({ cls := "CountTriangles$Orders", name := "ith", desc := "(IIII)I" } : Jvm.MethodName) prog_8_method_4_code (16 : Nat) (Option.some Jvm.ClassFile.FieldType.int)) ∈ UW := ut_3 (List.mem_of_getElem? (i := 51) rfl) rfl
theorem u_3_52 : (Jvm.Cond.methodLink "CountTriangles$Orders" (56 : Nat) ({ cls := "CountTriangles$Orders", name := "unusedDigit", desc := "(II)I" } : Jvm.MethodName)) ∈ UW := ut_3 (List.mem_of_getElem? (i := 52) rfl) rfl
theorem u_3_53 : (Jvm.Cond.static ({ cls := "CountTriangles$Orders", name := "unusedDigit", desc := "(II)I" } : Jvm.MethodName)) ∈ UW := ut_3 (List.mem_of_getElem? (i := 53) rfl) rfl
theorem u_3_54 : (Jvm.Cond.code ({ cls := "CountTriangles$Orders", name := "unusedDigit", desc := "(II)I" } : Jvm.MethodName) prog_8_method_5_code (4 : Nat) (Option.some Jvm.ClassFile.FieldType.int)) ∈ UW := ut_3 (List.mem_of_getElem? (i := 54) rfl) rfl
theorem u_3_55 : (Jvm.Cond.methodLink "CountTriangles$Orders" (70 : Nat) ({ cls := "java/lang/Integer", name := "bitCount", desc := "(I)I" } : Jvm.MethodName)) ∈ UW := ut_3 (List.mem_of_getElem? (i := 55) rfl) rfl
theorem u_3_56 : (Jvm.Cond.methodLink "CountTriangles$Orders" (60 : Nat) ({ cls := "CountTriangles$Mark", name := "growth", desc := "(III[II)I" } : Jvm.MethodName)) ∈ UW := ut_3 (List.mem_of_getElem? (i := 56) rfl) rfl
theorem u_3_58 : (Jvm.Cond.sameMethod "CountTriangles$Mark" "CountTriangles$Mark" "growth" "(III[II)I") ∈ UW := ut_3 (List.mem_of_getElem? (i := 58) rfl) rfl
theorem u_3_59 : (Jvm.Cond.selects "CountTriangles$Falls" ({ cls := "CountTriangles$Mark", name := "growth", desc := "(III[II)I" } : Jvm.MethodName) ({ cls := "CountTriangles$Falls", name := "growth", desc := "(III[II)I" } : Jvm.MethodName)) ∈ UW := ut_3 (List.mem_of_getElem? (i := 59) rfl) rfl
theorem u_3_60 : (Jvm.Cond.instanceMethod ({ cls := "CountTriangles$Falls", name := "growth", desc := "(III[II)I" } : Jvm.MethodName)) ∈ UW := ut_3 (List.mem_of_getElem? (i := 60) rfl) rfl
theorem u_3_61 : (Jvm.Cond.code ({ cls := "CountTriangles$Falls", name := "growth", desc := "(III[II)I" } : Jvm.MethodName) prog_2_method_4_code (6 : Nat) (Option.some Jvm.ClassFile.FieldType.int)) ∈ UW := ut_3 (List.mem_of_getElem? (i := 61) rfl) rfl
theorem u_3_62 : (Jvm.Cond.selects "CountTriangles$Heights" ({ cls := "CountTriangles$Mark", name := "growth", desc := "(III[II)I" } : Jvm.MethodName) ({ cls := "CountTriangles$Heights", name := "growth", desc := "(III[II)I" } : Jvm.MethodName)) ∈ UW := ut_3 (List.mem_of_getElem? (i := 62) rfl) rfl
theorem u_3_63 : (Jvm.Cond.instanceMethod ({ cls := "CountTriangles$Heights", name := "growth", desc := "(III[II)I" } : Jvm.MethodName)) ∈ UW := ut_3 (List.mem_of_getElem? (i := 63) rfl) rfl
theorem u_3_64 : (Jvm.Cond.code ({ cls := "CountTriangles$Heights", name := "growth", desc := "(III[II)I" } : Jvm.MethodName) prog_3_method_3_code (6 : Nat) (Option.some Jvm.ClassFile.FieldType.int)) ∈ UW := ut_3 (List.mem_of_getElem? (i := 64) rfl) rfl
theorem u_3_65 : (Jvm.Cond.selects "CountTriangles$LesserPairs" ({ cls := "CountTriangles$Mark", name := "growth", desc := "(III[II)I" } : Jvm.MethodName) ({ cls := "CountTriangles$LesserPairs", name := "growth", desc := "(III[II)I" } : Jvm.MethodName)) ∈ UW := ut_3 (List.mem_of_getElem? (i := 65) rfl) rfl
theorem u_3_66 : (Jvm.Cond.instanceMethod ({ cls := "CountTriangles$LesserPairs", name := "growth", desc := "(III[II)I" } : Jvm.MethodName)) ∈ UW := ut_3 (List.mem_of_getElem? (i := 66) rfl) rfl
theorem u_3_67 : (Jvm.Cond.code ({ cls := "CountTriangles$LesserPairs", name := "growth", desc := "(III[II)I" } : Jvm.MethodName) prog_5_method_4_code (6 : Nat) (Option.some Jvm.ClassFile.FieldType.int)) ∈ UW := ut_3 (List.mem_of_getElem? (i := 67) rfl) rfl
theorem u_3_68 : (Jvm.Cond.selects "CountTriangles$LongestRise" ({ cls := "CountTriangles$Mark", name := "growth", desc := "(III[II)I" } : Jvm.MethodName) ({ cls := "CountTriangles$LongestRise", name := "growth", desc := "(III[II)I" } : Jvm.MethodName)) ∈ UW := ut_3 (List.mem_of_getElem? (i := 68) rfl) rfl
theorem u_3_69 : (Jvm.Cond.instanceMethod ({ cls := "CountTriangles$LongestRise", name := "growth", desc := "(III[II)I" } : Jvm.MethodName)) ∈ UW := ut_3 (List.mem_of_getElem? (i := 69) rfl) rfl
theorem u_3_70 : (Jvm.Cond.code ({ cls := "CountTriangles$LongestRise", name := "growth", desc := "(III[II)I" } : Jvm.MethodName) prog_6_method_3_code (6 : Nat) (Option.some Jvm.ClassFile.FieldType.int)) ∈ UW := ut_3 (List.mem_of_getElem? (i := 70) rfl) rfl
theorem u_3_71 : (Jvm.Cond.methodLink "CountTriangles$LongestRise" (19 : Nat) ({ cls := "CountTriangles$LongestRise", name := "next", desc := "(III)I" } : Jvm.MethodName)) ∈ UW := ut_3 (List.mem_of_getElem? (i := 71) rfl) rfl
theorem u_3_72 : (Jvm.Cond.instanceMethod ({ cls := "CountTriangles$LongestRise", name := "next", desc := "(III)I" } : Jvm.MethodName)) ∈ UW := ut_3 (List.mem_of_getElem? (i := 72) rfl) rfl
theorem u_3_73 : (Jvm.Cond.selects "CountTriangles$LongestRise" ({ cls := "CountTriangles$LongestRise", name := "next", desc := "(III)I" } : Jvm.MethodName) ({ cls := "CountTriangles$LongestRise", name := "next", desc := "(III)I" } : Jvm.MethodName)) ∈ UW := ut_3 (List.mem_of_getElem? (i := 73) rfl) rfl
theorem u_3_74 : (Jvm.Cond.code ({ cls := "CountTriangles$LongestRise", name := "next", desc := "(III)I" } : Jvm.MethodName) prog_6_method_4_code (6 : Nat) (Option.some Jvm.ClassFile.FieldType.int)) ∈ UW := ut_3 (List.mem_of_getElem? (i := 74) rfl) rfl
theorem u_3_75 : (Jvm.Cond.selects "CountTriangles$Rings" ({ cls := "CountTriangles$Mark", name := "growth", desc := "(III[II)I" } : Jvm.MethodName) ({ cls := "CountTriangles$Rings", name := "growth", desc := "(III[II)I" } : Jvm.MethodName)) ∈ UW := ut_3 (List.mem_of_getElem? (i := 75) rfl) rfl
theorem u_3_76 : (Jvm.Cond.instanceMethod ({ cls := "CountTriangles$Rings", name := "growth", desc := "(III[II)I" } : Jvm.MethodName)) ∈ UW := ut_3 (List.mem_of_getElem? (i := 76) rfl) rfl
theorem u_3_77 : (Jvm.Cond.code ({ cls := "CountTriangles$Rings", name := "growth", desc := "(III[II)I" } : Jvm.MethodName) prog_11_method_3_code (8 : Nat) (Option.some Jvm.ClassFile.FieldType.int)) ∈ UW := ut_3 (List.mem_of_getElem? (i := 77) rfl) rfl
theorem u_3_78 : (Jvm.Cond.methodLink "CountTriangles$Orders" (64 : Nat) ({ cls := "CountTriangles$Mark", name := "next", desc := "(III)I" } : Jvm.MethodName)) ∈ UW := ut_3 (List.mem_of_getElem? (i := 78) rfl) rfl
theorem u_3_80 : (Jvm.Cond.sameMethod "CountTriangles$Mark" "CountTriangles$Mark" "next" "(III)I") ∈ UW := ut_3 (List.mem_of_getElem? (i := 80) rfl) rfl
theorem u_3_81 : (Jvm.Cond.selects "CountTriangles$Falls" ({ cls := "CountTriangles$Mark", name := "next", desc := "(III)I" } : Jvm.MethodName) ({ cls := "CountTriangles$Falls", name := "next", desc := "(III)I" } : Jvm.MethodName)) ∈ UW := ut_3 (List.mem_of_getElem? (i := 81) rfl) rfl
theorem u_3_82 : (Jvm.Cond.instanceMethod ({ cls := "CountTriangles$Falls", name := "next", desc := "(III)I" } : Jvm.MethodName)) ∈ UW := ut_3 (List.mem_of_getElem? (i := 82) rfl) rfl
theorem u_3_83 : (Jvm.Cond.code ({ cls := "CountTriangles$Falls", name := "next", desc := "(III)I" } : Jvm.MethodName) prog_2_method_5_code (4 : Nat) (Option.some Jvm.ClassFile.FieldType.int)) ∈ UW := ut_3 (List.mem_of_getElem? (i := 83) rfl) rfl
theorem u_3_84 : (Jvm.Cond.selects "CountTriangles$Heights" ({ cls := "CountTriangles$Mark", name := "next", desc := "(III)I" } : Jvm.MethodName) ({ cls := "CountTriangles$Heights", name := "next", desc := "(III)I" } : Jvm.MethodName)) ∈ UW := ut_3 (List.mem_of_getElem? (i := 84) rfl) rfl
theorem u_3_85 : (Jvm.Cond.instanceMethod ({ cls := "CountTriangles$Heights", name := "next", desc := "(III)I" } : Jvm.MethodName)) ∈ UW := ut_3 (List.mem_of_getElem? (i := 85) rfl) rfl
theorem u_3_86 : (Jvm.Cond.code ({ cls := "CountTriangles$Heights", name := "next", desc := "(III)I" } : Jvm.MethodName) prog_3_method_4_code (4 : Nat) (Option.some Jvm.ClassFile.FieldType.int)) ∈ UW := ut_3 (List.mem_of_getElem? (i := 86) rfl) rfl
theorem u_3_87 : (Jvm.Cond.methodLink "CountTriangles$Heights" (15 : Nat) ({ cls := "java/lang/Math", name := "min", desc := "(II)I" } : Jvm.MethodName)) ∈ UW := ut_3 (List.mem_of_getElem? (i := 87) rfl) rfl
theorem u_3_88 : (Jvm.Cond.selects "CountTriangles$LesserPairs" ({ cls := "CountTriangles$Mark", name := "next", desc := "(III)I" } : Jvm.MethodName) ({ cls := "CountTriangles$LesserPairs", name := "next", desc := "(III)I" } : Jvm.MethodName)) ∈ UW := ut_3 (List.mem_of_getElem? (i := 88) rfl) rfl
theorem u_3_89 : (Jvm.Cond.instanceMethod ({ cls := "CountTriangles$LesserPairs", name := "next", desc := "(III)I" } : Jvm.MethodName)) ∈ UW := ut_3 (List.mem_of_getElem? (i := 89) rfl) rfl
theorem u_3_90 : (Jvm.Cond.code ({ cls := "CountTriangles$LesserPairs", name := "next", desc := "(III)I" } : Jvm.MethodName) prog_5_method_5_code (4 : Nat) (Option.some Jvm.ClassFile.FieldType.int)) ∈ UW := ut_3 (List.mem_of_getElem? (i := 90) rfl) rfl
theorem u_3_91 : (Jvm.Cond.selects "CountTriangles$LongestRise" ({ cls := "CountTriangles$Mark", name := "next", desc := "(III)I" } : Jvm.MethodName) ({ cls := "CountTriangles$LongestRise", name := "next", desc := "(III)I" } : Jvm.MethodName)) ∈ UW := ut_3 (List.mem_of_getElem? (i := 91) rfl) rfl
theorem u_3_92 : (Jvm.Cond.selects "CountTriangles$Rings" ({ cls := "CountTriangles$Mark", name := "next", desc := "(III)I" } : Jvm.MethodName) ({ cls := "CountTriangles$Rings", name := "next", desc := "(III)I" } : Jvm.MethodName)) ∈ UW := ut_3 (List.mem_of_getElem? (i := 92) rfl) rfl
theorem u_3_93 : (Jvm.Cond.instanceMethod ({ cls := "CountTriangles$Rings", name := "next", desc := "(III)I" } : Jvm.MethodName)) ∈ UW := ut_3 (List.mem_of_getElem? (i := 93) rfl) rfl
theorem u_3_94 : (Jvm.Cond.code ({ cls := "CountTriangles$Rings", name := "next", desc := "(III)I" } : Jvm.MethodName) prog_11_method_4_code (4 : Nat) (Option.some Jvm.ClassFile.FieldType.int)) ∈ UW := ut_3 (List.mem_of_getElem? (i := 94) rfl) rfl
theorem u_3_95 : (Jvm.Cond.methodLink "CountTriangles$Orders" (67 : Nat) ({ cls := "CountTriangles$Orders", name := "packed", desc := "(I)I" } : Jvm.MethodName)) ∈ UW := ut_3 (List.mem_of_getElem? (i := 95) rfl) rfl
theorem u_3_97 : (Jvm.Cond.instanceMethod ({ cls := "CountTriangles$Orders", name := "packed", desc := "(I)I" } : Jvm.MethodName)) ∈ UW := ut_3 (List.mem_of_getElem? (i := 97) rfl) rfl
theorem u_3_98 : (Jvm.Cond.code ({ cls := "CountTriangles$Orders", name := "packed", desc := "(I)I" } : Jvm.MethodName) prog_8_method_12_code (4 : Nat) (Option.some Jvm.ClassFile.FieldType.int)) ∈ UW := ut_3 (List.mem_of_getElem? (i := 98) rfl) rfl
theorem u_3_99 : (Jvm.Cond.methodLink "CountTrianglesLaw" (79 : Nat) ({ cls := "CountTriangles", name := "mark", desc := "(III)I" } : Jvm.MethodName)) ∈ UW := ut_3 (List.mem_of_getElem? (i := 99) rfl) rfl
theorem u_3_100 : (Jvm.Cond.instanceMethod ({ cls := "CountTriangles", name := "mark", desc := "(III)I" } : Jvm.MethodName)) ∈ UW := ut_3 (List.mem_of_getElem? (i := 100) rfl) rfl
theorem u_3_101 : (Jvm.Cond.selects "CountTriangles" ({ cls := "CountTriangles", name := "mark", desc := "(III)I" } : Jvm.MethodName) ({ cls := "CountTriangles", name := "mark", desc := "(III)I" } : Jvm.MethodName)) ∈ UW := ut_3 (List.mem_of_getElem? (i := 101) rfl) rfl
theorem u_3_102 : (Jvm.Cond.code ({ cls := "CountTriangles", name := "mark", desc := "(III)I" } : Jvm.MethodName) prog_1_method_16_code (4 : Nat) (Option.some Jvm.ClassFile.FieldType.int)) ∈ UW := ut_3 (List.mem_of_getElem? (i := 102) rfl) rfl
theorem u_3_103 : (Jvm.Cond.methodLink "CountTriangles" (151 : Nat) ({ cls := "CountTriangles", name := "isOrder", desc := "(II)Z" } : Jvm.MethodName)) ∈ UW := ut_3 (List.mem_of_getElem? (i := 103) rfl) rfl
theorem u_3_105 : (Jvm.Cond.instanceMethod ({ cls := "CountTriangles", name := "isOrder", desc := "(II)Z" } : Jvm.MethodName)) ∈ UW := ut_3 (List.mem_of_getElem? (i := 105) rfl) rfl
theorem u_3_106 : (Jvm.Cond.code ({ cls := "CountTriangles", name := "isOrder", desc := "(II)Z" } : Jvm.MethodName) prog_1_method_31_code (3 : Nat) (Option.some Jvm.ClassFile.FieldType.boolean)) ∈ UW := ut_3 (List.mem_of_getElem? (i := 106) rfl) rfl
theorem u_3_107 : (Jvm.Cond.methodLink "CountTriangles" (212 : Nat) ({ cls := "CountTriangles$Orders", name := "isOne", desc := "(II)Z" } : Jvm.MethodName)) ∈ UW := ut_3 (List.mem_of_getElem? (i := 107) rfl) rfl
theorem u_3_108 : (Jvm.Cond.instanceMethod ({ cls := "CountTriangles$Orders", name := "isOne", desc := "(II)Z" } : Jvm.MethodName)) ∈ UW := ut_3 (List.mem_of_getElem? (i := 108) rfl) rfl
theorem u_3_109 : (Jvm.Cond.selects "CountTriangles$Orders" ({ cls := "CountTriangles$Orders", name := "isOne", desc := "(II)Z" } : Jvm.MethodName) ({ cls := "CountTriangles$Orders", name := "isOne", desc := "(II)Z" } : Jvm.MethodName)) ∈ UW := ut_3 (List.mem_of_getElem? (i := 109) rfl) rfl
theorem u_3_110 : (Jvm.Cond.code ({ cls := "CountTriangles$Orders", name := "isOne", desc := "(II)Z" } : Jvm.MethodName) prog_8_method_2_code (5 : Nat) (Option.some Jvm.ClassFile.FieldType.boolean)) ∈ UW := ut_3 (List.mem_of_getElem? (i := 110) rfl) rfl
theorem u_3_113 : (Jvm.Cond.methodLink "CountTriangles" (155 : Nat) ({ cls := "CountTriangles$Orders", name := "markOf", desc := "(III)I" } : Jvm.MethodName)) ∈ UW := ut_3 (List.mem_of_getElem? (i := 113) rfl) rfl
theorem u_3_114 : (Jvm.Cond.instanceMethod ({ cls := "CountTriangles$Orders", name := "markOf", desc := "(III)I" } : Jvm.MethodName)) ∈ UW := ut_3 (List.mem_of_getElem? (i := 114) rfl) rfl
theorem u_3_115 : (Jvm.Cond.selects "CountTriangles$Orders" ({ cls := "CountTriangles$Orders", name := "markOf", desc := "(III)I" } : Jvm.MethodName) ({ cls := "CountTriangles$Orders", name := "markOf", desc := "(III)I" } : Jvm.MethodName)) ∈ UW := ut_3 (List.mem_of_getElem? (i := 115) rfl) rfl
theorem u_3_116 : (Jvm.Cond.code ({ cls := "CountTriangles$Orders", name := "markOf", desc := "(III)I" } : Jvm.MethodName) prog_8_method_6_code (9 : Nat) (Option.some Jvm.ClassFile.FieldType.int)) ∈ UW := ut_3 (List.mem_of_getElem? (i := 116) rfl) rfl
theorem u_3_117 : (Jvm.Cond.methodLink "CountTriangles$Orders" (75 : Nat) ({ cls := "CountTriangles$Orders", name := "unpack", desc := "(II[I)V" } : Jvm.MethodName)) ∈ UW := ut_3 (List.mem_of_getElem? (i := 117) rfl) rfl
theorem u_3_118 : (Jvm.Cond.static ({ cls := "CountTriangles$Orders", name := "unpack", desc := "(II[I)V" } : Jvm.MethodName)) ∈ UW := ut_3 (List.mem_of_getElem? (i := 118) rfl) rfl
theorem u_3_119 : (Jvm.Cond.code ({ cls := "CountTriangles$Orders", name := "unpack", desc := "(II[I)V" } : Jvm.MethodName) prog_8_method_11_code (4 : Nat) (Option.none : Option Jvm.ClassFile.FieldType)) ∈ UW := ut_3 (List.mem_of_getElem? (i := 119) rfl) rfl
theorem u_3_120 : (Jvm.Cond.methodLink "CountTriangles$Orders" (79 : Nat) ({ cls := "CountTriangles$Orders", name := "lesserLater", desc := "(II)I" } : Jvm.MethodName)) ∈ UW := ut_3 (List.mem_of_getElem? (i := 120) rfl) rfl
theorem u_3_122 : (Jvm.Cond.instanceMethod ({ cls := "CountTriangles$Orders", name := "lesserLater", desc := "(II)I" } : Jvm.MethodName)) ∈ UW := ut_3 (List.mem_of_getElem? (i := 122) rfl) rfl
theorem u_3_123 : (Jvm.Cond.code ({ cls := "CountTriangles$Orders", name := "lesserLater", desc := "(II)I" } : Jvm.MethodName) prog_8_method_10_code (5 : Nat) (Option.some Jvm.ClassFile.FieldType.int)) ∈ UW := ut_3 (List.mem_of_getElem? (i := 123) rfl) rfl
theorem u_3_124 : (Jvm.Cond.methodLink "CountTrianglesLaw" (83 : Nat) ({ cls := "CountTriangles", name := "rank", desc := "(II)I" } : Jvm.MethodName)) ∈ UW := ut_3 (List.mem_of_getElem? (i := 124) rfl) rfl
theorem u_3_125 : (Jvm.Cond.instanceMethod ({ cls := "CountTriangles", name := "rank", desc := "(II)I" } : Jvm.MethodName)) ∈ UW := ut_3 (List.mem_of_getElem? (i := 125) rfl) rfl
theorem u_3_126 : (Jvm.Cond.selects "CountTriangles" ({ cls := "CountTriangles", name := "rank", desc := "(II)I" } : Jvm.MethodName) ({ cls := "CountTriangles", name := "rank", desc := "(II)I" } : Jvm.MethodName)) ∈ UW := ut_3 (List.mem_of_getElem? (i := 126) rfl) rfl
theorem u_3_127 : (Jvm.Cond.code ({ cls := "CountTriangles", name := "rank", desc := "(II)I" } : Jvm.MethodName) prog_1_method_17_code (3 : Nat) (Option.some Jvm.ClassFile.FieldType.int)) ∈ UW := ut_3 (List.mem_of_getElem? (i := 127) rfl) rfl
theorem u_3_128 : (Jvm.Cond.methodLink "CountTriangles" (158 : Nat) ({ cls := "CountTriangles$Orders", name := "rankOf", desc := "(II)I" } : Jvm.MethodName)) ∈ UW := ut_3 (List.mem_of_getElem? (i := 128) rfl) rfl
theorem u_3_129 : (Jvm.Cond.instanceMethod ({ cls := "CountTriangles$Orders", name := "rankOf", desc := "(II)I" } : Jvm.MethodName)) ∈ UW := ut_3 (List.mem_of_getElem? (i := 129) rfl) rfl
theorem u_3_130 : (Jvm.Cond.selects "CountTriangles$Orders" ({ cls := "CountTriangles$Orders", name := "rankOf", desc := "(II)I" } : Jvm.MethodName) ({ cls := "CountTriangles$Orders", name := "rankOf", desc := "(II)I" } : Jvm.MethodName)) ∈ UW := ut_3 (List.mem_of_getElem? (i := 130) rfl) rfl
theorem u_3_131 : (Jvm.Cond.code ({ cls := "CountTriangles$Orders", name := "rankOf", desc := "(II)I" } : Jvm.MethodName) prog_8_method_7_code (5 : Nat) (Option.some Jvm.ClassFile.FieldType.int)) ∈ UW := ut_3 (List.mem_of_getElem? (i := 131) rfl) rfl
theorem u_3_133 : (Jvm.Cond.methodLink "CountTrianglesLaw" (87 : Nat) ({ cls := "CountTriangles", name := "over", desc := "(II)I" } : Jvm.MethodName)) ∈ UW := ut_3 (List.mem_of_getElem? (i := 133) rfl) rfl
theorem u_3_134 : (Jvm.Cond.instanceMethod ({ cls := "CountTriangles", name := "over", desc := "(II)I" } : Jvm.MethodName)) ∈ UW := ut_3 (List.mem_of_getElem? (i := 134) rfl) rfl
theorem u_3_135 : (Jvm.Cond.selects "CountTriangles" ({ cls := "CountTriangles", name := "over", desc := "(II)I" } : Jvm.MethodName) ({ cls := "CountTriangles", name := "over", desc := "(II)I" } : Jvm.MethodName)) ∈ UW := ut_3 (List.mem_of_getElem? (i := 135) rfl) rfl
theorem u_3_136 : (Jvm.Cond.code ({ cls := "CountTriangles", name := "over", desc := "(II)I" } : Jvm.MethodName) prog_1_method_18_code (3 : Nat) (Option.some Jvm.ClassFile.FieldType.int)) ∈ UW := ut_3 (List.mem_of_getElem? (i := 136) rfl) rfl
theorem u_3_137 : (Jvm.Cond.methodLink "CountTriangles" (159 : Nat) ({ cls := "CountTriangles$Orders", name := "turnedOver", desc := "(II)I" } : Jvm.MethodName)) ∈ UW := ut_3 (List.mem_of_getElem? (i := 137) rfl) rfl
theorem u_3_138 : (Jvm.Cond.instanceMethod ({ cls := "CountTriangles$Orders", name := "turnedOver", desc := "(II)I" } : Jvm.MethodName)) ∈ UW := ut_3 (List.mem_of_getElem? (i := 138) rfl) rfl
theorem u_3_139 : (Jvm.Cond.selects "CountTriangles$Orders" ({ cls := "CountTriangles$Orders", name := "turnedOver", desc := "(II)I" } : Jvm.MethodName) ({ cls := "CountTriangles$Orders", name := "turnedOver", desc := "(II)I" } : Jvm.MethodName)) ∈ UW := ut_3 (List.mem_of_getElem? (i := 139) rfl) rfl
theorem u_3_140 : (Jvm.Cond.code ({ cls := "CountTriangles$Orders", name := "turnedOver", desc := "(II)I" } : Jvm.MethodName) prog_8_method_8_code (4 : Nat) (Option.some Jvm.ClassFile.FieldType.int)) ∈ UW := ut_3 (List.mem_of_getElem? (i := 140) rfl) rfl
theorem u_3_141 : (Jvm.Cond.methodLink "CountTrianglesLaw" (91 : Nat) ({ cls := "CountTriangles", name := "behind", desc := "(III)I" } : Jvm.MethodName)) ∈ UW := ut_3 (List.mem_of_getElem? (i := 141) rfl) rfl
theorem u_3_142 : (Jvm.Cond.instanceMethod ({ cls := "CountTriangles", name := "behind", desc := "(III)I" } : Jvm.MethodName)) ∈ UW := ut_3 (List.mem_of_getElem? (i := 142) rfl) rfl
theorem u_3_143 : (Jvm.Cond.selects "CountTriangles" ({ cls := "CountTriangles", name := "behind", desc := "(III)I" } : Jvm.MethodName) ({ cls := "CountTriangles", name := "behind", desc := "(III)I" } : Jvm.MethodName)) ∈ UW := ut_3 (List.mem_of_getElem? (i := 143) rfl) rfl
theorem u_3_144 : (Jvm.Cond.code ({ cls := "CountTriangles", name := "behind", desc := "(III)I" } : Jvm.MethodName) prog_1_method_19_code (4 : Nat) (Option.some Jvm.ClassFile.FieldType.int)) ∈ UW := ut_3 (List.mem_of_getElem? (i := 144) rfl) rfl
theorem u_3_145 : (Jvm.Cond.methodLink "CountTriangles" (162 : Nat) ({ cls := "CountTriangles$Orders", name := "oneBehind", desc := "(III)I" } : Jvm.MethodName)) ∈ UW := ut_3 (List.mem_of_getElem? (i := 145) rfl) rfl
theorem u_3_146 : (Jvm.Cond.instanceMethod ({ cls := "CountTriangles$Orders", name := "oneBehind", desc := "(III)I" } : Jvm.MethodName)) ∈ UW := ut_3 (List.mem_of_getElem? (i := 146) rfl) rfl
theorem u_3_147 : (Jvm.Cond.selects "CountTriangles$Orders" ({ cls := "CountTriangles$Orders", name := "oneBehind", desc := "(III)I" } : Jvm.MethodName) ({ cls := "CountTriangles$Orders", name := "oneBehind", desc := "(III)I" } : Jvm.MethodName)) ∈ UW := ut_3 (List.mem_of_getElem? (i := 147) rfl) rfl
theorem u_3_148 : (Jvm.Cond.code ({ cls := "CountTriangles$Orders", name := "oneBehind", desc := "(III)I" } : Jvm.MethodName) prog_8_method_9_code (5 : Nat) (Option.some Jvm.ClassFile.FieldType.int)) ∈ UW := ut_3 (List.mem_of_getElem? (i := 148) rfl) rfl
theorem u_3_149 : (Jvm.Cond.methodLink "CountTrianglesLaw" (95 : Nat) ({ cls := "CountTriangles", name := "base", desc := "(II)I" } : Jvm.MethodName)) ∈ UW := ut_3 (List.mem_of_getElem? (i := 149) rfl) rfl
theorem u_3_150 : (Jvm.Cond.instanceMethod ({ cls := "CountTriangles", name := "base", desc := "(II)I" } : Jvm.MethodName)) ∈ UW := ut_3 (List.mem_of_getElem? (i := 150) rfl) rfl
theorem u_3_151 : (Jvm.Cond.selects "CountTriangles" ({ cls := "CountTriangles", name := "base", desc := "(II)I" } : Jvm.MethodName) ({ cls := "CountTriangles", name := "base", desc := "(II)I" } : Jvm.MethodName)) ∈ UW := ut_3 (List.mem_of_getElem? (i := 151) rfl) rfl
theorem u_3_152 : (Jvm.Cond.code ({ cls := "CountTriangles", name := "base", desc := "(II)I" } : Jvm.MethodName) prog_1_method_20_code (4 : Nat) (Option.some Jvm.ClassFile.FieldType.int)) ∈ UW := ut_3 (List.mem_of_getElem? (i := 152) rfl) rfl
theorem u_3_153 : (Jvm.Cond.methodLink "CountTriangles" (165 : Nat) ({ cls := "CountTriangles", name := "isPolynomial", desc := "(I)Z" } : Jvm.MethodName)) ∈ UW := ut_3 (List.mem_of_getElem? (i := 153) rfl) rfl
theorem u_3_154 : (Jvm.Cond.static ({ cls := "CountTriangles", name := "isPolynomial", desc := "(I)Z" } : Jvm.MethodName)) ∈ UW := ut_3 (List.mem_of_getElem? (i := 154) rfl) rfl
theorem u_3_155 : (Jvm.Cond.code ({ cls := "CountTriangles", name := "isPolynomial", desc := "(I)Z" } : Jvm.MethodName) prog_1_method_33_code (1 : Nat) (Option.some Jvm.ClassFile.FieldType.boolean)) ∈ UW := ut_3 (List.mem_of_getElem? (i := 155) rfl) rfl
theorem u_3_156 : (Jvm.Cond.methodLink "CountTriangles" (168 : Nat) ({ cls := "CountTriangles$Polynomial", name := "baseNow", desc := "()I" } : Jvm.MethodName)) ∈ UW := ut_3 (List.mem_of_getElem? (i := 156) rfl) rfl
theorem u_3_157 : (Jvm.Cond.instanceMethod ({ cls := "CountTriangles$Polynomial", name := "baseNow", desc := "()I" } : Jvm.MethodName)) ∈ UW := ut_3 (List.mem_of_getElem? (i := 157) rfl) rfl
theorem u_3_158 : (Jvm.Cond.selects "CountTriangles$Polynomial" ({ cls := "CountTriangles$Polynomial", name := "baseNow", desc := "()I" } : Jvm.MethodName) ({ cls := "CountTriangles$Polynomial", name := "baseNow", desc := "()I" } : Jvm.MethodName)) ∈ UW := ut_3 (List.mem_of_getElem? (i := 158) rfl) rfl
theorem u_3_159 : (Jvm.Cond.code ({ cls := "CountTriangles$Polynomial", name := "baseNow", desc := "()I" } : Jvm.MethodName) prog_10_method_2_code (1 : Nat) (Option.some Jvm.ClassFile.FieldType.int)) ∈ UW := ut_3 (List.mem_of_getElem? (i := 159) rfl) rfl
theorem u_3_160 : (Jvm.Cond.methodLink "CountTriangles" (171 : Nat) ({ cls := "CountTriangles$Polynomial", name := "clearIn", desc := "(I)V" } : Jvm.MethodName)) ∈ UW := ut_3 (List.mem_of_getElem? (i := 160) rfl) rfl
theorem u_3_161 : (Jvm.Cond.instanceMethod ({ cls := "CountTriangles$Polynomial", name := "clearIn", desc := "(I)V" } : Jvm.MethodName)) ∈ UW := ut_3 (List.mem_of_getElem? (i := 161) rfl) rfl
theorem u_3_162 : (Jvm.Cond.selects "CountTriangles$Polynomial" ({ cls := "CountTriangles$Polynomial", name := "clearIn", desc := "(I)V" } : Jvm.MethodName) ({ cls := "CountTriangles$Polynomial", name := "clearIn", desc := "(I)V" } : Jvm.MethodName)) ∈ UW := ut_3 (List.mem_of_getElem? (i := 162) rfl) rfl
theorem u_3_163 : (Jvm.Cond.code ({ cls := "CountTriangles$Polynomial", name := "clearIn", desc := "(I)V" } : Jvm.MethodName) prog_10_method_3_code (2 : Nat) (Option.none : Option Jvm.ClassFile.FieldType)) ∈ UW := ut_3 (List.mem_of_getElem? (i := 163) rfl) rfl
theorem u_3_164 : (Jvm.Cond.methodLink "CountTriangles$Polynomial" (22 : Nat) ({ cls := "java/util/Arrays", name := "fill", desc := "([JJ)V" } : Jvm.MethodName)) ∈ UW := ut_3 (List.mem_of_getElem? (i := 164) rfl) rfl
theorem u_3_165 : (Jvm.Cond.static ({ cls := "java/util/Arrays", name := "fill", desc := "([JJ)V" } : Jvm.MethodName)) ∈ UW := ut_3 (List.mem_of_getElem? (i := 165) rfl) rfl
theorem u_3_166 : (Jvm.Cond.code ({ cls := "java/util/Arrays", name := "fill", desc := "([JJ)V" } : Jvm.MethodName) prog_18_method_101_code (5 : Nat) (Option.none : Option Jvm.ClassFile.FieldType)) ∈ UW := ut_3 (List.mem_of_getElem? (i := 166) rfl) rfl
theorem u_3_167 : (Jvm.Cond.methodLink "CountTrianglesLaw" (99 : Nat) ({ cls := "CountTriangles", name := "set", desc := "(IIJ)J" } : Jvm.MethodName)) ∈ UW := ut_3 (List.mem_of_getElem? (i := 167) rfl) rfl
theorem u_3_168 : (Jvm.Cond.instanceMethod ({ cls := "CountTriangles", name := "set", desc := "(IIJ)J" } : Jvm.MethodName)) ∈ UW := ut_3 (List.mem_of_getElem? (i := 168) rfl) rfl
theorem u_3_169 : (Jvm.Cond.selects "CountTriangles" ({ cls := "CountTriangles", name := "set", desc := "(IIJ)J" } : Jvm.MethodName) ({ cls := "CountTriangles", name := "set", desc := "(IIJ)J" } : Jvm.MethodName)) ∈ UW := ut_3 (List.mem_of_getElem? (i := 169) rfl) rfl
theorem u_3_170 : (Jvm.Cond.code ({ cls := "CountTriangles", name := "set", desc := "(IIJ)J" } : Jvm.MethodName) prog_1_method_21_code (7 : Nat) (Option.some Jvm.ClassFile.FieldType.long)) ∈ UW := ut_3 (List.mem_of_getElem? (i := 170) rfl) rfl
theorem u_3_171 : (Jvm.Cond.constantLong "CountTriangles" (174 : Nat) (1000000 : Int64)) ∈ UW := ut_3 (List.mem_of_getElem? (i := 171) rfl) rfl
theorem u_3_172 : (Jvm.Cond.methodLink "CountTriangles" (176 : Nat) ({ cls := "CountTriangles", name := "beyond", desc := "(JJ)Z" } : Jvm.MethodName)) ∈ UW := ut_3 (List.mem_of_getElem? (i := 172) rfl) rfl
theorem u_3_173 : (Jvm.Cond.methodLink "CountTriangles" (180 : Nat) ({ cls := "CountTriangles$Polynomial", name := "at", desc := "(I)J" } : Jvm.MethodName)) ∈ UW := ut_3 (List.mem_of_getElem? (i := 173) rfl) rfl
theorem u_3_174 : (Jvm.Cond.instanceMethod ({ cls := "CountTriangles$Polynomial", name := "at", desc := "(I)J" } : Jvm.MethodName)) ∈ UW := ut_3 (List.mem_of_getElem? (i := 174) rfl) rfl
theorem u_3_175 : (Jvm.Cond.selects "CountTriangles$Polynomial" ({ cls := "CountTriangles$Polynomial", name := "at", desc := "(I)J" } : Jvm.MethodName) ({ cls := "CountTriangles$Polynomial", name := "at", desc := "(I)J" } : Jvm.MethodName)) ∈ UW := ut_3 (List.mem_of_getElem? (i := 175) rfl) rfl
theorem u_3_176 : (Jvm.Cond.code ({ cls := "CountTriangles$Polynomial", name := "at", desc := "(I)J" } : Jvm.MethodName) prog_10_method_4_code (2 : Nat) (Option.some Jvm.ClassFile.FieldType.long)) ∈ UW := ut_3 (List.mem_of_getElem? (i := 176) rfl) rfl
theorem u_3_178 : (Jvm.Cond.methodLink "CountTriangles" (183 : Nat) ({ cls := "CountTriangles$Polynomial", name := "put", desc := "(IJ)V" } : Jvm.MethodName)) ∈ UW := ut_3 (List.mem_of_getElem? (i := 178) rfl) rfl
theorem u_3_179 : (Jvm.Cond.instanceMethod ({ cls := "CountTriangles$Polynomial", name := "put", desc := "(IJ)V" } : Jvm.MethodName)) ∈ UW := ut_3 (List.mem_of_getElem? (i := 179) rfl) rfl
theorem u_3_180 : (Jvm.Cond.selects "CountTriangles$Polynomial" ({ cls := "CountTriangles$Polynomial", name := "put", desc := "(IJ)V" } : Jvm.MethodName) ({ cls := "CountTriangles$Polynomial", name := "put", desc := "(IJ)V" } : Jvm.MethodName)) ∈ UW := ut_3 (List.mem_of_getElem? (i := 180) rfl) rfl
theorem u_3_181 : (Jvm.Cond.code ({ cls := "CountTriangles$Polynomial", name := "put", desc := "(IJ)V" } : Jvm.MethodName) prog_10_method_5_code (4 : Nat) (Option.none : Option Jvm.ClassFile.FieldType)) ∈ UW := ut_3 (List.mem_of_getElem? (i := 181) rfl) rfl
theorem u_3_182 : (Jvm.Cond.methodLink "CountTrianglesLaw" (104 : Nat) ({ cls := "CountTriangles", name := "coefficient", desc := "(II)J" } : Jvm.MethodName)) ∈ UW := ut_3 (List.mem_of_getElem? (i := 182) rfl) rfl
theorem u_3_183 : (Jvm.Cond.instanceMethod ({ cls := "CountTriangles", name := "coefficient", desc := "(II)J" } : Jvm.MethodName)) ∈ UW := ut_3 (List.mem_of_getElem? (i := 183) rfl) rfl
theorem u_3_184 : (Jvm.Cond.selects "CountTriangles" ({ cls := "CountTriangles", name := "coefficient", desc := "(II)J" } : Jvm.MethodName) ({ cls := "CountTriangles", name := "coefficient", desc := "(II)J" } : Jvm.MethodName)) ∈ UW := ut_3 (List.mem_of_getElem? (i := 184) rfl) rfl
theorem u_3_185 : (Jvm.Cond.code ({ cls := "CountTriangles", name := "coefficient", desc := "(II)J" } : Jvm.MethodName) prog_1_method_22_code (3 : Nat) (Option.some Jvm.ClassFile.FieldType.long)) ∈ UW := ut_3 (List.mem_of_getElem? (i := 185) rfl) rfl
theorem u_3_186 : (Jvm.Cond.methodLink "CountTrianglesLaw" (109 : Nat) ({ cls := "CountTriangles", name := "told", desc := "(II)I" } : Jvm.MethodName)) ∈ UW := ut_3 (List.mem_of_getElem? (i := 186) rfl) rfl
theorem u_3_187 : (Jvm.Cond.instanceMethod ({ cls := "CountTriangles", name := "told", desc := "(II)I" } : Jvm.MethodName)) ∈ UW := ut_3 (List.mem_of_getElem? (i := 187) rfl) rfl
theorem u_3_188 : (Jvm.Cond.selects "CountTriangles" ({ cls := "CountTriangles", name := "told", desc := "(II)I" } : Jvm.MethodName) ({ cls := "CountTriangles", name := "told", desc := "(II)I" } : Jvm.MethodName)) ∈ UW := ut_3 (List.mem_of_getElem? (i := 188) rfl) rfl
theorem u_3_189 : (Jvm.Cond.code ({ cls := "CountTriangles", name := "told", desc := "(II)I" } : Jvm.MethodName) prog_1_method_23_code (3 : Nat) (Option.some Jvm.ClassFile.FieldType.int)) ∈ UW := ut_3 (List.mem_of_getElem? (i := 189) rfl) rfl
theorem u_3_190 : (Jvm.Cond.methodLink "CountTriangles" (187 : Nat) ({ cls := "CountTriangles$Polynomial", name := "degree", desc := "()I" } : Jvm.MethodName)) ∈ UW := ut_3 (List.mem_of_getElem? (i := 190) rfl) rfl
theorem u_3_191 : (Jvm.Cond.instanceMethod ({ cls := "CountTriangles$Polynomial", name := "degree", desc := "()I" } : Jvm.MethodName)) ∈ UW := ut_3 (List.mem_of_getElem? (i := 191) rfl) rfl
theorem u_3_192 : (Jvm.Cond.selects "CountTriangles$Polynomial" ({ cls := "CountTriangles$Polynomial", name := "degree", desc := "()I" } : Jvm.MethodName) ({ cls := "CountTriangles$Polynomial", name := "degree", desc := "()I" } : Jvm.MethodName)) ∈ UW := ut_3 (List.mem_of_getElem? (i := 192) rfl) rfl
theorem u_3_193 : (Jvm.Cond.code ({ cls := "CountTriangles$Polynomial", name := "degree", desc := "()I" } : Jvm.MethodName) prog_10_method_6_code (2 : Nat) (Option.some Jvm.ClassFile.FieldType.int)) ∈ UW := ut_3 (List.mem_of_getElem? (i := 193) rfl) rfl
theorem u_3_194 : (Jvm.Cond.methodLink "CountTrianglesLaw" (113 : Nat) ({ cls := "CountTriangles", name := "turn", desc := "(II)I" } : Jvm.MethodName)) ∈ UW := ut_3 (List.mem_of_getElem? (i := 194) rfl) rfl
theorem u_3_195 : (Jvm.Cond.instanceMethod ({ cls := "CountTriangles", name := "turn", desc := "(II)I" } : Jvm.MethodName)) ∈ UW := ut_3 (List.mem_of_getElem? (i := 195) rfl) rfl
theorem u_3_196 : (Jvm.Cond.selects "CountTriangles" ({ cls := "CountTriangles", name := "turn", desc := "(II)I" } : Jvm.MethodName) ({ cls := "CountTriangles", name := "turn", desc := "(II)I" } : Jvm.MethodName)) ∈ UW := ut_3 (List.mem_of_getElem? (i := 196) rfl) rfl
theorem u_3_197 : (Jvm.Cond.code ({ cls := "CountTriangles", name := "turn", desc := "(II)I" } : Jvm.MethodName) prog_1_method_24_code (3 : Nat) (Option.some Jvm.ClassFile.FieldType.int)) ∈ UW := ut_3 (List.mem_of_getElem? (i := 197) rfl) rfl
theorem u_3_198 : (Jvm.Cond.methodLink "CountTriangles" (190 : Nat) ({ cls := "CountTriangles$Polynomial", name := "turnInto", desc := "(I)Z" } : Jvm.MethodName)) ∈ UW := ut_3 (List.mem_of_getElem? (i := 198) rfl) rfl
theorem u_3_199 : (Jvm.Cond.instanceMethod ({ cls := "CountTriangles$Polynomial", name := "turnInto", desc := "(I)Z" } : Jvm.MethodName)) ∈ UW := ut_3 (List.mem_of_getElem? (i := 199) rfl) rfl
theorem u_3_200 : (Jvm.Cond.selects "CountTriangles$Polynomial" ({ cls := "CountTriangles$Polynomial", name := "turnInto", desc := "(I)Z" } : Jvm.MethodName) ({ cls := "CountTriangles$Polynomial", name := "turnInto", desc := "(I)Z" } : Jvm.MethodName)) ∈ UW := ut_3 (List.mem_of_getElem? (i := 200) rfl) rfl
theorem u_3_201 : (Jvm.Cond.code ({ cls := "CountTriangles$Polynomial", name := "turnInto", desc := "(I)Z" } : Jvm.MethodName) prog_10_method_11_code (2 : Nat) (Option.some Jvm.ClassFile.FieldType.boolean)) ∈ UW := ut_3 (List.mem_of_getElem? (i := 201) rfl) rfl
theorem u_3_202 : (Jvm.Cond.methodLink "CountTriangles$Polynomial" (40 : Nat) ({ cls := "CountTriangles$Polynomial", name := "findTurned", desc := "(I)Z" } : Jvm.MethodName)) ∈ UW := ut_3 (List.mem_of_getElem? (i := 202) rfl) rfl
theorem u_3_204 : (Jvm.Cond.instanceMethod ({ cls := "CountTriangles$Polynomial", name := "findTurned", desc := "(I)Z" } : Jvm.MethodName)) ∈ UW := ut_3 (List.mem_of_getElem? (i := 204) rfl) rfl
theorem u_3_205 : (Jvm.Cond.code ({ cls := "CountTriangles$Polynomial", name := "findTurned", desc := "(I)Z" } : Jvm.MethodName) prog_10_method_13_code (3 : Nat) (Option.some Jvm.ClassFile.FieldType.boolean)) ∈ UW := ut_3 (List.mem_of_getElem? (i := 205) rfl) rfl
theorem u_3_206 : (Jvm.Cond.methodLink "CountTriangles$Polynomial" (44 : Nat) ({ cls := "java/lang/System", name := "arraycopy", desc := "(Ljava/lang/Object;ILjava/lang/Object;II)V" } : Jvm.MethodName)) ∈ UW := ut_3 (List.mem_of_getElem? (i := 206) rfl) rfl
theorem u_3_207 : (Jvm.Cond.static ({ cls := "java/lang/System", name := "arraycopy", desc := "(Ljava/lang/Object;ILjava/lang/Object;II)V" } : Jvm.MethodName)) ∈ UW := ut_3 (List.mem_of_getElem? (i := 207) rfl) rfl
theorem u_3_208 : (Jvm.Cond.native ({ cls := "java/lang/System", name := "arraycopy", desc := "(Ljava/lang/Object;ILjava/lang/Object;II)V" } : Jvm.MethodName)) ∈ UW := ut_3 (List.mem_of_getElem? (i := 208) rfl) rfl
theorem u_3_209 : (Jvm.Cond.methodLink "CountTriangles$Polynomial" (54 : Nat) ({ cls := "CountTriangles$Polynomial", name := "choicesAreWholeFalling", desc := "()Z" } : Jvm.MethodName)) ∈ UW := ut_3 (List.mem_of_getElem? (i := 209) rfl) rfl
theorem u_3_211 : (Jvm.Cond.instanceMethod ({ cls := "CountTriangles$Polynomial", name := "choicesAreWholeFalling", desc := "()Z" } : Jvm.MethodName)) ∈ UW := ut_3 (List.mem_of_getElem? (i := 211) rfl) rfl
theorem u_3_212 : (Jvm.Cond.code ({ cls := "CountTriangles$Polynomial", name := "choicesAreWholeFalling", desc := "()Z" } : Jvm.MethodName) prog_10_method_14_code (2 : Nat) (Option.some Jvm.ClassFile.FieldType.boolean)) ∈ UW := ut_3 (List.mem_of_getElem? (i := 212) rfl) rfl
theorem u_3_214 : (Jvm.Cond.methodLink "CountTriangles$Polynomial" (32 : Nat) ({ cls := "CountTriangles$Polynomial", name := "zero", desc := "(II)I" } : Jvm.MethodName)) ∈ UW := ut_3 (List.mem_of_getElem? (i := 214) rfl) rfl
theorem u_3_215 : (Jvm.Cond.static ({ cls := "CountTriangles$Polynomial", name := "zero", desc := "(II)I" } : Jvm.MethodName)) ∈ UW := ut_3 (List.mem_of_getElem? (i := 215) rfl) rfl
theorem u_3_216 : (Jvm.Cond.code ({ cls := "CountTriangles$Polynomial", name := "zero", desc := "(II)I" } : Jvm.MethodName) prog_10_method_8_code (2 : Nat) (Option.some Jvm.ClassFile.FieldType.int)) ∈ UW := ut_3 (List.mem_of_getElem? (i := 216) rfl) rfl
theorem u_3_217 : (Jvm.Cond.methodLink "CountTriangles$Polynomial" (58 : Nat) ({ cls := "CountTriangles$Polynomial", name := "multiplyRoom", desc := "(II)V" } : Jvm.MethodName)) ∈ UW := ut_3 (List.mem_of_getElem? (i := 217) rfl) rfl
theorem u_3_219 : (Jvm.Cond.instanceMethod ({ cls := "CountTriangles$Polynomial", name := "multiplyRoom", desc := "(II)V" } : Jvm.MethodName)) ∈ UW := ut_3 (List.mem_of_getElem? (i := 219) rfl) rfl
theorem u_3_220 : (Jvm.Cond.code ({ cls := "CountTriangles$Polynomial", name := "multiplyRoom", desc := "(II)V" } : Jvm.MethodName) prog_10_method_15_code (6 : Nat) (Option.none : Option Jvm.ClassFile.FieldType)) ∈ UW := ut_3 (List.mem_of_getElem? (i := 220) rfl) rfl
theorem u_3_221 : (Jvm.Cond.methodLink "CountTriangles$Polynomial" (66 : Nat) ({ cls := "CountTriangles$Polynomial", name := "roomMayStand", desc := "(I)Z" } : Jvm.MethodName)) ∈ UW := ut_3 (List.mem_of_getElem? (i := 221) rfl) rfl
theorem u_3_223 : (Jvm.Cond.instanceMethod ({ cls := "CountTriangles$Polynomial", name := "roomMayStand", desc := "(I)Z" } : Jvm.MethodName)) ∈ UW := ut_3 (List.mem_of_getElem? (i := 223) rfl) rfl
theorem u_3_224 : (Jvm.Cond.code ({ cls := "CountTriangles$Polynomial", name := "roomMayStand", desc := "(I)Z" } : Jvm.MethodName) prog_10_method_16_code (3 : Nat) (Option.some Jvm.ClassFile.FieldType.boolean)) ∈ UW := ut_3 (List.mem_of_getElem? (i := 224) rfl) rfl
theorem u_3_225 : (Jvm.Cond.constantLong "CountTriangles$Polynomial" (69 : Nat) (1000000 : Int64)) ∈ UW := ut_3 (List.mem_of_getElem? (i := 225) rfl) rfl
theorem u_3_227 : (Jvm.Cond.methodLink "CountTrianglesLaw" (117 : Nat) ({ cls := "CountTriangles", name := "value", desc := "(III)J" } : Jvm.MethodName)) ∈ UW := ut_3 (List.mem_of_getElem? (i := 227) rfl) rfl
theorem u_3_228 : (Jvm.Cond.instanceMethod ({ cls := "CountTriangles", name := "value", desc := "(III)J" } : Jvm.MethodName)) ∈ UW := ut_3 (List.mem_of_getElem? (i := 228) rfl) rfl
theorem u_3_229 : (Jvm.Cond.selects "CountTriangles" ({ cls := "CountTriangles", name := "value", desc := "(III)J" } : Jvm.MethodName) ({ cls := "CountTriangles", name := "value", desc := "(III)J" } : Jvm.MethodName)) ∈ UW := ut_3 (List.mem_of_getElem? (i := 229) rfl) rfl
theorem u_3_230 : (Jvm.Cond.code ({ cls := "CountTriangles", name := "value", desc := "(III)J" } : Jvm.MethodName) prog_1_method_25_code (4 : Nat) (Option.some Jvm.ClassFile.FieldType.long)) ∈ UW := ut_3 (List.mem_of_getElem? (i := 230) rfl) rfl
theorem u_3_231 : (Jvm.Cond.methodLink "CountTriangles" (193 : Nat) ({ cls := "CountTriangles$Polynomial", name := "difference", desc := "(II)J" } : Jvm.MethodName)) ∈ UW := ut_3 (List.mem_of_getElem? (i := 231) rfl) rfl
theorem u_3_232 : (Jvm.Cond.instanceMethod ({ cls := "CountTriangles$Polynomial", name := "difference", desc := "(II)J" } : Jvm.MethodName)) ∈ UW := ut_3 (List.mem_of_getElem? (i := 232) rfl) rfl
theorem u_3_233 : (Jvm.Cond.selects "CountTriangles$Polynomial" ({ cls := "CountTriangles$Polynomial", name := "difference", desc := "(II)J" } : Jvm.MethodName) ({ cls := "CountTriangles$Polynomial", name := "difference", desc := "(II)J" } : Jvm.MethodName)) ∈ UW := ut_3 (List.mem_of_getElem? (i := 233) rfl) rfl
theorem u_3_234 : (Jvm.Cond.code ({ cls := "CountTriangles$Polynomial", name := "difference", desc := "(II)J" } : Jvm.MethodName) prog_10_method_10_code (5 : Nat) (Option.some Jvm.ClassFile.FieldType.long)) ∈ UW := ut_3 (List.mem_of_getElem? (i := 234) rfl) rfl
theorem u_3_235 : (Jvm.Cond.methodLink "CountTriangles$Polynomial" (36 : Nat) ({ cls := "CountTriangles$Polynomial", name := "valueAt", desc := "(I)J" } : Jvm.MethodName)) ∈ UW := ut_3 (List.mem_of_getElem? (i := 235) rfl) rfl
theorem u_3_236 : (Jvm.Cond.instanceMethod ({ cls := "CountTriangles$Polynomial", name := "valueAt", desc := "(I)J" } : Jvm.MethodName)) ∈ UW := ut_3 (List.mem_of_getElem? (i := 236) rfl) rfl
theorem u_3_237 : (Jvm.Cond.selects "CountTriangles$Polynomial" ({ cls := "CountTriangles$Polynomial", name := "valueAt", desc := "(I)J" } : Jvm.MethodName) ({ cls := "CountTriangles$Polynomial", name := "valueAt", desc := "(I)J" } : Jvm.MethodName)) ∈ UW := ut_3 (List.mem_of_getElem? (i := 237) rfl) rfl
theorem u_3_238 : (Jvm.Cond.code ({ cls := "CountTriangles$Polynomial", name := "valueAt", desc := "(I)J" } : Jvm.MethodName) prog_10_method_9_code (7 : Nat) (Option.some Jvm.ClassFile.FieldType.long)) ∈ UW := ut_3 (List.mem_of_getElem? (i := 238) rfl) rfl
theorem u_3_239 : (Jvm.Cond.methodLink "CountTrianglesLaw" (121 : Nat) ({ cls := "CountTriangles", name := "sumUp", desc := "(I)I" } : Jvm.MethodName)) ∈ UW := ut_3 (List.mem_of_getElem? (i := 239) rfl) rfl
theorem u_4_0 : (Jvm.Cond.instanceMethod ({ cls := "CountTriangles", name := "sumUp", desc := "(I)I" } : Jvm.MethodName)) ∈ UW := ut_4 (List.mem_of_getElem? (i := 0) rfl) rfl
theorem u_4_1 : (Jvm.Cond.selects "CountTriangles" ({ cls := "CountTriangles", name := "sumUp", desc := "(I)I" } : Jvm.MethodName) ({ cls := "CountTriangles", name := "sumUp", desc := "(I)I" } : Jvm.MethodName)) ∈ UW := ut_4 (List.mem_of_getElem? (i := 1) rfl) rfl
theorem u_4_2 : (Jvm.Cond.code ({ cls := "CountTriangles", name := "sumUp", desc := "(I)I" } : Jvm.MethodName) prog_1_method_26_code (2 : Nat) (Option.some Jvm.ClassFile.FieldType.int)) ∈ UW := ut_4 (List.mem_of_getElem? (i := 2) rfl) rfl
theorem u_4_3 : (Jvm.Cond.methodLink "CountTriangles" (196 : Nat) ({ cls := "CountTriangles$Polynomial", name := "becomeSum", desc := "()Z" } : Jvm.MethodName)) ∈ UW := ut_4 (List.mem_of_getElem? (i := 3) rfl) rfl
theorem u_4_4 : (Jvm.Cond.instanceMethod ({ cls := "CountTriangles$Polynomial", name := "becomeSum", desc := "()Z" } : Jvm.MethodName)) ∈ UW := ut_4 (List.mem_of_getElem? (i := 4) rfl) rfl
theorem u_4_5 : (Jvm.Cond.selects "CountTriangles$Polynomial" ({ cls := "CountTriangles$Polynomial", name := "becomeSum", desc := "()Z" } : Jvm.MethodName) ({ cls := "CountTriangles$Polynomial", name := "becomeSum", desc := "()Z" } : Jvm.MethodName)) ∈ UW := ut_4 (List.mem_of_getElem? (i := 5) rfl) rfl
theorem u_4_6 : (Jvm.Cond.code ({ cls := "CountTriangles$Polynomial", name := "becomeSum", desc := "()Z" } : Jvm.MethodName) prog_10_method_12_code (1 : Nat) (Option.some Jvm.ClassFile.FieldType.boolean)) ∈ UW := ut_4 (List.mem_of_getElem? (i := 6) rfl) rfl
theorem u_4_7 : (Jvm.Cond.methodLink "CountTriangles$Polynomial" (50 : Nat) ({ cls := "CountTriangles$Polynomial", name := "degree", desc := "()I" } : Jvm.MethodName)) ∈ UW := ut_4 (List.mem_of_getElem? (i := 7) rfl) rfl
theorem u_4_8 : (Jvm.Cond.methodLink "CountTrianglesLaw" (125 : Nat) ({ cls := "CountTriangles", name := "root", desc := "(II)I" } : Jvm.MethodName)) ∈ UW := ut_4 (List.mem_of_getElem? (i := 8) rfl) rfl
theorem u_4_9 : (Jvm.Cond.instanceMethod ({ cls := "CountTriangles", name := "root", desc := "(II)I" } : Jvm.MethodName)) ∈ UW := ut_4 (List.mem_of_getElem? (i := 9) rfl) rfl
theorem u_4_10 : (Jvm.Cond.selects "CountTriangles" ({ cls := "CountTriangles", name := "root", desc := "(II)I" } : Jvm.MethodName) ({ cls := "CountTriangles", name := "root", desc := "(II)I" } : Jvm.MethodName)) ∈ UW := ut_4 (List.mem_of_getElem? (i := 10) rfl) rfl
theorem u_4_11 : (Jvm.Cond.code ({ cls := "CountTriangles", name := "root", desc := "(II)I" } : Jvm.MethodName) prog_1_method_27_code (5 : Nat) (Option.some Jvm.ClassFile.FieldType.int)) ∈ UW := ut_4 (List.mem_of_getElem? (i := 11) rfl) rfl
theorem u_4_12 : (Jvm.Cond.methodLink "CountTriangles" (200 : Nat) ({ cls := "CountTriangles$Polynomial", name := "valueAt", desc := "(I)J" } : Jvm.MethodName)) ∈ UW := ut_4 (List.mem_of_getElem? (i := 12) rfl) rfl
theorem u_4_13 : (Jvm.Cond.methodLink "CountTrianglesLaw" (129 : Nat) ({ cls := "CountTriangles", name := "count", desc := "(I)I" } : Jvm.MethodName)) ∈ UW := ut_4 (List.mem_of_getElem? (i := 13) rfl) rfl
theorem u_4_14 : (Jvm.Cond.instanceMethod ({ cls := "CountTriangles", name := "count", desc := "(I)I" } : Jvm.MethodName)) ∈ UW := ut_4 (List.mem_of_getElem? (i := 14) rfl) rfl
theorem u_4_15 : (Jvm.Cond.selects "CountTriangles" ({ cls := "CountTriangles", name := "count", desc := "(I)I" } : Jvm.MethodName) ({ cls := "CountTriangles", name := "count", desc := "(I)I" } : Jvm.MethodName)) ∈ UW := ut_4 (List.mem_of_getElem? (i := 15) rfl) rfl
theorem u_4_16 : (Jvm.Cond.code ({ cls := "CountTriangles", name := "count", desc := "(I)I" } : Jvm.MethodName) prog_1_method_28_code (2 : Nat) (Option.some Jvm.ClassFile.FieldType.int)) ∈ UW := ut_4 (List.mem_of_getElem? (i := 16) rfl) rfl
theorem u_4_17 : (Jvm.Cond.methodLink "CountTriangles" (203 : Nat) ({ cls := "CountTriangles", name := "itemsOfLaws", desc := "()I" } : Jvm.MethodName)) ∈ UW := ut_4 (List.mem_of_getElem? (i := 17) rfl) rfl
theorem u_4_19 : (Jvm.Cond.instanceMethod ({ cls := "CountTriangles", name := "itemsOfLaws", desc := "()I" } : Jvm.MethodName)) ∈ UW := ut_4 (List.mem_of_getElem? (i := 19) rfl) rfl
theorem u_4_20 : (Jvm.Cond.code ({ cls := "CountTriangles", name := "itemsOfLaws", desc := "()I" } : Jvm.MethodName) prog_1_method_29_code (3 : Nat) (Option.some Jvm.ClassFile.FieldType.int)) ∈ UW := ut_4 (List.mem_of_getElem? (i := 20) rfl) rfl
theorem u_4_21 : (Jvm.Cond.methodLink "CountTriangles" (206 : Nat) ({ cls := "CountTriangles", name := "coefficientsInUse", desc := "()I" } : Jvm.MethodName)) ∈ UW := ut_4 (List.mem_of_getElem? (i := 21) rfl) rfl
theorem u_4_23 : (Jvm.Cond.instanceMethod ({ cls := "CountTriangles", name := "coefficientsInUse", desc := "()I" } : Jvm.MethodName)) ∈ UW := ut_4 (List.mem_of_getElem? (i := 23) rfl) rfl
theorem u_4_24 : (Jvm.Cond.code ({ cls := "CountTriangles", name := "coefficientsInUse", desc := "()I" } : Jvm.MethodName) prog_1_method_30_code (3 : Nat) (Option.some Jvm.ClassFile.FieldType.int)) ∈ UW := ut_4 (List.mem_of_getElem? (i := 24) rfl) rfl
theorem u_4_25 : (Jvm.Cond.methodLink "CountTriangles" (209 : Nat) ({ cls := "CountTriangles$Polynomial", name := "inUse", desc := "()I" } : Jvm.MethodName)) ∈ UW := ut_4 (List.mem_of_getElem? (i := 25) rfl) rfl
theorem u_4_26 : (Jvm.Cond.instanceMethod ({ cls := "CountTriangles$Polynomial", name := "inUse", desc := "()I" } : Jvm.MethodName)) ∈ UW := ut_4 (List.mem_of_getElem? (i := 26) rfl) rfl
theorem u_4_27 : (Jvm.Cond.selects "CountTriangles$Polynomial" ({ cls := "CountTriangles$Polynomial", name := "inUse", desc := "()I" } : Jvm.MethodName) ({ cls := "CountTriangles$Polynomial", name := "inUse", desc := "()I" } : Jvm.MethodName)) ∈ UW := ut_4 (List.mem_of_getElem? (i := 27) rfl) rfl
theorem u_4_28 : (Jvm.Cond.code ({ cls := "CountTriangles$Polynomial", name := "inUse", desc := "()I" } : Jvm.MethodName) prog_10_method_7_code (3 : Nat) (Option.some Jvm.ClassFile.FieldType.int)) ∈ UW := ut_4 (List.mem_of_getElem? (i := 28) rfl) rfl
theorem u_4_29 : (Jvm.Cond.classLink "CountTrianglesLaw" (10 : Nat) "CountTrianglesModel") ∈ UW := ut_4 (List.mem_of_getElem? (i := 29) rfl) rfl
theorem u_4_30 : (Jvm.Cond.instantiable "CountTrianglesModel" (21 : Nat)) ∈ UW := ut_4 (List.mem_of_getElem? (i := 30) rfl) rfl
theorem u_4_31 : (Jvm.Cond.methodLink "CountTrianglesLaw" (12 : Nat) ({ cls := "CountTrianglesModel", name := "<init>", desc := "()V" } : Jvm.MethodName)) ∈ UW := ut_4 (List.mem_of_getElem? (i := 31) rfl) rfl
theorem u_4_32 : (Jvm.Cond.instanceMethod ({ cls := "CountTrianglesModel", name := "<init>", desc := "()V" } : Jvm.MethodName)) ∈ UW := ut_4 (List.mem_of_getElem? (i := 32) rfl) rfl
theorem u_4_33 : (Jvm.Cond.code ({ cls := "CountTrianglesModel", name := "<init>", desc := "()V" } : Jvm.MethodName) prog_14_method_1_code (2 : Nat) (Option.none : Option Jvm.ClassFile.FieldType)) ∈ UW := ut_4 (List.mem_of_getElem? (i := 33) rfl) rfl
theorem u_4_34 : (Jvm.Cond.methodLink "CountTrianglesModel" (1 : Nat) ({ cls := "java/lang/Object", name := "<init>", desc := "()V" } : Jvm.MethodName)) ∈ UW := ut_4 (List.mem_of_getElem? (i := 34) rfl) rfl
theorem u_4_35 : (Jvm.Cond.fieldLink "CountTrianglesModel" (66 : Nat) "CountTrianglesModel" "bytes" "I") ∈ UW := ut_4 (List.mem_of_getElem? (i := 35) rfl) rfl
theorem u_4_36 : (Jvm.Cond.fieldLink "CountTrianglesModel" (7 : Nat) "CountTrianglesModel" "text" "[I") ∈ UW := ut_4 (List.mem_of_getElem? (i := 36) rfl) rfl
theorem u_4_37 : (Jvm.Cond.fieldLink "CountTrianglesModel" (72 : Nat) "CountTrianglesModel" "position" "I") ∈ UW := ut_4 (List.mem_of_getElem? (i := 37) rfl) rfl
theorem u_4_38 : (Jvm.Cond.fieldLink "CountTrianglesModel" (88 : Nat) "CountTrianglesModel" "begin" "I") ∈ UW := ut_4 (List.mem_of_getElem? (i := 38) rfl) rfl
theorem u_4_39 : (Jvm.Cond.fieldLink "CountTrianglesModel" (85 : Nat) "CountTrianglesModel" "readMany" "I") ∈ UW := ut_4 (List.mem_of_getElem? (i := 39) rfl) rfl
theorem u_4_40 : (Jvm.Cond.fieldLink "CountTrianglesModel" (13 : Nat) "CountTrianglesModel" "read" "[I") ∈ UW := ut_4 (List.mem_of_getElem? (i := 40) rfl) rfl
theorem u_4_41 : (Jvm.Cond.fieldLink "CountTrianglesModel" (16 : Nat) "CountTrianglesModel" "law" "[I") ∈ UW := ut_4 (List.mem_of_getElem? (i := 41) rfl) rfl
theorem u_4_42 : (Jvm.Cond.fieldLink "CountTrianglesModel" (19 : Nat) "CountTrianglesModel" "items" "[I") ∈ UW := ut_4 (List.mem_of_getElem? (i := 42) rfl) rfl
theorem u_4_43 : (Jvm.Cond.fieldLink "CountTrianglesModel" (22 : Nat) "CountTrianglesModel" "cell" "[J") ∈ UW := ut_4 (List.mem_of_getElem? (i := 43) rfl) rfl
theorem u_4_44 : (Jvm.Cond.fieldLink "CountTrianglesModel" (26 : Nat) "CountTrianglesModel" "isGreat" "[Z") ∈ UW := ut_4 (List.mem_of_getElem? (i := 44) rfl) rfl
theorem u_4_45 : (Jvm.Cond.fieldLink "CountTrianglesModel" (30 : Nat) "CountTrianglesModel" "rests" "[I") ∈ UW := ut_4 (List.mem_of_getElem? (i := 45) rfl) rfl
theorem u_4_46 : (Jvm.Cond.fieldLink "CountTrianglesModel" (33 : Nat) "CountTrianglesModel" "column" "[J") ∈ UW := ut_4 (List.mem_of_getElem? (i := 46) rfl) rfl
theorem u_4_47 : (Jvm.Cond.fieldLink "CountTrianglesModel" (146 : Nat) "CountTrianglesModel" "isNo" "Z") ∈ UW := ut_4 (List.mem_of_getElem? (i := 47) rfl) rfl
theorem u_4_48 : (Jvm.Cond.fieldLink "CountTrianglesModel" (36 : Nat) "CountTrianglesModel" "digit" "[I") ∈ UW := ut_4 (List.mem_of_getElem? (i := 48) rfl) rfl
theorem u_4_49 : (Jvm.Cond.fieldLink "CountTrianglesModel" (39 : Nat) "CountTrianglesModel" "other" "[I") ∈ UW := ut_4 (List.mem_of_getElem? (i := 49) rfl) rfl
theorem u_4_50 : (Jvm.Cond.fieldLink "CountTrianglesModel" (42 : Nat) "CountTrianglesModel" "turned" "[I") ∈ UW := ut_4 (List.mem_of_getElem? (i := 50) rfl) rfl
theorem u_4_51 : (Jvm.Cond.fieldLink "CountTrianglesModel" (45 : Nat) "CountTrianglesModel" "base" "[I") ∈ UW := ut_4 (List.mem_of_getElem? (i := 51) rfl) rfl
theorem u_4_52 : (Jvm.Cond.fieldLink "CountTrianglesModel" (48 : Nat) "CountTrianglesModel" "factor" "[J") ∈ UW := ut_4 (List.mem_of_getElem? (i := 52) rfl) rfl
theorem u_4_53 : (Jvm.Cond.fieldLink "CountTrianglesModel" (51 : Nat) "CountTrianglesModel" "falling" "[J") ∈ UW := ut_4 (List.mem_of_getElem? (i := 53) rfl) rfl
theorem u_4_54 : (Jvm.Cond.fieldLink "CountTrianglesModel" (54 : Nat) "CountTrianglesModel" "made" "[J") ∈ UW := ut_4 (List.mem_of_getElem? (i := 54) rfl) rfl
theorem u_4_55 : (Jvm.Cond.fieldLink "CountTrianglesModel" (57 : Nat) "CountTrianglesModel" "table" "[J") ∈ UW := ut_4 (List.mem_of_getElem? (i := 55) rfl) rfl
theorem u_4_56 : (Jvm.Cond.lays "CountTrianglesModel" "CountTrianglesModel" "bytes" "I") ∈ UW := ut_4 (List.mem_of_getElem? (i := 56) rfl) rfl
theorem u_4_58 : (Jvm.Cond.laysFinal "CountTrianglesModel" "CountTrianglesModel" "text" "[I") ∈ UW := ut_4 (List.mem_of_getElem? (i := 58) rfl) rfl
theorem u_4_60 : (Jvm.Cond.lays "CountTrianglesModel" "CountTrianglesModel" "position" "I") ∈ UW := ut_4 (List.mem_of_getElem? (i := 60) rfl) rfl
theorem u_4_62 : (Jvm.Cond.lays "CountTrianglesModel" "CountTrianglesModel" "begin" "I") ∈ UW := ut_4 (List.mem_of_getElem? (i := 62) rfl) rfl
theorem u_4_64 : (Jvm.Cond.lays "CountTrianglesModel" "CountTrianglesModel" "readMany" "I") ∈ UW := ut_4 (List.mem_of_getElem? (i := 64) rfl) rfl
theorem u_4_66 : (Jvm.Cond.laysFinal "CountTrianglesModel" "CountTrianglesModel" "read" "[I") ∈ UW := ut_4 (List.mem_of_getElem? (i := 66) rfl) rfl
theorem u_4_68 : (Jvm.Cond.laysFinal "CountTrianglesModel" "CountTrianglesModel" "law" "[I") ∈ UW := ut_4 (List.mem_of_getElem? (i := 68) rfl) rfl
theorem u_4_70 : (Jvm.Cond.laysFinal "CountTrianglesModel" "CountTrianglesModel" "items" "[I") ∈ UW := ut_4 (List.mem_of_getElem? (i := 70) rfl) rfl
theorem u_4_72 : (Jvm.Cond.laysFinal "CountTrianglesModel" "CountTrianglesModel" "cell" "[J") ∈ UW := ut_4 (List.mem_of_getElem? (i := 72) rfl) rfl
theorem u_4_74 : (Jvm.Cond.laysFinal "CountTrianglesModel" "CountTrianglesModel" "isGreat" "[Z") ∈ UW := ut_4 (List.mem_of_getElem? (i := 74) rfl) rfl
theorem u_4_76 : (Jvm.Cond.laysFinal "CountTrianglesModel" "CountTrianglesModel" "rests" "[I") ∈ UW := ut_4 (List.mem_of_getElem? (i := 76) rfl) rfl
theorem u_4_78 : (Jvm.Cond.laysFinal "CountTrianglesModel" "CountTrianglesModel" "column" "[J") ∈ UW := ut_4 (List.mem_of_getElem? (i := 78) rfl) rfl
theorem u_4_80 : (Jvm.Cond.lays "CountTrianglesModel" "CountTrianglesModel" "isNo" "Z") ∈ UW := ut_4 (List.mem_of_getElem? (i := 80) rfl) rfl
theorem u_4_82 : (Jvm.Cond.laysFinal "CountTrianglesModel" "CountTrianglesModel" "digit" "[I") ∈ UW := ut_4 (List.mem_of_getElem? (i := 82) rfl) rfl
theorem u_4_84 : (Jvm.Cond.laysFinal "CountTrianglesModel" "CountTrianglesModel" "other" "[I") ∈ UW := ut_4 (List.mem_of_getElem? (i := 84) rfl) rfl
theorem u_4_86 : (Jvm.Cond.laysFinal "CountTrianglesModel" "CountTrianglesModel" "turned" "[I") ∈ UW := ut_4 (List.mem_of_getElem? (i := 86) rfl) rfl
theorem u_4_88 : (Jvm.Cond.laysFinal "CountTrianglesModel" "CountTrianglesModel" "base" "[I") ∈ UW := ut_4 (List.mem_of_getElem? (i := 88) rfl) rfl
theorem u_4_90 : (Jvm.Cond.laysFinal "CountTrianglesModel" "CountTrianglesModel" "factor" "[J") ∈ UW := ut_4 (List.mem_of_getElem? (i := 90) rfl) rfl
theorem u_4_92 : (Jvm.Cond.laysFinal "CountTrianglesModel" "CountTrianglesModel" "falling" "[J") ∈ UW := ut_4 (List.mem_of_getElem? (i := 92) rfl) rfl
theorem u_4_94 : (Jvm.Cond.laysFinal "CountTrianglesModel" "CountTrianglesModel" "made" "[J") ∈ UW := ut_4 (List.mem_of_getElem? (i := 94) rfl) rfl
theorem u_4_96 : (Jvm.Cond.laysFinal "CountTrianglesModel" "CountTrianglesModel" "table" "[J") ∈ UW := ut_4 (List.mem_of_getElem? (i := 96) rfl) rfl
theorem u_4_99 : (Jvm.Cond.arrayClass Jvm.ClassFile.FieldType.boolean) ∈ UW := ut_4 (List.mem_of_getElem? (i := 99) rfl) rfl
theorem u_4_100 : (Jvm.Cond.methodLink "CountTrianglesLaw" (19 : Nat) ({ cls := "CountTrianglesModel", name := "write", desc := "(IJ)I" } : Jvm.MethodName)) ∈ UW := ut_4 (List.mem_of_getElem? (i := 100) rfl) rfl
theorem u_4_101 : (Jvm.Cond.instanceMethod ({ cls := "CountTrianglesModel", name := "write", desc := "(IJ)I" } : Jvm.MethodName)) ∈ UW := ut_4 (List.mem_of_getElem? (i := 101) rfl) rfl
theorem u_4_102 : (Jvm.Cond.selects "CountTrianglesModel" ({ cls := "CountTrianglesModel", name := "write", desc := "(IJ)I" } : Jvm.MethodName) ({ cls := "CountTrianglesModel", name := "write", desc := "(IJ)I" } : Jvm.MethodName)) ∈ UW := ut_4 (List.mem_of_getElem? (i := 102) rfl) rfl
theorem u_4_103 : (Jvm.Cond.code ({ cls := "CountTrianglesModel", name := "write", desc := "(IJ)I" } : Jvm.MethodName) prog_14_method_3_code (5 : Nat) (Option.some Jvm.ClassFile.FieldType.int)) ∈ UW := ut_4 (List.mem_of_getElem? (i := 103) rfl) rfl
theorem u_4_104 : (Jvm.Cond.constantLong "CountTrianglesModel" (60 : Nat) (8 : Int64)) ∈ UW := ut_4 (List.mem_of_getElem? (i := 104) rfl) rfl
theorem u_4_105 : (Jvm.Cond.methodLink "CountTrianglesModel" (62 : Nat) ({ cls := "CountTrianglesModel", name := "in", desc := "(JJJ)Z" } : Jvm.MethodName)) ∈ UW := ut_4 (List.mem_of_getElem? (i := 105) rfl) rfl
theorem u_4_106 : (Jvm.Cond.static ({ cls := "CountTrianglesModel", name := "in", desc := "(JJJ)Z" } : Jvm.MethodName)) ∈ UW := ut_4 (List.mem_of_getElem? (i := 106) rfl) rfl
theorem u_4_107 : (Jvm.Cond.code ({ cls := "CountTrianglesModel", name := "in", desc := "(JJJ)Z" } : Jvm.MethodName) prog_14_method_2_code (6 : Nat) (Option.some Jvm.ClassFile.FieldType.boolean)) ∈ UW := ut_4 (List.mem_of_getElem? (i := 107) rfl) rfl
theorem u_4_108 : (Jvm.Cond.constantLong "CountTrianglesModel" (70 : Nat) (255 : Int64)) ∈ UW := ut_4 (List.mem_of_getElem? (i := 108) rfl) rfl
theorem u_4_109 : (Jvm.Cond.methodLink "CountTrianglesLaw" (24 : Nat) ({ cls := "CountTrianglesModel", name := "wipe", desc := "()I" } : Jvm.MethodName)) ∈ UW := ut_4 (List.mem_of_getElem? (i := 109) rfl) rfl
theorem u_4_110 : (Jvm.Cond.instanceMethod ({ cls := "CountTrianglesModel", name := "wipe", desc := "()I" } : Jvm.MethodName)) ∈ UW := ut_4 (List.mem_of_getElem? (i := 110) rfl) rfl
theorem u_4_111 : (Jvm.Cond.selects "CountTrianglesModel" ({ cls := "CountTrianglesModel", name := "wipe", desc := "()I" } : Jvm.MethodName) ({ cls := "CountTrianglesModel", name := "wipe", desc := "()I" } : Jvm.MethodName)) ∈ UW := ut_4 (List.mem_of_getElem? (i := 111) rfl) rfl
theorem u_4_112 : (Jvm.Cond.code ({ cls := "CountTrianglesModel", name := "wipe", desc := "()I" } : Jvm.MethodName) prog_14_method_4_code (2 : Nat) (Option.some Jvm.ClassFile.FieldType.int)) ∈ UW := ut_4 (List.mem_of_getElem? (i := 112) rfl) rfl
theorem u_4_113 : (Jvm.Cond.methodLink "CountTrianglesLaw" (28 : Nat) ({ cls := "CountTrianglesModel", name := "fault", desc := "()I" } : Jvm.MethodName)) ∈ UW := ut_4 (List.mem_of_getElem? (i := 113) rfl) rfl
theorem u_4_114 : (Jvm.Cond.instanceMethod ({ cls := "CountTrianglesModel", name := "fault", desc := "()I" } : Jvm.MethodName)) ∈ UW := ut_4 (List.mem_of_getElem? (i := 114) rfl) rfl
theorem u_4_115 : (Jvm.Cond.selects "CountTrianglesModel" ({ cls := "CountTrianglesModel", name := "fault", desc := "()I" } : Jvm.MethodName) ({ cls := "CountTrianglesModel", name := "fault", desc := "()I" } : Jvm.MethodName)) ∈ UW := ut_4 (List.mem_of_getElem? (i := 115) rfl) rfl
theorem u_4_116 : (Jvm.Cond.code ({ cls := "CountTrianglesModel", name := "fault", desc := "()I" } : Jvm.MethodName) prog_14_method_9_code (1 : Nat) (Option.some Jvm.ClassFile.FieldType.int)) ∈ UW := ut_4 (List.mem_of_getElem? (i := 116) rfl) rfl
theorem u_4_117 : (Jvm.Cond.methodLink "CountTrianglesModel" (95 : Nat) ({ cls := "CountTrianglesModel", name := "isRead", desc := "()Z" } : Jvm.MethodName)) ∈ UW := ut_4 (List.mem_of_getElem? (i := 117) rfl) rfl
theorem u_4_119 : (Jvm.Cond.instanceMethod ({ cls := "CountTrianglesModel", name := "isRead", desc := "()Z" } : Jvm.MethodName)) ∈ UW := ut_4 (List.mem_of_getElem? (i := 119) rfl) rfl
theorem u_4_120 : (Jvm.Cond.code ({ cls := "CountTrianglesModel", name := "isRead", desc := "()Z" } : Jvm.MethodName) prog_14_method_8_code (2 : Nat) (Option.some Jvm.ClassFile.FieldType.boolean)) ∈ UW := ut_4 (List.mem_of_getElem? (i := 120) rfl) rfl
theorem u_4_121 : (Jvm.Cond.methodLink "CountTrianglesModel" (91 : Nat) ({ cls := "CountTrianglesModel", name := "isItem", desc := "()Z" } : Jvm.MethodName)) ∈ UW := ut_4 (List.mem_of_getElem? (i := 121) rfl) rfl
theorem u_4_123 : (Jvm.Cond.instanceMethod ({ cls := "CountTrianglesModel", name := "isItem", desc := "()Z" } : Jvm.MethodName)) ∈ UW := ut_4 (List.mem_of_getElem? (i := 123) rfl) rfl
theorem u_4_124 : (Jvm.Cond.code ({ cls := "CountTrianglesModel", name := "isItem", desc := "()Z" } : Jvm.MethodName) prog_14_method_7_code (3 : Nat) (Option.some Jvm.ClassFile.FieldType.boolean)) ∈ UW := ut_4 (List.mem_of_getElem? (i := 124) rfl) rfl
theorem u_4_125 : (Jvm.Cond.methodLink "CountTrianglesModel" (75 : Nat) ({ cls := "CountTrianglesModel", name := "byteNow", desc := "()I" } : Jvm.MethodName)) ∈ UW := ut_4 (List.mem_of_getElem? (i := 125) rfl) rfl
theorem u_4_127 : (Jvm.Cond.instanceMethod ({ cls := "CountTrianglesModel", name := "byteNow", desc := "()I" } : Jvm.MethodName)) ∈ UW := ut_4 (List.mem_of_getElem? (i := 127) rfl) rfl
theorem u_4_128 : (Jvm.Cond.code ({ cls := "CountTrianglesModel", name := "byteNow", desc := "()I" } : Jvm.MethodName) prog_14_method_5_code (1 : Nat) (Option.some Jvm.ClassFile.FieldType.int)) ∈ UW := ut_4 (List.mem_of_getElem? (i := 128) rfl) rfl
theorem u_4_129 : (Jvm.Cond.methodLink "CountTrianglesModel" (81 : Nat) ({ cls := "CountTrianglesModel", name := "isNumber", desc := "(II)Z" } : Jvm.MethodName)) ∈ UW := ut_4 (List.mem_of_getElem? (i := 129) rfl) rfl
theorem u_4_131 : (Jvm.Cond.instanceMethod ({ cls := "CountTrianglesModel", name := "isNumber", desc := "(II)Z" } : Jvm.MethodName)) ∈ UW := ut_4 (List.mem_of_getElem? (i := 131) rfl) rfl
theorem u_4_132 : (Jvm.Cond.code ({ cls := "CountTrianglesModel", name := "isNumber", desc := "(II)Z" } : Jvm.MethodName) prog_14_method_6_code (5 : Nat) (Option.some Jvm.ClassFile.FieldType.boolean)) ∈ UW := ut_4 (List.mem_of_getElem? (i := 132) rfl) rfl
theorem u_4_133 : (Jvm.Cond.constantLong "CountTrianglesModel" (79 : Nat) (9 : Int64)) ∈ UW := ut_4 (List.mem_of_getElem? (i := 133) rfl) rfl
theorem u_4_134 : (Jvm.Cond.methodLink "CountTrianglesLaw" (33 : Nat) ({ cls := "CountTrianglesModel", name := "lay", desc := "(I)I" } : Jvm.MethodName)) ∈ UW := ut_4 (List.mem_of_getElem? (i := 134) rfl) rfl
theorem u_4_135 : (Jvm.Cond.instanceMethod ({ cls := "CountTrianglesModel", name := "lay", desc := "(I)I" } : Jvm.MethodName)) ∈ UW := ut_4 (List.mem_of_getElem? (i := 135) rfl) rfl
theorem u_4_136 : (Jvm.Cond.selects "CountTrianglesModel" ({ cls := "CountTrianglesModel", name := "lay", desc := "(I)I" } : Jvm.MethodName) ({ cls := "CountTrianglesModel", name := "lay", desc := "(I)I" } : Jvm.MethodName)) ∈ UW := ut_4 (List.mem_of_getElem? (i := 136) rfl) rfl
theorem u_4_137 : (Jvm.Cond.code ({ cls := "CountTrianglesModel", name := "lay", desc := "(I)I" } : Jvm.MethodName) prog_14_method_11_code (3 : Nat) (Option.some Jvm.ClassFile.FieldType.int)) ∈ UW := ut_4 (List.mem_of_getElem? (i := 137) rfl) rfl
theorem u_4_138 : (Jvm.Cond.methodLink "CountTrianglesModel" (100 : Nat) ({ cls := "CountTrianglesModel", name := "isLaw", desc := "(I)Z" } : Jvm.MethodName)) ∈ UW := ut_4 (List.mem_of_getElem? (i := 138) rfl) rfl
theorem u_4_139 : (Jvm.Cond.static ({ cls := "CountTrianglesModel", name := "isLaw", desc := "(I)Z" } : Jvm.MethodName)) ∈ UW := ut_4 (List.mem_of_getElem? (i := 139) rfl) rfl
theorem u_4_140 : (Jvm.Cond.code ({ cls := "CountTrianglesModel", name := "isLaw", desc := "(I)Z" } : Jvm.MethodName) prog_14_method_10_code (1 : Nat) (Option.some Jvm.ClassFile.FieldType.boolean)) ∈ UW := ut_4 (List.mem_of_getElem? (i := 140) rfl) rfl
theorem u_4_141 : (Jvm.Cond.constantLong "CountTrianglesModel" (98 : Nat) (3 : Int64)) ∈ UW := ut_4 (List.mem_of_getElem? (i := 141) rfl) rfl
theorem u_4_142 : (Jvm.Cond.methodLink "CountTrianglesLaw" (38 : Nat) ({ cls := "CountTrianglesModel", name := "number", desc := "(III)J" } : Jvm.MethodName)) ∈ UW := ut_4 (List.mem_of_getElem? (i := 142) rfl) rfl
theorem u_4_143 : (Jvm.Cond.instanceMethod ({ cls := "CountTrianglesModel", name := "number", desc := "(III)J" } : Jvm.MethodName)) ∈ UW := ut_4 (List.mem_of_getElem? (i := 143) rfl) rfl
theorem u_4_144 : (Jvm.Cond.selects "CountTrianglesModel" ({ cls := "CountTrianglesModel", name := "number", desc := "(III)J" } : Jvm.MethodName) ({ cls := "CountTrianglesModel", name := "number", desc := "(III)J" } : Jvm.MethodName)) ∈ UW := ut_4 (List.mem_of_getElem? (i := 144) rfl) rfl
theorem u_4_145 : (Jvm.Cond.code ({ cls := "CountTrianglesModel", name := "number", desc := "(III)J" } : Jvm.MethodName) prog_14_method_18_code (4 : Nat) (Option.some Jvm.ClassFile.FieldType.long)) ∈ UW := ut_4 (List.mem_of_getElem? (i := 145) rfl) rfl
theorem u_4_146 : (Jvm.Cond.constantLong "CountTrianglesModel" (128 : Nat) (24 : Int64)) ∈ UW := ut_4 (List.mem_of_getElem? (i := 146) rfl) rfl
theorem u_4_147 : (Jvm.Cond.constantLong "CountTrianglesModel" (130 : Nat) (-1000000000000000001 : Int64)) ∈ UW := ut_4 (List.mem_of_getElem? (i := 147) rfl) rfl
theorem u_4_148 : (Jvm.Cond.methodLink "CountTrianglesModel" (132 : Nat) ({ cls := "CountTrianglesModel", name := "findRows", desc := "(III)V" } : Jvm.MethodName)) ∈ UW := ut_4 (List.mem_of_getElem? (i := 148) rfl) rfl
theorem u_4_150 : (Jvm.Cond.instanceMethod ({ cls := "CountTrianglesModel", name := "findRows", desc := "(III)V" } : Jvm.MethodName)) ∈ UW := ut_4 (List.mem_of_getElem? (i := 150) rfl) rfl
theorem u_4_151 : (Jvm.Cond.code ({ cls := "CountTrianglesModel", name := "findRows", desc := "(III)V" } : Jvm.MethodName) prog_14_method_17_code (13 : Nat) (Option.none : Option Jvm.ClassFile.FieldType)) ∈ UW := ut_4 (List.mem_of_getElem? (i := 151) rfl) rfl
theorem u_4_152 : (Jvm.Cond.methodLink "CountTrianglesModel" (112 : Nat) ({ cls := "CountTrianglesModel", name := "at", desc := "(III)I" } : Jvm.MethodName)) ∈ UW := ut_4 (List.mem_of_getElem? (i := 152) rfl) rfl
theorem u_4_153 : (Jvm.Cond.static ({ cls := "CountTrianglesModel", name := "at", desc := "(III)I" } : Jvm.MethodName)) ∈ UW := ut_4 (List.mem_of_getElem? (i := 153) rfl) rfl
theorem u_4_154 : (Jvm.Cond.code ({ cls := "CountTrianglesModel", name := "at", desc := "(III)I" } : Jvm.MethodName) prog_14_method_12_code (3 : Nat) (Option.some Jvm.ClassFile.FieldType.int)) ∈ UW := ut_4 (List.mem_of_getElem? (i := 154) rfl) rfl
theorem u_4_155 : (Jvm.Cond.methodLink "CountTrianglesModel" (116 : Nat) ({ cls := "CountTrianglesModel", name := "comes", desc := "(IIII)I" } : Jvm.MethodName)) ∈ UW := ut_4 (List.mem_of_getElem? (i := 155) rfl) rfl
theorem u_4_157 : (Jvm.Cond.instanceMethod ({ cls := "CountTrianglesModel", name := "comes", desc := "(IIII)I" } : Jvm.MethodName)) ∈ UW := ut_4 (List.mem_of_getElem? (i := 157) rfl) rfl
theorem u_4_158 : (Jvm.Cond.code ({ cls := "CountTrianglesModel", name := "comes", desc := "(IIII)I" } : Jvm.MethodName) prog_14_method_13_code (5 : Nat) (Option.some Jvm.ClassFile.FieldType.int)) ∈ UW := ut_4 (List.mem_of_getElem? (i := 158) rfl) rfl
theorem u_4_159 : (Jvm.Cond.methodLink "CountTrianglesModel" (120 : Nat) ({ cls := "CountTrianglesModel", name := "isTooMuch", desc := "(JJ)Z" } : Jvm.MethodName)) ∈ UW := ut_4 (List.mem_of_getElem? (i := 159) rfl) rfl
theorem u_4_160 : (Jvm.Cond.static ({ cls := "CountTrianglesModel", name := "isTooMuch", desc := "(JJ)Z" } : Jvm.MethodName)) ∈ UW := ut_4 (List.mem_of_getElem? (i := 160) rfl) rfl
theorem u_4_161 : (Jvm.Cond.code ({ cls := "CountTrianglesModel", name := "isTooMuch", desc := "(JJ)Z" } : Jvm.MethodName) prog_14_method_16_code (4 : Nat) (Option.some Jvm.ClassFile.FieldType.boolean)) ∈ UW := ut_4 (List.mem_of_getElem? (i := 161) rfl) rfl
theorem u_4_162 : (Jvm.Cond.methodLink "CountTrianglesModel" (108 : Nat) ({ cls := "CountTrianglesModel", name := "size", desc := "(J)J" } : Jvm.MethodName)) ∈ UW := ut_4 (List.mem_of_getElem? (i := 162) rfl) rfl
theorem u_4_163 : (Jvm.Cond.static ({ cls := "CountTrianglesModel", name := "size", desc := "(J)J" } : Jvm.MethodName)) ∈ UW := ut_4 (List.mem_of_getElem? (i := 163) rfl) rfl
theorem u_4_164 : (Jvm.Cond.code ({ cls := "CountTrianglesModel", name := "size", desc := "(J)J" } : Jvm.MethodName) prog_14_method_15_code (2 : Nat) (Option.some Jvm.ClassFile.FieldType.long)) ∈ UW := ut_4 (List.mem_of_getElem? (i := 164) rfl) rfl
theorem u_4_165 : (Jvm.Cond.constantLong "CountTrianglesModel" (104 : Nat) (100000000000000000 : Int64)) ∈ UW := ut_4 (List.mem_of_getElem? (i := 165) rfl) rfl
theorem u_4_166 : (Jvm.Cond.methodLink "CountTrianglesModel" (124 : Nat) ({ cls := "CountTrianglesModel", name := "isBeyond", desc := "(J)Z" } : Jvm.MethodName)) ∈ UW := ut_4 (List.mem_of_getElem? (i := 166) rfl) rfl
theorem u_4_167 : (Jvm.Cond.static ({ cls := "CountTrianglesModel", name := "isBeyond", desc := "(J)Z" } : Jvm.MethodName)) ∈ UW := ut_4 (List.mem_of_getElem? (i := 167) rfl) rfl
theorem u_4_168 : (Jvm.Cond.code ({ cls := "CountTrianglesModel", name := "isBeyond", desc := "(J)Z" } : Jvm.MethodName) prog_14_method_14_code (2 : Nat) (Option.some Jvm.ClassFile.FieldType.boolean)) ∈ UW := ut_4 (List.mem_of_getElem? (i := 168) rfl) rfl
theorem u_4_169 : (Jvm.Cond.constantLong "CountTrianglesModel" (106 : Nat) (-100000000000000000 : Int64)) ∈ UW := ut_4 (List.mem_of_getElem? (i := 169) rfl) rfl
theorem u_4_170 : (Jvm.Cond.constantLong "CountTrianglesModel" (136 : Nat) (-1000000000000000002 : Int64)) ∈ UW := ut_4 (List.mem_of_getElem? (i := 170) rfl) rfl
theorem u_4_171 : (Jvm.Cond.methodLink "CountTrianglesLaw" (42 : Nat) ({ cls := "CountTrianglesModel", name := "sum", desc := "(III)J" } : Jvm.MethodName)) ∈ UW := ut_4 (List.mem_of_getElem? (i := 171) rfl) rfl
theorem u_4_172 : (Jvm.Cond.instanceMethod ({ cls := "CountTrianglesModel", name := "sum", desc := "(III)J" } : Jvm.MethodName)) ∈ UW := ut_4 (List.mem_of_getElem? (i := 172) rfl) rfl
theorem u_4_173 : (Jvm.Cond.selects "CountTrianglesModel" ({ cls := "CountTrianglesModel", name := "sum", desc := "(III)J" } : Jvm.MethodName) ({ cls := "CountTrianglesModel", name := "sum", desc := "(III)J" } : Jvm.MethodName)) ∈ UW := ut_4 (List.mem_of_getElem? (i := 173) rfl) rfl
theorem u_4_174 : (Jvm.Cond.code ({ cls := "CountTrianglesModel", name := "sum", desc := "(III)J" } : Jvm.MethodName) prog_14_method_19_code (11 : Nat) (Option.some Jvm.ClassFile.FieldType.long)) ∈ UW := ut_4 (List.mem_of_getElem? (i := 174) rfl) rfl
theorem u_4_175 : (Jvm.Cond.constantLong "CountTrianglesModel" (138 : Nat) (100000000 : Int64)) ∈ UW := ut_4 (List.mem_of_getElem? (i := 175) rfl) rfl
theorem u_4_176 : (Jvm.Cond.methodLink "CountTrianglesLaw" (47 : Nat) ({ cls := "CountTrianglesModel", name := "shape", desc := "(III)I" } : Jvm.MethodName)) ∈ UW := ut_4 (List.mem_of_getElem? (i := 176) rfl) rfl
theorem u_4_177 : (Jvm.Cond.instanceMethod ({ cls := "CountTrianglesModel", name := "shape", desc := "(III)I" } : Jvm.MethodName)) ∈ UW := ut_4 (List.mem_of_getElem? (i := 177) rfl) rfl
theorem u_4_178 : (Jvm.Cond.selects "CountTrianglesModel" ({ cls := "CountTrianglesModel", name := "shape", desc := "(III)I" } : Jvm.MethodName) ({ cls := "CountTrianglesModel", name := "shape", desc := "(III)I" } : Jvm.MethodName)) ∈ UW := ut_4 (List.mem_of_getElem? (i := 178) rfl) rfl
theorem u_4_179 : (Jvm.Cond.code ({ cls := "CountTrianglesModel", name := "shape", desc := "(III)I" } : Jvm.MethodName) prog_14_method_20_code (14 : Nat) (Option.some Jvm.ClassFile.FieldType.int)) ∈ UW := ut_4 (List.mem_of_getElem? (i := 179) rfl) rfl
theorem u_4_180 : (Jvm.Cond.constantLong "CountTrianglesModel" (140 : Nat) (2 : Int64)) ∈ UW := ut_4 (List.mem_of_getElem? (i := 180) rfl) rfl
theorem u_4_181 : (Jvm.Cond.methodLink "CountTrianglesLaw" (52 : Nat) ({ cls := "CountTrianglesModel", name := "rest", desc := "(IIII)I" } : Jvm.MethodName)) ∈ UW := ut_4 (List.mem_of_getElem? (i := 181) rfl) rfl
theorem u_4_182 : (Jvm.Cond.instanceMethod ({ cls := "CountTrianglesModel", name := "rest", desc := "(IIII)I" } : Jvm.MethodName)) ∈ UW := ut_4 (List.mem_of_getElem? (i := 182) rfl) rfl
theorem u_4_183 : (Jvm.Cond.selects "CountTrianglesModel" ({ cls := "CountTrianglesModel", name := "rest", desc := "(IIII)I" } : Jvm.MethodName) ({ cls := "CountTrianglesModel", name := "rest", desc := "(IIII)I" } : Jvm.MethodName)) ∈ UW := ut_4 (List.mem_of_getElem? (i := 183) rfl) rfl
theorem u_4_184 : (Jvm.Cond.code ({ cls := "CountTrianglesModel", name := "rest", desc := "(IIII)I" } : Jvm.MethodName) prog_14_method_21_code (10 : Nat) (Option.some Jvm.ClassFile.FieldType.int)) ∈ UW := ut_4 (List.mem_of_getElem? (i := 184) rfl) rfl
theorem u_4_185 : (Jvm.Cond.constantLong "CountTrianglesModel" (142 : Nat) (60 : Int64)) ∈ UW := ut_4 (List.mem_of_getElem? (i := 185) rfl) rfl
theorem u_4_186 : (Jvm.Cond.constantLong "CountTrianglesModel" (144 : Nat) (10000 : Int64)) ∈ UW := ut_4 (List.mem_of_getElem? (i := 186) rfl) rfl
theorem u_4_187 : (Jvm.Cond.methodLink "CountTrianglesLaw" (57 : Nat) ({ cls := "CountTrianglesModel", name := "times", desc := "(IIII)J" } : Jvm.MethodName)) ∈ UW := ut_4 (List.mem_of_getElem? (i := 187) rfl) rfl
theorem u_4_188 : (Jvm.Cond.instanceMethod ({ cls := "CountTrianglesModel", name := "times", desc := "(IIII)J" } : Jvm.MethodName)) ∈ UW := ut_4 (List.mem_of_getElem? (i := 188) rfl) rfl
theorem u_4_189 : (Jvm.Cond.selects "CountTrianglesModel" ({ cls := "CountTrianglesModel", name := "times", desc := "(IIII)J" } : Jvm.MethodName) ({ cls := "CountTrianglesModel", name := "times", desc := "(IIII)J" } : Jvm.MethodName)) ∈ UW := ut_4 (List.mem_of_getElem? (i := 189) rfl) rfl
theorem u_4_190 : (Jvm.Cond.code ({ cls := "CountTrianglesModel", name := "times", desc := "(IIII)J" } : Jvm.MethodName) prog_14_method_23_code (7 : Nat) (Option.some Jvm.ClassFile.FieldType.long)) ∈ UW := ut_4 (List.mem_of_getElem? (i := 190) rfl) rfl
theorem u_4_191 : (Jvm.Cond.methodLink "CountTrianglesModel" (150 : Nat) ({ cls := "CountTrianglesModel", name := "product", desc := "(II)J" } : Jvm.MethodName)) ∈ UW := ut_4 (List.mem_of_getElem? (i := 191) rfl) rfl
theorem u_4_193 : (Jvm.Cond.instanceMethod ({ cls := "CountTrianglesModel", name := "product", desc := "(II)J" } : Jvm.MethodName)) ∈ UW := ut_4 (List.mem_of_getElem? (i := 193) rfl) rfl
theorem u_4_194 : (Jvm.Cond.code ({ cls := "CountTrianglesModel", name := "product", desc := "(II)J" } : Jvm.MethodName) prog_14_method_22_code (8 : Nat) (Option.some Jvm.ClassFile.FieldType.long)) ∈ UW := ut_4 (List.mem_of_getElem? (i := 194) rfl) rfl
theorem u_4_195 : (Jvm.Cond.methodLink "CountTrianglesLaw" (61 : Nat) ({ cls := "CountTrianglesModel", name := "undoes", desc := "(III)I" } : Jvm.MethodName)) ∈ UW := ut_4 (List.mem_of_getElem? (i := 195) rfl) rfl
theorem u_4_196 : (Jvm.Cond.instanceMethod ({ cls := "CountTrianglesModel", name := "undoes", desc := "(III)I" } : Jvm.MethodName)) ∈ UW := ut_4 (List.mem_of_getElem? (i := 196) rfl) rfl
theorem u_4_197 : (Jvm.Cond.selects "CountTrianglesModel" ({ cls := "CountTrianglesModel", name := "undoes", desc := "(III)I" } : Jvm.MethodName) ({ cls := "CountTrianglesModel", name := "undoes", desc := "(III)I" } : Jvm.MethodName)) ∈ UW := ut_4 (List.mem_of_getElem? (i := 197) rfl) rfl
theorem u_4_198 : (Jvm.Cond.code ({ cls := "CountTrianglesModel", name := "undoes", desc := "(III)I" } : Jvm.MethodName) prog_14_method_24_code (8 : Nat) (Option.some Jvm.ClassFile.FieldType.int)) ∈ UW := ut_4 (List.mem_of_getElem? (i := 198) rfl) rfl
theorem u_4_199 : (Jvm.Cond.methodLink "CountTrianglesLaw" (65 : Nat) ({ cls := "CountTrianglesModel", name := "back", desc := "(III)J" } : Jvm.MethodName)) ∈ UW := ut_4 (List.mem_of_getElem? (i := 199) rfl) rfl
theorem u_4_200 : (Jvm.Cond.instanceMethod ({ cls := "CountTrianglesModel", name := "back", desc := "(III)J" } : Jvm.MethodName)) ∈ UW := ut_4 (List.mem_of_getElem? (i := 200) rfl) rfl
theorem u_4_201 : (Jvm.Cond.selects "CountTrianglesModel" ({ cls := "CountTrianglesModel", name := "back", desc := "(III)J" } : Jvm.MethodName) ({ cls := "CountTrianglesModel", name := "back", desc := "(III)J" } : Jvm.MethodName)) ∈ UW := ut_4 (List.mem_of_getElem? (i := 201) rfl) rfl
theorem u_4_202 : (Jvm.Cond.code ({ cls := "CountTrianglesModel", name := "back", desc := "(III)J" } : Jvm.MethodName) prog_14_method_25_code (9 : Nat) (Option.some Jvm.ClassFile.FieldType.long)) ∈ UW := ut_4 (List.mem_of_getElem? (i := 202) rfl) rfl
theorem u_4_203 : (Jvm.Cond.methodLink "CountTrianglesLaw" (69 : Nat) ({ cls := "CountTrianglesModel", name := "parting", desc := "(III)I" } : Jvm.MethodName)) ∈ UW := ut_4 (List.mem_of_getElem? (i := 203) rfl) rfl
theorem u_4_204 : (Jvm.Cond.instanceMethod ({ cls := "CountTrianglesModel", name := "parting", desc := "(III)I" } : Jvm.MethodName)) ∈ UW := ut_4 (List.mem_of_getElem? (i := 204) rfl) rfl
theorem u_4_205 : (Jvm.Cond.selects "CountTrianglesModel" ({ cls := "CountTrianglesModel", name := "parting", desc := "(III)I" } : Jvm.MethodName) ({ cls := "CountTrianglesModel", name := "parting", desc := "(III)I" } : Jvm.MethodName)) ∈ UW := ut_4 (List.mem_of_getElem? (i := 205) rfl) rfl
theorem u_4_206 : (Jvm.Cond.code ({ cls := "CountTrianglesModel", name := "parting", desc := "(III)I" } : Jvm.MethodName) prog_14_method_31_code (6 : Nat) (Option.some Jvm.ClassFile.FieldType.int)) ∈ UW := ut_4 (List.mem_of_getElem? (i := 206) rfl) rfl
theorem u_4_207 : (Jvm.Cond.methodLink "CountTrianglesModel" (158 : Nat) ({ cls := "CountTrianglesModel", name := "isSize", desc := "(I)Z" } : Jvm.MethodName)) ∈ UW := ut_4 (List.mem_of_getElem? (i := 207) rfl) rfl
theorem u_4_208 : (Jvm.Cond.static ({ cls := "CountTrianglesModel", name := "isSize", desc := "(I)Z" } : Jvm.MethodName)) ∈ UW := ut_4 (List.mem_of_getElem? (i := 208) rfl) rfl
theorem u_4_209 : (Jvm.Cond.code ({ cls := "CountTrianglesModel", name := "isSize", desc := "(I)Z" } : Jvm.MethodName) prog_14_method_26_code (1 : Nat) (Option.some Jvm.ClassFile.FieldType.boolean)) ∈ UW := ut_4 (List.mem_of_getElem? (i := 209) rfl) rfl
theorem u_4_210 : (Jvm.Cond.methodLink "CountTrianglesModel" (161 : Nat) ({ cls := "CountTrianglesModel", name := "partsOf", desc := "(I)I" } : Jvm.MethodName)) ∈ UW := ut_4 (List.mem_of_getElem? (i := 210) rfl) rfl
theorem u_4_212 : (Jvm.Cond.instanceMethod ({ cls := "CountTrianglesModel", name := "partsOf", desc := "(I)I" } : Jvm.MethodName)) ∈ UW := ut_4 (List.mem_of_getElem? (i := 212) rfl) rfl
theorem u_4_213 : (Jvm.Cond.code ({ cls := "CountTrianglesModel", name := "partsOf", desc := "(I)I" } : Jvm.MethodName) prog_14_method_29_code (5 : Nat) (Option.some Jvm.ClassFile.FieldType.int)) ∈ UW := ut_4 (List.mem_of_getElem? (i := 213) rfl) rfl
theorem u_4_214 : (Jvm.Cond.methodLink "CountTrianglesModel" (154 : Nat) ({ cls := "CountTrianglesModel", name := "packed", desc := "(I)I" } : Jvm.MethodName)) ∈ UW := ut_4 (List.mem_of_getElem? (i := 214) rfl) rfl
theorem u_4_216 : (Jvm.Cond.instanceMethod ({ cls := "CountTrianglesModel", name := "packed", desc := "(I)I" } : Jvm.MethodName)) ∈ UW := ut_4 (List.mem_of_getElem? (i := 216) rfl) rfl
theorem u_4_217 : (Jvm.Cond.code ({ cls := "CountTrianglesModel", name := "packed", desc := "(I)I" } : Jvm.MethodName) prog_14_method_27_code (4 : Nat) (Option.some Jvm.ClassFile.FieldType.int)) ∈ UW := ut_4 (List.mem_of_getElem? (i := 217) rfl) rfl
theorem u_4_218 : (Jvm.Cond.methodLink "CountTrianglesModel" (164 : Nat) ({ cls := "CountTrianglesModel", name := "turnParting", desc := "(I)Z" } : Jvm.MethodName)) ∈ UW := ut_4 (List.mem_of_getElem? (i := 218) rfl) rfl
theorem u_4_220 : (Jvm.Cond.instanceMethod ({ cls := "CountTrianglesModel", name := "turnParting", desc := "(I)Z" } : Jvm.MethodName)) ∈ UW := ut_4 (List.mem_of_getElem? (i := 220) rfl) rfl
theorem u_4_221 : (Jvm.Cond.code ({ cls := "CountTrianglesModel", name := "turnParting", desc := "(I)Z" } : Jvm.MethodName) prog_14_method_30_code (5 : Nat) (Option.some Jvm.ClassFile.FieldType.boolean)) ∈ UW := ut_4 (List.mem_of_getElem? (i := 221) rfl) rfl
theorem u_4_222 : (Jvm.Cond.methodLink "CountTrianglesLaw" (74 : Nat) ({ cls := "CountTrianglesModel", name := "partRank", desc := "(II)I" } : Jvm.MethodName)) ∈ UW := ut_4 (List.mem_of_getElem? (i := 222) rfl) rfl
theorem u_4_223 : (Jvm.Cond.instanceMethod ({ cls := "CountTrianglesModel", name := "partRank", desc := "(II)I" } : Jvm.MethodName)) ∈ UW := ut_4 (List.mem_of_getElem? (i := 223) rfl) rfl
theorem u_4_224 : (Jvm.Cond.selects "CountTrianglesModel" ({ cls := "CountTrianglesModel", name := "partRank", desc := "(II)I" } : Jvm.MethodName) ({ cls := "CountTrianglesModel", name := "partRank", desc := "(II)I" } : Jvm.MethodName)) ∈ UW := ut_4 (List.mem_of_getElem? (i := 224) rfl) rfl
theorem u_4_225 : (Jvm.Cond.code ({ cls := "CountTrianglesModel", name := "partRank", desc := "(II)I" } : Jvm.MethodName) prog_14_method_32_code (6 : Nat) (Option.some Jvm.ClassFile.FieldType.int)) ∈ UW := ut_4 (List.mem_of_getElem? (i := 225) rfl) rfl
theorem u_4_226 : (Jvm.Cond.methodLink "CountTrianglesModel" (167 : Nat) ({ cls := "CountTrianglesModel", name := "unpack", desc := "(II)Z" } : Jvm.MethodName)) ∈ UW := ut_4 (List.mem_of_getElem? (i := 226) rfl) rfl
theorem u_4_228 : (Jvm.Cond.instanceMethod ({ cls := "CountTrianglesModel", name := "unpack", desc := "(II)Z" } : Jvm.MethodName)) ∈ UW := ut_4 (List.mem_of_getElem? (i := 228) rfl) rfl
theorem u_4_229 : (Jvm.Cond.code ({ cls := "CountTrianglesModel", name := "unpack", desc := "(II)Z" } : Jvm.MethodName) prog_14_method_28_code (4 : Nat) (Option.some Jvm.ClassFile.FieldType.boolean)) ∈ UW := ut_4 (List.mem_of_getElem? (i := 229) rfl) rfl
theorem u_4_230 : (Jvm.Cond.methodLink "CountTrianglesLaw" (78 : Nat) ({ cls := "CountTrianglesModel", name := "orders", desc := "(IIII)I" } : Jvm.MethodName)) ∈ UW := ut_4 (List.mem_of_getElem? (i := 230) rfl) rfl
theorem u_4_231 : (Jvm.Cond.instanceMethod ({ cls := "CountTrianglesModel", name := "orders", desc := "(IIII)I" } : Jvm.MethodName)) ∈ UW := ut_4 (List.mem_of_getElem? (i := 231) rfl) rfl
theorem u_4_232 : (Jvm.Cond.selects "CountTrianglesModel" ({ cls := "CountTrianglesModel", name := "orders", desc := "(IIII)I" } : Jvm.MethodName) ({ cls := "CountTrianglesModel", name := "orders", desc := "(IIII)I" } : Jvm.MethodName)) ∈ UW := ut_4 (List.mem_of_getElem? (i := 232) rfl) rfl
theorem u_4_233 : (Jvm.Cond.code ({ cls := "CountTrianglesModel", name := "orders", desc := "(IIII)I" } : Jvm.MethodName) prog_14_method_39_code (7 : Nat) (Option.some Jvm.ClassFile.FieldType.int)) ∈ UW := ut_4 (List.mem_of_getElem? (i := 233) rfl) rfl
theorem u_4_234 : (Jvm.Cond.constantLong "CountTrianglesModel" (176 : Nat) (4 : Int64)) ∈ UW := ut_4 (List.mem_of_getElem? (i := 234) rfl) rfl
theorem u_4_235 : (Jvm.Cond.constantLong "CountTrianglesModel" (178 : Nat) (28 : Int64)) ∈ UW := ut_4 (List.mem_of_getElem? (i := 235) rfl) rfl
theorem u_4_236 : (Jvm.Cond.methodLink "CountTrianglesModel" (180 : Nat) ({ cls := "CountTrianglesModel", name := "beginOrder", desc := "(I)V" } : Jvm.MethodName)) ∈ UW := ut_4 (List.mem_of_getElem? (i := 236) rfl) rfl
theorem u_4_238 : (Jvm.Cond.instanceMethod ({ cls := "CountTrianglesModel", name := "beginOrder", desc := "(I)V" } : Jvm.MethodName)) ∈ UW := ut_4 (List.mem_of_getElem? (i := 238) rfl) rfl
theorem u_4_239 : (Jvm.Cond.code ({ cls := "CountTrianglesModel", name := "beginOrder", desc := "(I)V" } : Jvm.MethodName) prog_14_method_35_code (3 : Nat) (Option.none : Option Jvm.ClassFile.FieldType)) ∈ UW := ut_4 (List.mem_of_getElem? (i := 239) rfl) rfl
theorem u_5_0 : (Jvm.Cond.methodLink "CountTrianglesModel" (184 : Nat) ({ cls := "CountTrianglesModel", name := "markOf", desc := "(II)I" } : Jvm.MethodName)) ∈ UW := ut_5 (List.mem_of_getElem? (i := 0) rfl) rfl
theorem u_5_2 : (Jvm.Cond.instanceMethod ({ cls := "CountTrianglesModel", name := "markOf", desc := "(II)I" } : Jvm.MethodName)) ∈ UW := ut_5 (List.mem_of_getElem? (i := 2) rfl) rfl
theorem u_5_3 : (Jvm.Cond.code ({ cls := "CountTrianglesModel", name := "markOf", desc := "(II)I" } : Jvm.MethodName) prog_14_method_38_code (10 : Nat) (Option.some Jvm.ClassFile.FieldType.int)) ∈ UW := ut_5 (List.mem_of_getElem? (i := 3) rfl) rfl
theorem u_5_4 : (Jvm.Cond.methodLink "CountTrianglesModel" (173 : Nat) ({ cls := "CountTrianglesModel", name := "rings", desc := "(I)I" } : Jvm.MethodName)) ∈ UW := ut_5 (List.mem_of_getElem? (i := 4) rfl) rfl
theorem u_5_6 : (Jvm.Cond.instanceMethod ({ cls := "CountTrianglesModel", name := "rings", desc := "(I)I" } : Jvm.MethodName)) ∈ UW := ut_5 (List.mem_of_getElem? (i := 6) rfl) rfl
theorem u_5_7 : (Jvm.Cond.code ({ cls := "CountTrianglesModel", name := "rings", desc := "(I)I" } : Jvm.MethodName) prog_14_method_37_code (6 : Nat) (Option.some Jvm.ClassFile.FieldType.int)) ∈ UW := ut_5 (List.mem_of_getElem? (i := 7) rfl) rfl
theorem u_5_8 : (Jvm.Cond.methodLink "CountTrianglesModel" (188 : Nat) ({ cls := "CountTrianglesModel", name := "turnOrder", desc := "(I)Z" } : Jvm.MethodName)) ∈ UW := ut_5 (List.mem_of_getElem? (i := 8) rfl) rfl
theorem u_5_10 : (Jvm.Cond.instanceMethod ({ cls := "CountTrianglesModel", name := "turnOrder", desc := "(I)Z" } : Jvm.MethodName)) ∈ UW := ut_5 (List.mem_of_getElem? (i := 10) rfl) rfl
theorem u_5_11 : (Jvm.Cond.code ({ cls := "CountTrianglesModel", name := "turnOrder", desc := "(I)Z" } : Jvm.MethodName) prog_14_method_36_code (7 : Nat) (Option.some Jvm.ClassFile.FieldType.boolean)) ∈ UW := ut_5 (List.mem_of_getElem? (i := 11) rfl) rfl
theorem u_5_12 : (Jvm.Cond.methodLink "CountTrianglesLaw" (82 : Nat) ({ cls := "CountTrianglesModel", name := "mark", desc := "(III)I" } : Jvm.MethodName)) ∈ UW := ut_5 (List.mem_of_getElem? (i := 12) rfl) rfl
theorem u_5_13 : (Jvm.Cond.instanceMethod ({ cls := "CountTrianglesModel", name := "mark", desc := "(III)I" } : Jvm.MethodName)) ∈ UW := ut_5 (List.mem_of_getElem? (i := 13) rfl) rfl
theorem u_5_14 : (Jvm.Cond.selects "CountTrianglesModel" ({ cls := "CountTrianglesModel", name := "mark", desc := "(III)I" } : Jvm.MethodName) ({ cls := "CountTrianglesModel", name := "mark", desc := "(III)I" } : Jvm.MethodName)) ∈ UW := ut_5 (List.mem_of_getElem? (i := 14) rfl) rfl
theorem u_5_15 : (Jvm.Cond.code ({ cls := "CountTrianglesModel", name := "mark", desc := "(III)I" } : Jvm.MethodName) prog_14_method_40_code (4 : Nat) (Option.some Jvm.ClassFile.FieldType.int)) ∈ UW := ut_5 (List.mem_of_getElem? (i := 15) rfl) rfl
theorem u_5_16 : (Jvm.Cond.methodLink "CountTrianglesModel" (191 : Nat) ({ cls := "CountTrianglesModel", name := "takeOrder", desc := "(II)Z" } : Jvm.MethodName)) ∈ UW := ut_5 (List.mem_of_getElem? (i := 16) rfl) rfl
theorem u_5_18 : (Jvm.Cond.instanceMethod ({ cls := "CountTrianglesModel", name := "takeOrder", desc := "(II)Z" } : Jvm.MethodName)) ∈ UW := ut_5 (List.mem_of_getElem? (i := 18) rfl) rfl
theorem u_5_19 : (Jvm.Cond.code ({ cls := "CountTrianglesModel", name := "takeOrder", desc := "(II)Z" } : Jvm.MethodName) prog_14_method_34_code (3 : Nat) (Option.some Jvm.ClassFile.FieldType.boolean)) ∈ UW := ut_5 (List.mem_of_getElem? (i := 19) rfl) rfl
theorem u_5_20 : (Jvm.Cond.methodLink "CountTrianglesModel" (170 : Nat) ({ cls := "CountTrianglesModel", name := "isOrder", desc := "(I)Z" } : Jvm.MethodName)) ∈ UW := ut_5 (List.mem_of_getElem? (i := 20) rfl) rfl
theorem u_5_22 : (Jvm.Cond.instanceMethod ({ cls := "CountTrianglesModel", name := "isOrder", desc := "(I)Z" } : Jvm.MethodName)) ∈ UW := ut_5 (List.mem_of_getElem? (i := 22) rfl) rfl
theorem u_5_23 : (Jvm.Cond.code ({ cls := "CountTrianglesModel", name := "isOrder", desc := "(I)Z" } : Jvm.MethodName) prog_14_method_33_code (4 : Nat) (Option.some Jvm.ClassFile.FieldType.boolean)) ∈ UW := ut_5 (List.mem_of_getElem? (i := 23) rfl) rfl
theorem u_5_24 : (Jvm.Cond.methodLink "CountTrianglesLaw" (86 : Nat) ({ cls := "CountTrianglesModel", name := "rank", desc := "(II)I" } : Jvm.MethodName)) ∈ UW := ut_5 (List.mem_of_getElem? (i := 24) rfl) rfl
theorem u_5_25 : (Jvm.Cond.instanceMethod ({ cls := "CountTrianglesModel", name := "rank", desc := "(II)I" } : Jvm.MethodName)) ∈ UW := ut_5 (List.mem_of_getElem? (i := 25) rfl) rfl
theorem u_5_26 : (Jvm.Cond.selects "CountTrianglesModel" ({ cls := "CountTrianglesModel", name := "rank", desc := "(II)I" } : Jvm.MethodName) ({ cls := "CountTrianglesModel", name := "rank", desc := "(II)I" } : Jvm.MethodName)) ∈ UW := ut_5 (List.mem_of_getElem? (i := 26) rfl) rfl
theorem u_5_27 : (Jvm.Cond.code ({ cls := "CountTrianglesModel", name := "rank", desc := "(II)I" } : Jvm.MethodName) prog_14_method_41_code (7 : Nat) (Option.some Jvm.ClassFile.FieldType.int)) ∈ UW := ut_5 (List.mem_of_getElem? (i := 27) rfl) rfl
theorem u_5_28 : (Jvm.Cond.methodLink "CountTrianglesLaw" (90 : Nat) ({ cls := "CountTrianglesModel", name := "over", desc := "(II)I" } : Jvm.MethodName)) ∈ UW := ut_5 (List.mem_of_getElem? (i := 28) rfl) rfl
theorem u_5_29 : (Jvm.Cond.instanceMethod ({ cls := "CountTrianglesModel", name := "over", desc := "(II)I" } : Jvm.MethodName)) ∈ UW := ut_5 (List.mem_of_getElem? (i := 29) rfl) rfl
theorem u_5_30 : (Jvm.Cond.selects "CountTrianglesModel" ({ cls := "CountTrianglesModel", name := "over", desc := "(II)I" } : Jvm.MethodName) ({ cls := "CountTrianglesModel", name := "over", desc := "(II)I" } : Jvm.MethodName)) ∈ UW := ut_5 (List.mem_of_getElem? (i := 30) rfl) rfl
theorem u_5_31 : (Jvm.Cond.code ({ cls := "CountTrianglesModel", name := "over", desc := "(II)I" } : Jvm.MethodName) prog_14_method_42_code (4 : Nat) (Option.some Jvm.ClassFile.FieldType.int)) ∈ UW := ut_5 (List.mem_of_getElem? (i := 31) rfl) rfl
theorem u_5_32 : (Jvm.Cond.methodLink "CountTrianglesLaw" (94 : Nat) ({ cls := "CountTrianglesModel", name := "behind", desc := "(III)I" } : Jvm.MethodName)) ∈ UW := ut_5 (List.mem_of_getElem? (i := 32) rfl) rfl
theorem u_5_33 : (Jvm.Cond.instanceMethod ({ cls := "CountTrianglesModel", name := "behind", desc := "(III)I" } : Jvm.MethodName)) ∈ UW := ut_5 (List.mem_of_getElem? (i := 33) rfl) rfl
theorem u_5_34 : (Jvm.Cond.selects "CountTrianglesModel" ({ cls := "CountTrianglesModel", name := "behind", desc := "(III)I" } : Jvm.MethodName) ({ cls := "CountTrianglesModel", name := "behind", desc := "(III)I" } : Jvm.MethodName)) ∈ UW := ut_5 (List.mem_of_getElem? (i := 34) rfl) rfl
theorem u_5_35 : (Jvm.Cond.code ({ cls := "CountTrianglesModel", name := "behind", desc := "(III)I" } : Jvm.MethodName) prog_14_method_43_code (5 : Nat) (Option.some Jvm.ClassFile.FieldType.int)) ∈ UW := ut_5 (List.mem_of_getElem? (i := 35) rfl) rfl
theorem u_5_36 : (Jvm.Cond.methodLink "CountTrianglesLaw" (98 : Nat) ({ cls := "CountTrianglesModel", name := "base", desc := "(II)I" } : Jvm.MethodName)) ∈ UW := ut_5 (List.mem_of_getElem? (i := 36) rfl) rfl
theorem u_5_37 : (Jvm.Cond.instanceMethod ({ cls := "CountTrianglesModel", name := "base", desc := "(II)I" } : Jvm.MethodName)) ∈ UW := ut_5 (List.mem_of_getElem? (i := 37) rfl) rfl
theorem u_5_38 : (Jvm.Cond.selects "CountTrianglesModel" ({ cls := "CountTrianglesModel", name := "base", desc := "(II)I" } : Jvm.MethodName) ({ cls := "CountTrianglesModel", name := "base", desc := "(II)I" } : Jvm.MethodName)) ∈ UW := ut_5 (List.mem_of_getElem? (i := 38) rfl) rfl
theorem u_5_39 : (Jvm.Cond.code ({ cls := "CountTrianglesModel", name := "base", desc := "(II)I" } : Jvm.MethodName) prog_14_method_45_code (5 : Nat) (Option.some Jvm.ClassFile.FieldType.int)) ∈ UW := ut_5 (List.mem_of_getElem? (i := 39) rfl) rfl
theorem u_5_40 : (Jvm.Cond.methodLink "CountTrianglesModel" (194 : Nat) ({ cls := "CountTrianglesModel", name := "isPolynomial", desc := "(I)Z" } : Jvm.MethodName)) ∈ UW := ut_5 (List.mem_of_getElem? (i := 40) rfl) rfl
theorem u_5_41 : (Jvm.Cond.static ({ cls := "CountTrianglesModel", name := "isPolynomial", desc := "(I)Z" } : Jvm.MethodName)) ∈ UW := ut_5 (List.mem_of_getElem? (i := 41) rfl) rfl
theorem u_5_42 : (Jvm.Cond.code ({ cls := "CountTrianglesModel", name := "isPolynomial", desc := "(I)Z" } : Jvm.MethodName) prog_14_method_44_code (1 : Nat) (Option.some Jvm.ClassFile.FieldType.boolean)) ∈ UW := ut_5 (List.mem_of_getElem? (i := 42) rfl) rfl
theorem u_5_43 : (Jvm.Cond.methodLink "CountTrianglesLaw" (103 : Nat) ({ cls := "CountTrianglesModel", name := "set", desc := "(IIJ)J" } : Jvm.MethodName)) ∈ UW := ut_5 (List.mem_of_getElem? (i := 43) rfl) rfl
theorem u_5_44 : (Jvm.Cond.instanceMethod ({ cls := "CountTrianglesModel", name := "set", desc := "(IIJ)J" } : Jvm.MethodName)) ∈ UW := ut_5 (List.mem_of_getElem? (i := 44) rfl) rfl
theorem u_5_45 : (Jvm.Cond.selects "CountTrianglesModel" ({ cls := "CountTrianglesModel", name := "set", desc := "(IIJ)J" } : Jvm.MethodName) ({ cls := "CountTrianglesModel", name := "set", desc := "(IIJ)J" } : Jvm.MethodName)) ∈ UW := ut_5 (List.mem_of_getElem? (i := 45) rfl) rfl
theorem u_5_46 : (Jvm.Cond.code ({ cls := "CountTrianglesModel", name := "set", desc := "(IIJ)J" } : Jvm.MethodName) prog_14_method_46_code (7 : Nat) (Option.some Jvm.ClassFile.FieldType.long)) ∈ UW := ut_5 (List.mem_of_getElem? (i := 46) rfl) rfl
theorem u_5_47 : (Jvm.Cond.constantLong "CountTrianglesModel" (197 : Nat) (-1000000 : Int64)) ∈ UW := ut_5 (List.mem_of_getElem? (i := 47) rfl) rfl
theorem u_5_48 : (Jvm.Cond.constantLong "CountTrianglesModel" (199 : Nat) (1000000 : Int64)) ∈ UW := ut_5 (List.mem_of_getElem? (i := 48) rfl) rfl
theorem u_5_49 : (Jvm.Cond.methodLink "CountTrianglesLaw" (108 : Nat) ({ cls := "CountTrianglesModel", name := "coefficient", desc := "(II)J" } : Jvm.MethodName)) ∈ UW := ut_5 (List.mem_of_getElem? (i := 49) rfl) rfl
theorem u_5_50 : (Jvm.Cond.instanceMethod ({ cls := "CountTrianglesModel", name := "coefficient", desc := "(II)J" } : Jvm.MethodName)) ∈ UW := ut_5 (List.mem_of_getElem? (i := 50) rfl) rfl
theorem u_5_51 : (Jvm.Cond.selects "CountTrianglesModel" ({ cls := "CountTrianglesModel", name := "coefficient", desc := "(II)J" } : Jvm.MethodName) ({ cls := "CountTrianglesModel", name := "coefficient", desc := "(II)J" } : Jvm.MethodName)) ∈ UW := ut_5 (List.mem_of_getElem? (i := 51) rfl) rfl
theorem u_5_52 : (Jvm.Cond.code ({ cls := "CountTrianglesModel", name := "coefficient", desc := "(II)J" } : Jvm.MethodName) prog_14_method_47_code (3 : Nat) (Option.some Jvm.ClassFile.FieldType.long)) ∈ UW := ut_5 (List.mem_of_getElem? (i := 52) rfl) rfl
theorem u_5_53 : (Jvm.Cond.methodLink "CountTrianglesLaw" (112 : Nat) ({ cls := "CountTrianglesModel", name := "told", desc := "(II)I" } : Jvm.MethodName)) ∈ UW := ut_5 (List.mem_of_getElem? (i := 53) rfl) rfl
theorem u_5_54 : (Jvm.Cond.instanceMethod ({ cls := "CountTrianglesModel", name := "told", desc := "(II)I" } : Jvm.MethodName)) ∈ UW := ut_5 (List.mem_of_getElem? (i := 54) rfl) rfl
theorem u_5_55 : (Jvm.Cond.selects "CountTrianglesModel" ({ cls := "CountTrianglesModel", name := "told", desc := "(II)I" } : Jvm.MethodName) ({ cls := "CountTrianglesModel", name := "told", desc := "(II)I" } : Jvm.MethodName)) ∈ UW := ut_5 (List.mem_of_getElem? (i := 55) rfl) rfl
theorem u_5_56 : (Jvm.Cond.code ({ cls := "CountTrianglesModel", name := "told", desc := "(II)I" } : Jvm.MethodName) prog_14_method_49_code (3 : Nat) (Option.some Jvm.ClassFile.FieldType.int)) ∈ UW := ut_5 (List.mem_of_getElem? (i := 56) rfl) rfl
theorem u_5_57 : (Jvm.Cond.methodLink "CountTrianglesModel" (201 : Nat) ({ cls := "CountTrianglesModel", name := "degree", desc := "(I)I" } : Jvm.MethodName)) ∈ UW := ut_5 (List.mem_of_getElem? (i := 57) rfl) rfl
theorem u_5_59 : (Jvm.Cond.instanceMethod ({ cls := "CountTrianglesModel", name := "degree", desc := "(I)I" } : Jvm.MethodName)) ∈ UW := ut_5 (List.mem_of_getElem? (i := 59) rfl) rfl
theorem u_5_60 : (Jvm.Cond.code ({ cls := "CountTrianglesModel", name := "degree", desc := "(I)I" } : Jvm.MethodName) prog_14_method_48_code (4 : Nat) (Option.some Jvm.ClassFile.FieldType.int)) ∈ UW := ut_5 (List.mem_of_getElem? (i := 60) rfl) rfl
theorem u_5_61 : (Jvm.Cond.methodLink "CountTrianglesLaw" (116 : Nat) ({ cls := "CountTrianglesModel", name := "turn", desc := "(II)I" } : Jvm.MethodName)) ∈ UW := ut_5 (List.mem_of_getElem? (i := 61) rfl) rfl
theorem u_5_62 : (Jvm.Cond.instanceMethod ({ cls := "CountTrianglesModel", name := "turn", desc := "(II)I" } : Jvm.MethodName)) ∈ UW := ut_5 (List.mem_of_getElem? (i := 62) rfl) rfl
theorem u_5_63 : (Jvm.Cond.selects "CountTrianglesModel" ({ cls := "CountTrianglesModel", name := "turn", desc := "(II)I" } : Jvm.MethodName) ({ cls := "CountTrianglesModel", name := "turn", desc := "(II)I" } : Jvm.MethodName)) ∈ UW := ut_5 (List.mem_of_getElem? (i := 63) rfl) rfl
theorem u_5_64 : (Jvm.Cond.code ({ cls := "CountTrianglesModel", name := "turn", desc := "(II)I" } : Jvm.MethodName) prog_14_method_56_code (4 : Nat) (Option.some Jvm.ClassFile.FieldType.int)) ∈ UW := ut_5 (List.mem_of_getElem? (i := 64) rfl) rfl
theorem u_5_65 : (Jvm.Cond.methodLink "CountTrianglesModel" (224 : Nat) ({ cls := "CountTrianglesModel", name := "areMade", desc := "(II)Z" } : Jvm.MethodName)) ∈ UW := ut_5 (List.mem_of_getElem? (i := 65) rfl) rfl
theorem u_5_67 : (Jvm.Cond.instanceMethod ({ cls := "CountTrianglesModel", name := "areMade", desc := "(II)Z" } : Jvm.MethodName)) ∈ UW := ut_5 (List.mem_of_getElem? (i := 67) rfl) rfl
theorem u_5_68 : (Jvm.Cond.code ({ cls := "CountTrianglesModel", name := "areMade", desc := "(II)Z" } : Jvm.MethodName) prog_14_method_55_code (7 : Nat) (Option.some Jvm.ClassFile.FieldType.boolean)) ∈ UW := ut_5 (List.mem_of_getElem? (i := 68) rfl) rfl
theorem u_5_69 : (Jvm.Cond.methodLink "CountTrianglesModel" (217 : Nat) ({ cls := "CountTrianglesModel", name := "findFalling", desc := "(I)V" } : Jvm.MethodName)) ∈ UW := ut_5 (List.mem_of_getElem? (i := 69) rfl) rfl
theorem u_5_71 : (Jvm.Cond.instanceMethod ({ cls := "CountTrianglesModel", name := "findFalling", desc := "(I)V" } : Jvm.MethodName)) ∈ UW := ut_5 (List.mem_of_getElem? (i := 71) rfl) rfl
theorem u_5_72 : (Jvm.Cond.code ({ cls := "CountTrianglesModel", name := "findFalling", desc := "(I)V" } : Jvm.MethodName) prog_14_method_54_code (3 : Nat) (Option.none : Option Jvm.ClassFile.FieldType)) ∈ UW := ut_5 (List.mem_of_getElem? (i := 72) rfl) rfl
theorem u_5_73 : (Jvm.Cond.constantLong "CountTrianglesModel" (204 : Nat) (40320 : Int64)) ∈ UW := ut_5 (List.mem_of_getElem? (i := 73) rfl) rfl
theorem u_5_74 : (Jvm.Cond.methodLink "CountTrianglesModel" (206 : Nat) ({ cls := "CountTrianglesModel", name := "steps", desc := "(I)J" } : Jvm.MethodName)) ∈ UW := ut_5 (List.mem_of_getElem? (i := 74) rfl) rfl
theorem u_5_75 : (Jvm.Cond.static ({ cls := "CountTrianglesModel", name := "steps", desc := "(I)J" } : Jvm.MethodName)) ∈ UW := ut_5 (List.mem_of_getElem? (i := 75) rfl) rfl
theorem u_5_76 : (Jvm.Cond.code ({ cls := "CountTrianglesModel", name := "steps", desc := "(I)J" } : Jvm.MethodName) prog_14_method_50_code (4 : Nat) (Option.some Jvm.ClassFile.FieldType.long)) ∈ UW := ut_5 (List.mem_of_getElem? (i := 76) rfl) rfl
theorem u_5_77 : (Jvm.Cond.methodLink "CountTrianglesModel" (210 : Nat) ({ cls := "CountTrianglesModel", name := "clearMade", desc := "()V" } : Jvm.MethodName)) ∈ UW := ut_5 (List.mem_of_getElem? (i := 77) rfl) rfl
theorem u_5_79 : (Jvm.Cond.instanceMethod ({ cls := "CountTrianglesModel", name := "clearMade", desc := "()V" } : Jvm.MethodName)) ∈ UW := ut_5 (List.mem_of_getElem? (i := 79) rfl) rfl
theorem u_5_80 : (Jvm.Cond.code ({ cls := "CountTrianglesModel", name := "clearMade", desc := "()V" } : Jvm.MethodName) prog_14_method_53_code (2 : Nat) (Option.none : Option Jvm.ClassFile.FieldType)) ∈ UW := ut_5 (List.mem_of_getElem? (i := 80) rfl) rfl
theorem u_5_81 : (Jvm.Cond.methodLink "CountTrianglesModel" (213 : Nat) ({ cls := "CountTrianglesModel", name := "timesInFalling", desc := "(J)V" } : Jvm.MethodName)) ∈ UW := ut_5 (List.mem_of_getElem? (i := 81) rfl) rfl
theorem u_5_83 : (Jvm.Cond.instanceMethod ({ cls := "CountTrianglesModel", name := "timesInFalling", desc := "(J)V" } : Jvm.MethodName)) ∈ UW := ut_5 (List.mem_of_getElem? (i := 83) rfl) rfl
theorem u_5_84 : (Jvm.Cond.code ({ cls := "CountTrianglesModel", name := "timesInFalling", desc := "(J)V" } : Jvm.MethodName) prog_14_method_51_code (4 : Nat) (Option.none : Option Jvm.ClassFile.FieldType)) ∈ UW := ut_5 (List.mem_of_getElem? (i := 84) rfl) rfl
theorem u_5_85 : (Jvm.Cond.methodLink "CountTrianglesModel" (220 : Nat) ({ cls := "CountTrianglesModel", name := "timesIn", desc := "(IJ)V" } : Jvm.MethodName)) ∈ UW := ut_5 (List.mem_of_getElem? (i := 85) rfl) rfl
theorem u_5_87 : (Jvm.Cond.instanceMethod ({ cls := "CountTrianglesModel", name := "timesIn", desc := "(IJ)V" } : Jvm.MethodName)) ∈ UW := ut_5 (List.mem_of_getElem? (i := 87) rfl) rfl
theorem u_5_88 : (Jvm.Cond.code ({ cls := "CountTrianglesModel", name := "timesIn", desc := "(IJ)V" } : Jvm.MethodName) prog_14_method_52_code (7 : Nat) (Option.none : Option Jvm.ClassFile.FieldType)) ∈ UW := ut_5 (List.mem_of_getElem? (i := 88) rfl) rfl
theorem u_5_89 : (Jvm.Cond.methodLink "CountTrianglesLaw" (120 : Nat) ({ cls := "CountTrianglesModel", name := "value", desc := "(III)J" } : Jvm.MethodName)) ∈ UW := ut_5 (List.mem_of_getElem? (i := 89) rfl) rfl
theorem u_5_90 : (Jvm.Cond.instanceMethod ({ cls := "CountTrianglesModel", name := "value", desc := "(III)J" } : Jvm.MethodName)) ∈ UW := ut_5 (List.mem_of_getElem? (i := 90) rfl) rfl
theorem u_5_91 : (Jvm.Cond.selects "CountTrianglesModel" ({ cls := "CountTrianglesModel", name := "value", desc := "(III)J" } : Jvm.MethodName) ({ cls := "CountTrianglesModel", name := "value", desc := "(III)J" } : Jvm.MethodName)) ∈ UW := ut_5 (List.mem_of_getElem? (i := 91) rfl) rfl
theorem u_5_92 : (Jvm.Cond.code ({ cls := "CountTrianglesModel", name := "value", desc := "(III)J" } : Jvm.MethodName) prog_14_method_58_code (6 : Nat) (Option.some Jvm.ClassFile.FieldType.long)) ∈ UW := ut_5 (List.mem_of_getElem? (i := 92) rfl) rfl
theorem u_5_93 : (Jvm.Cond.constantLong "CountTrianglesModel" (227 : Nat) (-20 : Int64)) ∈ UW := ut_5 (List.mem_of_getElem? (i := 93) rfl) rfl
theorem u_5_94 : (Jvm.Cond.constantLong "CountTrianglesModel" (229 : Nat) (20 : Int64)) ∈ UW := ut_5 (List.mem_of_getElem? (i := 94) rfl) rfl
theorem u_5_95 : (Jvm.Cond.methodLink "CountTrianglesModel" (231 : Nat) ({ cls := "CountTrianglesModel", name := "valueAt", desc := "(IJ)J" } : Jvm.MethodName)) ∈ UW := ut_5 (List.mem_of_getElem? (i := 95) rfl) rfl
theorem u_5_97 : (Jvm.Cond.instanceMethod ({ cls := "CountTrianglesModel", name := "valueAt", desc := "(IJ)J" } : Jvm.MethodName)) ∈ UW := ut_5 (List.mem_of_getElem? (i := 97) rfl) rfl
theorem u_5_98 : (Jvm.Cond.code ({ cls := "CountTrianglesModel", name := "valueAt", desc := "(IJ)J" } : Jvm.MethodName) prog_14_method_57_code (9 : Nat) (Option.some Jvm.ClassFile.FieldType.long)) ∈ UW := ut_5 (List.mem_of_getElem? (i := 98) rfl) rfl
theorem u_5_99 : (Jvm.Cond.methodLink "CountTrianglesLaw" (124 : Nat) ({ cls := "CountTrianglesModel", name := "sumUp", desc := "(I)I" } : Jvm.MethodName)) ∈ UW := ut_5 (List.mem_of_getElem? (i := 99) rfl) rfl
theorem u_5_100 : (Jvm.Cond.instanceMethod ({ cls := "CountTrianglesModel", name := "sumUp", desc := "(I)I" } : Jvm.MethodName)) ∈ UW := ut_5 (List.mem_of_getElem? (i := 100) rfl) rfl
theorem u_5_101 : (Jvm.Cond.selects "CountTrianglesModel" ({ cls := "CountTrianglesModel", name := "sumUp", desc := "(I)I" } : Jvm.MethodName) ({ cls := "CountTrianglesModel", name := "sumUp", desc := "(I)I" } : Jvm.MethodName)) ∈ UW := ut_5 (List.mem_of_getElem? (i := 101) rfl) rfl
theorem u_5_102 : (Jvm.Cond.code ({ cls := "CountTrianglesModel", name := "sumUp", desc := "(I)I" } : Jvm.MethodName) prog_14_method_59_code (3 : Nat) (Option.some Jvm.ClassFile.FieldType.int)) ∈ UW := ut_5 (List.mem_of_getElem? (i := 102) rfl) rfl
theorem u_5_103 : (Jvm.Cond.methodLink "CountTrianglesLaw" (128 : Nat) ({ cls := "CountTrianglesModel", name := "root", desc := "(II)I" } : Jvm.MethodName)) ∈ UW := ut_5 (List.mem_of_getElem? (i := 103) rfl) rfl
theorem u_5_104 : (Jvm.Cond.instanceMethod ({ cls := "CountTrianglesModel", name := "root", desc := "(II)I" } : Jvm.MethodName)) ∈ UW := ut_5 (List.mem_of_getElem? (i := 104) rfl) rfl
theorem u_5_105 : (Jvm.Cond.selects "CountTrianglesModel" ({ cls := "CountTrianglesModel", name := "root", desc := "(II)I" } : Jvm.MethodName) ({ cls := "CountTrianglesModel", name := "root", desc := "(II)I" } : Jvm.MethodName)) ∈ UW := ut_5 (List.mem_of_getElem? (i := 105) rfl) rfl
theorem u_5_106 : (Jvm.Cond.code ({ cls := "CountTrianglesModel", name := "root", desc := "(II)I" } : Jvm.MethodName) prog_14_method_60_code (5 : Nat) (Option.some Jvm.ClassFile.FieldType.int)) ∈ UW := ut_5 (List.mem_of_getElem? (i := 106) rfl) rfl
theorem u_5_107 : (Jvm.Cond.methodLink "CountTrianglesLaw" (132 : Nat) ({ cls := "CountTrianglesModel", name := "count", desc := "(I)I" } : Jvm.MethodName)) ∈ UW := ut_5 (List.mem_of_getElem? (i := 107) rfl) rfl
theorem u_5_108 : (Jvm.Cond.instanceMethod ({ cls := "CountTrianglesModel", name := "count", desc := "(I)I" } : Jvm.MethodName)) ∈ UW := ut_5 (List.mem_of_getElem? (i := 108) rfl) rfl
theorem u_5_109 : (Jvm.Cond.selects "CountTrianglesModel" ({ cls := "CountTrianglesModel", name := "count", desc := "(I)I" } : Jvm.MethodName) ({ cls := "CountTrianglesModel", name := "count", desc := "(I)I" } : Jvm.MethodName)) ∈ UW := ut_5 (List.mem_of_getElem? (i := 109) rfl) rfl
theorem u_5_110 : (Jvm.Cond.code ({ cls := "CountTrianglesModel", name := "count", desc := "(I)I" } : Jvm.MethodName) prog_14_method_61_code (4 : Nat) (Option.some Jvm.ClassFile.FieldType.int)) ∈ UW := ut_5 (List.mem_of_getElem? (i := 110) rfl) rfl
theorem u_5_111 : (Jvm.Cond.constantLong "CountTrianglesLaw" (13 : Nat) (4294967295 : Int64)) ∈ UW := ut_5 (List.mem_of_getElem? (i := 111) rfl) rfl
theorem ut_p {w : Cond} (h : w ∈ k2_sels lw_privs) (g : goodWord w = true) : w ∈ UW := List.mem_filter.mpr ⟨List.mem_append_left _ h, g⟩
theorem u_p_0 : Cond.selects "CountTriangles$Falls" ⟨"CountTriangles$Falls", "waysByNext", "(III)I"⟩ ⟨"CountTriangles$Falls", "waysByNext", "(III)I"⟩ ∈ UW := ut_p (List.mem_of_getElem? (i := 0) rfl) rfl
theorem u_p_1 : Cond.selects "CountTriangles$LesserPairs" ⟨"CountTriangles$LesserPairs", "waysByNext", "(II)I"⟩ ⟨"CountTriangles$LesserPairs", "waysByNext", "(II)I"⟩ ∈ UW := ut_p (List.mem_of_getElem? (i := 1) rfl) rfl
theorem u_p_2 : Cond.selects "CountTriangles$Text" ⟨"CountTriangles$Text", "numberEnd", "(I)I"⟩ ⟨"CountTriangles$Text", "numberEnd", "(I)I"⟩ ∈ UW := ut_p (List.mem_of_getElem? (i := 2) rfl) rfl
theorem u_p_3 : Cond.selects "CountTriangles$Law" ⟨"CountTriangles$Law", "takeItem", "(LCountTriangles$Text;I)V"⟩ ⟨"CountTriangles$Law", "takeItem", "(LCountTriangles$Text;I)V"⟩ ∈ UW := ut_p (List.mem_of_getElem? (i := 3) rfl) rfl
theorem u_p_4 : Cond.selects "CountTriangles$Law" ⟨"CountTriangles$Law", "fillNumbers", "()V"⟩ ⟨"CountTriangles$Law", "fillNumbers", "()V"⟩ ∈ UW := ut_p (List.mem_of_getElem? (i := 4) rfl) rfl
theorem u_p_5 : Cond.selects "CountTriangles$Law" ⟨"CountTriangles$Law", "madeOfAbove", "(II)J"⟩ ⟨"CountTriangles$Law", "madeOfAbove", "(II)J"⟩ ∈ UW := ut_p (List.mem_of_getElem? (i := 5) rfl) rfl
theorem u_p_6 : Cond.selects "CountTriangles$Law" ⟨"CountTriangles$Law", "endsInOnes", "(I)Z"⟩ ⟨"CountTriangles$Law", "endsInOnes", "(I)Z"⟩ ∈ UW := ut_p (List.mem_of_getElem? (i := 6) rfl) rfl
theorem u_p_7 : Cond.selects "CountTriangles$Law" ⟨"CountTriangles$Law", "columnSum", "(II)J"⟩ ⟨"CountTriangles$Law", "columnSum", "(II)J"⟩ ∈ UW := ut_p (List.mem_of_getElem? (i := 7) rfl) rfl
theorem u_p_8 : Cond.selects "CountTriangles$Partings" ⟨"CountTriangles$Partings", "waysFrom", "(II)I"⟩ ⟨"CountTriangles$Partings", "waysFrom", "(II)I"⟩ ∈ UW := ut_p (List.mem_of_getElem? (i := 8) rfl) rfl
theorem u_p_9 : Cond.selects "CountTriangles$LongestRise" ⟨"CountTriangles$LongestRise", "fillTable", "()V"⟩ ⟨"CountTriangles$LongestRise", "fillTable", "()V"⟩ ∈ UW := ut_p (List.mem_of_getElem? (i := 9) rfl) rfl
theorem u_p_10 : Cond.selects "CountTriangles$LongestRise" ⟨"CountTriangles$LongestRise", "waysByNext", "(II)I"⟩ ⟨"CountTriangles$LongestRise", "waysByNext", "(II)I"⟩ ∈ UW := ut_p (List.mem_of_getElem? (i := 10) rfl) rfl
theorem u_p_11 : Cond.selects "CountTriangles$Orders" ⟨"CountTriangles$Orders", "packed", "(I)I"⟩ ⟨"CountTriangles$Orders", "packed", "(I)I"⟩ ∈ UW := ut_p (List.mem_of_getElem? (i := 11) rfl) rfl
theorem u_p_12 : Cond.selects "CountTriangles" ⟨"CountTriangles", "isOrder", "(II)Z"⟩ ⟨"CountTriangles", "isOrder", "(II)Z"⟩ ∈ UW := ut_p (List.mem_of_getElem? (i := 12) rfl) rfl
theorem u_p_13 : Cond.selects "CountTriangles$Orders" ⟨"CountTriangles$Orders", "lesserLater", "(II)I"⟩ ⟨"CountTriangles$Orders", "lesserLater", "(II)I"⟩ ∈ UW := ut_p (List.mem_of_getElem? (i := 13) rfl) rfl
theorem u_p_14 : Cond.selects "CountTriangles$Polynomial" ⟨"CountTriangles$Polynomial", "findTurned", "(I)Z"⟩ ⟨"CountTriangles$Polynomial", "findTurned", "(I)Z"⟩ ∈ UW := ut_p (List.mem_of_getElem? (i := 14) rfl) rfl
theorem u_p_15 : Cond.selects "CountTriangles$Polynomial" ⟨"CountTriangles$Polynomial", "choicesAreWholeFalling", "()Z"⟩ ⟨"CountTriangles$Polynomial", "choicesAreWholeFalling", "()Z"⟩ ∈ UW := ut_p (List.mem_of_getElem? (i := 15) rfl) rfl
theorem u_p_16 : Cond.selects "CountTriangles$Polynomial" ⟨"CountTriangles$Polynomial", "multiplyRoom", "(II)V"⟩ ⟨"CountTriangles$Polynomial", "multiplyRoom", "(II)V"⟩ ∈ UW := ut_p (List.mem_of_getElem? (i := 16) rfl) rfl
theorem u_p_17 : Cond.selects "CountTriangles$Polynomial" ⟨"CountTriangles$Polynomial", "roomMayStand", "(I)Z"⟩ ⟨"CountTriangles$Polynomial", "roomMayStand", "(I)Z"⟩ ∈ UW := ut_p (List.mem_of_getElem? (i := 17) rfl) rfl
theorem u_p_18 : Cond.selects "CountTriangles" ⟨"CountTriangles", "itemsOfLaws", "()I"⟩ ⟨"CountTriangles", "itemsOfLaws", "()I"⟩ ∈ UW := ut_p (List.mem_of_getElem? (i := 18) rfl) rfl
theorem u_p_19 : Cond.selects "CountTriangles" ⟨"CountTriangles", "coefficientsInUse", "()I"⟩ ⟨"CountTriangles", "coefficientsInUse", "()I"⟩ ∈ UW := ut_p (List.mem_of_getElem? (i := 19) rfl) rfl
theorem u_p_20 : Cond.selects "CountTrianglesModel" ⟨"CountTrianglesModel", "isRead", "()Z"⟩ ⟨"CountTrianglesModel", "isRead", "()Z"⟩ ∈ UW := ut_p (List.mem_of_getElem? (i := 20) rfl) rfl
theorem u_p_21 : Cond.selects "CountTrianglesModel" ⟨"CountTrianglesModel", "isItem", "()Z"⟩ ⟨"CountTrianglesModel", "isItem", "()Z"⟩ ∈ UW := ut_p (List.mem_of_getElem? (i := 21) rfl) rfl
theorem u_p_22 : Cond.selects "CountTrianglesModel" ⟨"CountTrianglesModel", "byteNow", "()I"⟩ ⟨"CountTrianglesModel", "byteNow", "()I"⟩ ∈ UW := ut_p (List.mem_of_getElem? (i := 22) rfl) rfl
theorem u_p_23 : Cond.selects "CountTrianglesModel" ⟨"CountTrianglesModel", "isNumber", "(II)Z"⟩ ⟨"CountTrianglesModel", "isNumber", "(II)Z"⟩ ∈ UW := ut_p (List.mem_of_getElem? (i := 23) rfl) rfl
theorem u_p_24 : Cond.selects "CountTrianglesModel" ⟨"CountTrianglesModel", "findRows", "(III)V"⟩ ⟨"CountTrianglesModel", "findRows", "(III)V"⟩ ∈ UW := ut_p (List.mem_of_getElem? (i := 24) rfl) rfl
theorem u_p_25 : Cond.selects "CountTrianglesModel" ⟨"CountTrianglesModel", "comes", "(IIII)I"⟩ ⟨"CountTrianglesModel", "comes", "(IIII)I"⟩ ∈ UW := ut_p (List.mem_of_getElem? (i := 25) rfl) rfl
theorem u_p_26 : Cond.selects "CountTrianglesModel" ⟨"CountTrianglesModel", "product", "(II)J"⟩ ⟨"CountTrianglesModel", "product", "(II)J"⟩ ∈ UW := ut_p (List.mem_of_getElem? (i := 26) rfl) rfl
theorem u_p_27 : Cond.selects "CountTrianglesModel" ⟨"CountTrianglesModel", "partsOf", "(I)I"⟩ ⟨"CountTrianglesModel", "partsOf", "(I)I"⟩ ∈ UW := ut_p (List.mem_of_getElem? (i := 27) rfl) rfl
theorem u_p_28 : Cond.selects "CountTrianglesModel" ⟨"CountTrianglesModel", "packed", "(I)I"⟩ ⟨"CountTrianglesModel", "packed", "(I)I"⟩ ∈ UW := ut_p (List.mem_of_getElem? (i := 28) rfl) rfl
theorem u_p_29 : Cond.selects "CountTrianglesModel" ⟨"CountTrianglesModel", "turnParting", "(I)Z"⟩ ⟨"CountTrianglesModel", "turnParting", "(I)Z"⟩ ∈ UW := ut_p (List.mem_of_getElem? (i := 29) rfl) rfl
theorem u_p_30 : Cond.selects "CountTrianglesModel" ⟨"CountTrianglesModel", "unpack", "(II)Z"⟩ ⟨"CountTrianglesModel", "unpack", "(II)Z"⟩ ∈ UW := ut_p (List.mem_of_getElem? (i := 30) rfl) rfl
theorem u_p_31 : Cond.selects "CountTrianglesModel" ⟨"CountTrianglesModel", "beginOrder", "(I)V"⟩ ⟨"CountTrianglesModel", "beginOrder", "(I)V"⟩ ∈ UW := ut_p (List.mem_of_getElem? (i := 31) rfl) rfl
theorem u_p_32 : Cond.selects "CountTrianglesModel" ⟨"CountTrianglesModel", "markOf", "(II)I"⟩ ⟨"CountTrianglesModel", "markOf", "(II)I"⟩ ∈ UW := ut_p (List.mem_of_getElem? (i := 32) rfl) rfl
theorem u_p_33 : Cond.selects "CountTrianglesModel" ⟨"CountTrianglesModel", "rings", "(I)I"⟩ ⟨"CountTrianglesModel", "rings", "(I)I"⟩ ∈ UW := ut_p (List.mem_of_getElem? (i := 33) rfl) rfl
theorem u_p_34 : Cond.selects "CountTrianglesModel" ⟨"CountTrianglesModel", "turnOrder", "(I)Z"⟩ ⟨"CountTrianglesModel", "turnOrder", "(I)Z"⟩ ∈ UW := ut_p (List.mem_of_getElem? (i := 34) rfl) rfl
theorem u_p_35 : Cond.selects "CountTrianglesModel" ⟨"CountTrianglesModel", "takeOrder", "(II)Z"⟩ ⟨"CountTrianglesModel", "takeOrder", "(II)Z"⟩ ∈ UW := ut_p (List.mem_of_getElem? (i := 35) rfl) rfl
theorem u_p_36 : Cond.selects "CountTrianglesModel" ⟨"CountTrianglesModel", "isOrder", "(I)Z"⟩ ⟨"CountTrianglesModel", "isOrder", "(I)Z"⟩ ∈ UW := ut_p (List.mem_of_getElem? (i := 36) rfl) rfl
theorem u_p_37 : Cond.selects "CountTrianglesModel" ⟨"CountTrianglesModel", "degree", "(I)I"⟩ ⟨"CountTrianglesModel", "degree", "(I)I"⟩ ∈ UW := ut_p (List.mem_of_getElem? (i := 37) rfl) rfl
theorem u_p_38 : Cond.selects "CountTrianglesModel" ⟨"CountTrianglesModel", "areMade", "(II)Z"⟩ ⟨"CountTrianglesModel", "areMade", "(II)Z"⟩ ∈ UW := ut_p (List.mem_of_getElem? (i := 38) rfl) rfl
theorem u_p_39 : Cond.selects "CountTrianglesModel" ⟨"CountTrianglesModel", "findFalling", "(I)V"⟩ ⟨"CountTrianglesModel", "findFalling", "(I)V"⟩ ∈ UW := ut_p (List.mem_of_getElem? (i := 39) rfl) rfl
theorem u_p_40 : Cond.selects "CountTrianglesModel" ⟨"CountTrianglesModel", "clearMade", "()V"⟩ ⟨"CountTrianglesModel", "clearMade", "()V"⟩ ∈ UW := ut_p (List.mem_of_getElem? (i := 40) rfl) rfl
theorem u_p_41 : Cond.selects "CountTrianglesModel" ⟨"CountTrianglesModel", "timesInFalling", "(J)V"⟩ ⟨"CountTrianglesModel", "timesInFalling", "(J)V"⟩ ∈ UW := ut_p (List.mem_of_getElem? (i := 41) rfl) rfl
theorem u_p_42 : Cond.selects "CountTrianglesModel" ⟨"CountTrianglesModel", "timesIn", "(IJ)V"⟩ ⟨"CountTrianglesModel", "timesIn", "(IJ)V"⟩ ∈ UW := ut_p (List.mem_of_getElem? (i := 42) rfl) rfl
theorem u_p_43 : Cond.selects "CountTrianglesModel" ⟨"CountTrianglesModel", "valueAt", "(IJ)J"⟩ ⟨"CountTrianglesModel", "valueAt", "(IJ)J"⟩ ∈ UW := ut_p (List.mem_of_getElem? (i := 43) rfl) rfl
