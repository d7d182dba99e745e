section
-- ===== PART A: goes FIRST, ahead of the names: the tables' words, and 'selects' of the private methods out of them =====
/-- a private method of a class that the tables say can be made, by its rows of tables_1 -/
def lw_okq (q : MethodName × Nat) : Prop := (q.1.cls ≠ "java/lang/invoke/MethodHandle" ∧ q.1.cls ≠ "java/lang/invoke/VarHandle") ∧ Cond.instantiable q.1.cls q.2 ∈ tables_1 ∧ Cond.privateMethod q.1 ∈ tables_1 ∧ Cond.instanceMethod q.1 ∈ tables_1
theorem lw_p0 : lw_okq (⟨"CountTriangles$Falls", "waysByNext", "(III)I"⟩, 1) := ⟨⟨by decide +kernel, by decide +kernel⟩, List.mem_of_getElem? (i := 82) (by decide +kernel), List.mem_of_getElem? (i := 88) (by decide +kernel), List.mem_of_getElem? (i := 89) (by decide +kernel)⟩
theorem lw_p1 : lw_okq (⟨"CountTriangles$LesserPairs", "waysByNext", "(II)I"⟩, 1) := ⟨⟨by decide +kernel, by decide +kernel⟩, List.mem_of_getElem? (i := 101) (by decide +kernel), List.mem_of_getElem? (i := 107) (by decide +kernel), List.mem_of_getElem? (i := 108) (by decide +kernel)⟩
theorem lw_p2 : lw_okq (⟨"CountTriangles$Text", "numberEnd", "(I)I"⟩, 2) := ⟨⟨by decide +kernel, by decide +kernel⟩, List.mem_of_getElem? (i := 27) (by decide +kernel), List.mem_of_getElem? (i := 254) (by decide +kernel), List.mem_of_getElem? (i := 255) (by decide +kernel)⟩
theorem lw_p3 : lw_okq (⟨"CountTriangles$Law", "takeItem", "(LCountTriangles$Text;I)V"⟩, 7) := ⟨⟨by decide +kernel, by decide +kernel⟩, List.mem_of_getElem? (i := 154) (by decide +kernel), List.mem_of_getElem? (i := 274) (by decide +kernel), List.mem_of_getElem? (i := 275) (by decide +kernel)⟩
theorem lw_p4 : lw_okq (⟨"CountTriangles$Law", "fillNumbers", "()V"⟩, 7) := ⟨⟨by decide +kernel, by decide +kernel⟩, List.mem_of_getElem? (i := 154) (by decide +kernel), List.mem_of_getElem? (i := 287) (by decide +kernel), List.mem_of_getElem? (i := 288) (by decide +kernel)⟩
theorem lw_p5 : lw_okq (⟨"CountTriangles$Law", "madeOfAbove", "(II)J"⟩, 7) := ⟨⟨by decide +kernel, by decide +kernel⟩, List.mem_of_getElem? (i := 154) (by decide +kernel), List.mem_of_getElem? (i := 291) (by decide +kernel), List.mem_of_getElem? (i := 292) (by decide +kernel)⟩
theorem lw_p6 : lw_okq (⟨"CountTriangles$Law", "endsInOnes", "(I)Z"⟩, 7) := ⟨⟨by decide +kernel, by decide +kernel⟩, List.mem_of_getElem? (i := 154) (by decide +kernel), List.mem_of_getElem? (i := 417) (by decide +kernel), List.mem_of_getElem? (i := 418) (by decide +kernel)⟩
theorem lw_p7 : lw_okq (⟨"CountTriangles$Law", "columnSum", "(II)J"⟩, 7) := ⟨⟨by decide +kernel, by decide +kernel⟩, List.mem_of_getElem? (i := 154) (by decide +kernel), List.mem_of_getElem? (i := 422) (by decide +kernel), List.mem_of_getElem? (i := 423) (by decide +kernel)⟩
theorem lw_p8 : lw_okq (⟨"CountTriangles$Partings", "waysFrom", "(II)I"⟩, 1) := ⟨⟨by decide +kernel, by decide +kernel⟩, List.mem_of_getElem? (i := 43) (by decide +kernel), List.mem_of_getElem? (i := 434) (by decide +kernel), List.mem_of_getElem? (i := 435) (by decide +kernel)⟩
theorem lw_p9 : lw_okq (⟨"CountTriangles$LongestRise", "fillTable", "()V"⟩, 2) := ⟨⟨by decide +kernel, by decide +kernel⟩, List.mem_of_getElem? (i := 130) (by decide +kernel), List.mem_of_getElem? (i := 517) (by decide +kernel), List.mem_of_getElem? (i := 518) (by decide +kernel)⟩
theorem lw_p10 : lw_okq (⟨"CountTriangles$LongestRise", "waysByNext", "(II)I"⟩, 2) := ⟨⟨by decide +kernel, by decide +kernel⟩, List.mem_of_getElem? (i := 130) (by decide +kernel), List.mem_of_getElem? (i := 521) (by decide +kernel), List.mem_of_getElem? (i := 522) (by decide +kernel)⟩
theorem lw_p11 : lw_okq (⟨"CountTriangles$Orders", "packed", "(I)I"⟩, 3) := ⟨⟨by decide +kernel, by decide +kernel⟩, List.mem_of_getElem? (i := 54) (by decide +kernel), List.mem_of_getElem? (i := 576) (by decide +kernel), List.mem_of_getElem? (i := 577) (by decide +kernel)⟩
theorem lw_p12 : lw_okq (⟨"CountTriangles", "isOrder", "(II)Z"⟩, 5) := ⟨⟨by decide +kernel, by decide +kernel⟩, List.mem_of_getElem? (i := 19) (by decide +kernel), List.mem_of_getElem? (i := 584) (by decide +kernel), List.mem_of_getElem? (i := 585) (by decide +kernel)⟩
theorem lw_p13 : lw_okq (⟨"CountTriangles$Orders", "lesserLater", "(II)I"⟩, 3) := ⟨⟨by decide +kernel, by decide +kernel⟩, List.mem_of_getElem? (i := 54) (by decide +kernel), List.mem_of_getElem? (i := 601) (by decide +kernel), List.mem_of_getElem? (i := 602) (by decide +kernel)⟩
theorem lw_p14 : lw_okq (⟨"CountTriangles$Polynomial", "findTurned", "(I)Z"⟩, 3) := ⟨⟨by decide +kernel, by decide +kernel⟩, List.mem_of_getElem? (i := 182) (by decide +kernel), List.mem_of_getElem? (i := 683) (by decide +kernel), List.mem_of_getElem? (i := 684) (by decide +kernel)⟩
theorem lw_p15 : lw_okq (⟨"CountTriangles$Polynomial", "choicesAreWholeFalling", "()Z"⟩, 3) := ⟨⟨by decide +kernel, by decide +kernel⟩, List.mem_of_getElem? (i := 182) (by decide +kernel), List.mem_of_getElem? (i := 690) (by decide +kernel), List.mem_of_getElem? (i := 691) (by decide +kernel)⟩
def lw_privs_1 : List (MethodName × Nat) := [(⟨"CountTriangles$Falls", "waysByNext", "(III)I"⟩, 1), (⟨"CountTriangles$LesserPairs", "waysByNext", "(II)I"⟩, 1), (⟨"CountTriangles$Text", "numberEnd", "(I)I"⟩, 2), (⟨"CountTriangles$Law", "takeItem", "(LCountTriangles$Text;I)V"⟩, 7), (⟨"CountTriangles$Law", "fillNumbers", "()V"⟩, 7), (⟨"CountTriangles$Law", "madeOfAbove", "(II)J"⟩, 7), (⟨"CountTriangles$Law", "endsInOnes", "(I)Z"⟩, 7), (⟨"CountTriangles$Law", "columnSum", "(II)J"⟩, 7), (⟨"CountTriangles$Partings", "waysFrom", "(II)I"⟩, 1), (⟨"CountTriangles$LongestRise", "fillTable", "()V"⟩, 2), (⟨"CountTriangles$LongestRise", "waysByNext", "(II)I"⟩, 2), (⟨"CountTriangles$Orders", "packed", "(I)I"⟩, 3), (⟨"CountTriangles", "isOrder", "(II)Z"⟩, 5), (⟨"CountTriangles$Orders", "lesserLater", "(II)I"⟩, 3), (⟨"CountTriangles$Polynomial", "findTurned", "(I)Z"⟩, 3), (⟨"CountTriangles$Polynomial", "choicesAreWholeFalling", "()Z"⟩, 3)]
theorem lw_r1 : ∀ q ∈ lw_privs_1, lw_okq q := List.forall_mem_cons.mpr ⟨lw_p0, List.forall_mem_cons.mpr ⟨lw_p1, List.forall_mem_cons.mpr ⟨lw_p2, List.forall_mem_cons.mpr ⟨lw_p3, List.forall_mem_cons.mpr ⟨lw_p4, List.forall_mem_cons.mpr ⟨lw_p5, List.forall_mem_cons.mpr ⟨lw_p6, List.forall_mem_cons.mpr ⟨lw_p7, List.forall_mem_cons.mpr ⟨lw_p8, List.forall_mem_cons.mpr ⟨lw_p9, List.forall_mem_cons.mpr ⟨lw_p10, List.forall_mem_cons.mpr ⟨lw_p11, List.forall_mem_cons.mpr ⟨lw_p12, List.forall_mem_cons.mpr ⟨lw_p13, List.forall_mem_cons.mpr ⟨lw_p14, List.forall_mem_cons.mpr ⟨lw_p15, fun _ h => absurd h List.not_mem_nil⟩⟩⟩⟩⟩⟩⟩⟩⟩⟩⟩⟩⟩⟩⟩⟩
theorem lw_p16 : lw_okq (⟨"CountTriangles$Polynomial", "multiplyRoom", "(II)V"⟩, 3) := ⟨⟨by decide +kernel, by decide +kernel⟩, List.mem_of_getElem? (i := 182) (by decide +kernel), List.mem_of_getElem? (i := 698) (by decide +kernel), List.mem_of_getElem? (i := 699) (by decide +kernel)⟩
theorem lw_p17 : lw_okq (⟨"CountTriangles$Polynomial", "roomMayStand", "(I)Z"⟩, 3) := ⟨⟨by decide +kernel, by decide +kernel⟩, List.mem_of_getElem? (i := 182) (by decide +kernel), List.mem_of_getElem? (i := 702) (by decide +kernel), List.mem_of_getElem? (i := 703) (by decide +kernel)⟩
theorem lw_p18 : lw_okq (⟨"CountTriangles", "itemsOfLaws", "()I"⟩, 5) := ⟨⟨by decide +kernel, by decide +kernel⟩, List.mem_of_getElem? (i := 19) (by decide +kernel), List.mem_of_getElem? (i := 738) (by decide +kernel), List.mem_of_getElem? (i := 739) (by decide +kernel)⟩
theorem lw_p19 : lw_okq (⟨"CountTriangles", "coefficientsInUse", "()I"⟩, 5) := ⟨⟨by decide +kernel, by decide +kernel⟩, List.mem_of_getElem? (i := 19) (by decide +kernel), List.mem_of_getElem? (i := 742) (by decide +kernel), List.mem_of_getElem? (i := 743) (by decide +kernel)⟩
theorem lw_p20 : lw_okq (⟨"CountTrianglesModel", "isRead", "()Z"⟩, 21) := ⟨⟨by decide +kernel, by decide +kernel⟩, List.mem_of_getElem? (i := 750) (by decide +kernel), List.mem_of_getElem? (i := 838) (by decide +kernel), List.mem_of_getElem? (i := 839) (by decide +kernel)⟩
theorem lw_p21 : lw_okq (⟨"CountTrianglesModel", "isItem", "()Z"⟩, 21) := ⟨⟨by decide +kernel, by decide +kernel⟩, List.mem_of_getElem? (i := 750) (by decide +kernel), List.mem_of_getElem? (i := 842) (by decide +kernel), List.mem_of_getElem? (i := 843) (by decide +kernel)⟩
theorem lw_p22 : lw_okq (⟨"CountTrianglesModel", "byteNow", "()I"⟩, 21) := ⟨⟨by decide +kernel, by decide +kernel⟩, List.mem_of_getElem? (i := 750) (by decide +kernel), List.mem_of_getElem? (i := 846) (by decide +kernel), List.mem_of_getElem? (i := 847) (by decide +kernel)⟩
theorem lw_p23 : lw_okq (⟨"CountTrianglesModel", "isNumber", "(II)Z"⟩, 21) := ⟨⟨by decide +kernel, by decide +kernel⟩, List.mem_of_getElem? (i := 750) (by decide +kernel), List.mem_of_getElem? (i := 850) (by decide +kernel), List.mem_of_getElem? (i := 851) (by decide +kernel)⟩
theorem lw_p24 : lw_okq (⟨"CountTrianglesModel", "findRows", "(III)V"⟩, 21) := ⟨⟨by decide +kernel, by decide +kernel⟩, List.mem_of_getElem? (i := 750) (by decide +kernel), List.mem_of_getElem? (i := 869) (by decide +kernel), List.mem_of_getElem? (i := 870) (by decide +kernel)⟩
theorem lw_p25 : lw_okq (⟨"CountTrianglesModel", "comes", "(IIII)I"⟩, 21) := ⟨⟨by decide +kernel, by decide +kernel⟩, List.mem_of_getElem? (i := 750) (by decide +kernel), List.mem_of_getElem? (i := 876) (by decide +kernel), List.mem_of_getElem? (i := 877) (by decide +kernel)⟩
theorem lw_p26 : lw_okq (⟨"CountTrianglesModel", "product", "(II)J"⟩, 21) := ⟨⟨by decide +kernel, by decide +kernel⟩, List.mem_of_getElem? (i := 750) (by decide +kernel), List.mem_of_getElem? (i := 912) (by decide +kernel), List.mem_of_getElem? (i := 913) (by decide +kernel)⟩
theorem lw_p27 : lw_okq (⟨"CountTrianglesModel", "partsOf", "(I)I"⟩, 21) := ⟨⟨by decide +kernel, by decide +kernel⟩, List.mem_of_getElem? (i := 750) (by decide +kernel), List.mem_of_getElem? (i := 931) (by decide +kernel), List.mem_of_getElem? (i := 932) (by decide +kernel)⟩
theorem lw_p28 : lw_okq (⟨"CountTrianglesModel", "packed", "(I)I"⟩, 21) := ⟨⟨by decide +kernel, by decide +kernel⟩, List.mem_of_getElem? (i := 750) (by decide +kernel), List.mem_of_getElem? (i := 935) (by decide +kernel), List.mem_of_getElem? (i := 936) (by decide +kernel)⟩
theorem lw_p29 : lw_okq (⟨"CountTrianglesModel", "turnParting", "(I)Z"⟩, 21) := ⟨⟨by decide +kernel, by decide +kernel⟩, List.mem_of_getElem? (i := 750) (by decide +kernel), List.mem_of_getElem? (i := 939) (by decide +kernel), List.mem_of_getElem? (i := 940) (by decide +kernel)⟩
theorem lw_p30 : lw_okq (⟨"CountTrianglesModel", "unpack", "(II)Z"⟩, 21) := ⟨⟨by decide +kernel, by decide +kernel⟩, List.mem_of_getElem? (i := 750) (by decide +kernel), List.mem_of_getElem? (i := 947) (by decide +kernel), List.mem_of_getElem? (i := 948) (by decide +kernel)⟩
theorem lw_p31 : lw_okq (⟨"CountTrianglesModel", "beginOrder", "(I)V"⟩, 21) := ⟨⟨by decide +kernel, by decide +kernel⟩, List.mem_of_getElem? (i := 750) (by decide +kernel), List.mem_of_getElem? (i := 957) (by decide +kernel), List.mem_of_getElem? (i := 958) (by decide +kernel)⟩
def lw_privs_2 : List (MethodName × Nat) := [(⟨"CountTriangles$Polynomial", "multiplyRoom", "(II)V"⟩, 3), (⟨"CountTriangles$Polynomial", "roomMayStand", "(I)Z"⟩, 3), (⟨"CountTriangles", "itemsOfLaws", "()I"⟩, 5), (⟨"CountTriangles", "coefficientsInUse", "()I"⟩, 5), (⟨"CountTrianglesModel", "isRead", "()Z"⟩, 21), (⟨"CountTrianglesModel", "isItem", "()Z"⟩, 21), (⟨"CountTrianglesModel", "byteNow", "()I"⟩, 21), (⟨"CountTrianglesModel", "isNumber", "(II)Z"⟩, 21), (⟨"CountTrianglesModel", "findRows", "(III)V"⟩, 21), (⟨"CountTrianglesModel", "comes", "(IIII)I"⟩, 21), (⟨"CountTrianglesModel", "product", "(II)J"⟩, 21), (⟨"CountTrianglesModel", "partsOf", "(I)I"⟩, 21), (⟨"CountTrianglesModel", "packed", "(I)I"⟩, 21), (⟨"CountTrianglesModel", "turnParting", "(I)Z"⟩, 21), (⟨"CountTrianglesModel", "unpack", "(II)Z"⟩, 21), (⟨"CountTrianglesModel", "beginOrder", "(I)V"⟩, 21)]
theorem lw_r2 : ∀ q ∈ lw_privs_2, lw_okq q := List.forall_mem_cons.mpr ⟨lw_p16, List.forall_mem_cons.mpr ⟨lw_p17, List.forall_mem_cons.mpr ⟨lw_p18, List.forall_mem_cons.mpr ⟨lw_p19, List.forall_mem_cons.mpr ⟨lw_p20, List.forall_mem_cons.mpr ⟨lw_p21, List.forall_mem_cons.mpr ⟨lw_p22, List.forall_mem_cons.mpr ⟨lw_p23, List.forall_mem_cons.mpr ⟨lw_p24, List.forall_mem_cons.mpr ⟨lw_p25, List.forall_mem_cons.mpr ⟨lw_p26, List.forall_mem_cons.mpr ⟨lw_p27, List.forall_mem_cons.mpr ⟨lw_p28, List.forall_mem_cons.mpr ⟨lw_p29, List.forall_mem_cons.mpr ⟨lw_p30, List.forall_mem_cons.mpr ⟨lw_p31, fun _ h => absurd h List.not_mem_nil⟩⟩⟩⟩⟩⟩⟩⟩⟩⟩⟩⟩⟩⟩⟩⟩
theorem lw_p32 : lw_okq (⟨"CountTrianglesModel", "markOf", "(II)I"⟩, 21) := ⟨⟨by decide +kernel, by decide +kernel⟩, List.mem_of_getElem? (i := 750) (by decide +kernel), List.mem_of_getElem? (i := 961) (by decide +kernel), List.mem_of_getElem? (i := 962) (by decide +kernel)⟩
theorem lw_p33 : lw_okq (⟨"CountTrianglesModel", "rings", "(I)I"⟩, 21) := ⟨⟨by decide +kernel, by decide +kernel⟩, List.mem_of_getElem? (i := 750) (by decide +kernel), List.mem_of_getElem? (i := 965) (by decide +kernel), List.mem_of_getElem? (i := 966) (by decide +kernel)⟩
theorem lw_p34 : lw_okq (⟨"CountTrianglesModel", "turnOrder", "(I)Z"⟩, 21) := ⟨⟨by decide +kernel, by decide +kernel⟩, List.mem_of_getElem? (i := 750) (by decide +kernel), List.mem_of_getElem? (i := 969) (by decide +kernel), List.mem_of_getElem? (i := 970) (by decide +kernel)⟩
theorem lw_p35 : lw_okq (⟨"CountTrianglesModel", "takeOrder", "(II)Z"⟩, 21) := ⟨⟨by decide +kernel, by decide +kernel⟩, List.mem_of_getElem? (i := 750) (by decide +kernel), List.mem_of_getElem? (i := 977) (by decide +kernel), List.mem_of_getElem? (i := 978) (by decide +kernel)⟩
theorem lw_p36 : lw_okq (⟨"CountTrianglesModel", "isOrder", "(I)Z"⟩, 21) := ⟨⟨by decide +kernel, by decide +kernel⟩, List.mem_of_getElem? (i := 750) (by decide +kernel), List.mem_of_getElem? (i := 981) (by decide +kernel), List.mem_of_getElem? (i := 982) (by decide +kernel)⟩
theorem lw_p37 : lw_okq (⟨"CountTrianglesModel", "degree", "(I)I"⟩, 21) := ⟨⟨by decide +kernel, by decide +kernel⟩, List.mem_of_getElem? (i := 750) (by decide +kernel), List.mem_of_getElem? (i := 1018) (by decide +kernel), List.mem_of_getElem? (i := 1019) (by decide +kernel)⟩
theorem lw_p38 : lw_okq (⟨"CountTrianglesModel", "areMade", "(II)Z"⟩, 21) := ⟨⟨by decide +kernel, by decide +kernel⟩, List.mem_of_getElem? (i := 750) (by decide +kernel), List.mem_of_getElem? (i := 1026) (by decide +kernel), List.mem_of_getElem? (i := 1027) (by decide +kernel)⟩
theorem lw_p39 : lw_okq (⟨"CountTrianglesModel", "findFalling", "(I)V"⟩, 21) := ⟨⟨by decide +kernel, by decide +kernel⟩, List.mem_of_getElem? (i := 750) (by decide +kernel), List.mem_of_getElem? (i := 1030) (by decide +kernel), List.mem_of_getElem? (i := 1031) (by decide +kernel)⟩
theorem lw_p40 : lw_okq (⟨"CountTrianglesModel", "clearMade", "()V"⟩, 21) := ⟨⟨by decide +kernel, by decide +kernel⟩, List.mem_of_getElem? (i := 750) (by decide +kernel), List.mem_of_getElem? (i := 1038) (by decide +kernel), List.mem_of_getElem? (i := 1039) (by decide +kernel)⟩
theorem lw_p41 : lw_okq (⟨"CountTrianglesModel", "timesInFalling", "(J)V"⟩, 21) := ⟨⟨by decide +kernel, by decide +kernel⟩, List.mem_of_getElem? (i := 750) (by decide +kernel), List.mem_of_getElem? (i := 1042) (by decide +kernel), List.mem_of_getElem? (i := 1043) (by decide +kernel)⟩
theorem lw_p42 : lw_okq (⟨"CountTrianglesModel", "timesIn", "(IJ)V"⟩, 21) := ⟨⟨by decide +kernel, by decide +kernel⟩, List.mem_of_getElem? (i := 750) (by decide +kernel), List.mem_of_getElem? (i := 1046) (by decide +kernel), List.mem_of_getElem? (i := 1047) (by decide +kernel)⟩
theorem lw_p43 : lw_okq (⟨"CountTrianglesModel", "valueAt", "(IJ)J"⟩, 21) := ⟨⟨by decide +kernel, by decide +kernel⟩, List.mem_of_getElem? (i := 750) (by decide +kernel), List.mem_of_getElem? (i := 1056) (by decide +kernel), List.mem_of_getElem? (i := 1057) (by decide +kernel)⟩
def lw_privs_3 : List (MethodName × Nat) := [(⟨"CountTrianglesModel", "markOf", "(II)I"⟩, 21), (⟨"CountTrianglesModel", "rings", "(I)I"⟩, 21), (⟨"CountTrianglesModel", "turnOrder", "(I)Z"⟩, 21), (⟨"CountTrianglesModel", "takeOrder", "(II)Z"⟩, 21), (⟨"CountTrianglesModel", "isOrder", "(I)Z"⟩, 21), (⟨"CountTrianglesModel", "degree", "(I)I"⟩, 21), (⟨"CountTrianglesModel", "areMade", "(II)Z"⟩, 21), (⟨"CountTrianglesModel", "findFalling", "(I)V"⟩, 21), (⟨"CountTrianglesModel", "clearMade", "()V"⟩, 21), (⟨"CountTrianglesModel", "timesInFalling", "(J)V"⟩, 21), (⟨"CountTrianglesModel", "timesIn", "(IJ)V"⟩, 21), (⟨"CountTrianglesModel", "valueAt", "(IJ)J"⟩, 21)]
theorem lw_r3 : ∀ q ∈ lw_privs_3, lw_okq q := List.forall_mem_cons.mpr ⟨lw_p32, List.forall_mem_cons.mpr ⟨lw_p33, List.forall_mem_cons.mpr ⟨lw_p34, List.forall_mem_cons.mpr ⟨lw_p35, List.forall_mem_cons.mpr ⟨lw_p36, List.forall_mem_cons.mpr ⟨lw_p37, List.forall_mem_cons.mpr ⟨lw_p38, List.forall_mem_cons.mpr ⟨lw_p39, List.forall_mem_cons.mpr ⟨lw_p40, List.forall_mem_cons.mpr ⟨lw_p41, List.forall_mem_cons.mpr ⟨lw_p42, List.forall_mem_cons.mpr ⟨lw_p43, fun _ h => absurd h List.not_mem_nil⟩⟩⟩⟩⟩⟩⟩⟩⟩⟩⟩⟩
def lw_privs : List (MethodName × Nat) := lw_privs_1 ++ (lw_privs_2 ++ (lw_privs_3))
def lw_tbl : List Cond := k2_sels lw_privs ++ tables_1
theorem lw_privs_ok : ∀ q ∈ lw_privs, lw_okq q := by
  show ∀ q ∈ lw_privs_1 ++ (lw_privs_2 ++ (lw_privs_3)), lw_okq q
  exact List.forall_mem_append.mpr ⟨lw_r1, List.forall_mem_append.mpr ⟨lw_r2, lw_r3⟩⟩
def RX0 : String := "CountTriangles$Falls"
def TX0 : u_T := fun k => match k with
  | _ => ("CountTriangles$Falls", "table", "[I", true)
def tyX0 : Nat → FieldType := fun k => match k with
  | _ => .array .int
abbrev wsX00 : List Cond := u_ws RX0 TX0 1
theorem nmX0 : ∀ a, a < 1 → ∀ b, b < 1 → a ≠ b → (TX0 a).2.1 ≠ (TX0 b).2.1 := by decide +kernel
theorem tyX0_ok : ∀ k, k < 1 → parseFieldDescriptor (TX0 k).2.2.1 = some (tyX0 k) := by decide +kernel
abbrev cX0_init : ByteArray := prog_2_method_1_code
def yX0_init : MethodName := ⟨RX0, "<init>", "()V"⟩
abbrev cX0_waysByNext : ByteArray := prog_2_method_2_code
def yX0_waysByNext : MethodName := ⟨RX0, "waysByNext", "(III)I"⟩
abbrev cX0_start : ByteArray := prog_2_method_3_code
def yX0_start : MethodName := ⟨RX0, "start", "(I)I"⟩
abbrev cX0_growth : ByteArray := prog_2_method_4_code
def yX0_growth : MethodName := ⟨RX0, "growth", "(III[II)I"⟩
abbrev cX0_next : ByteArray := prog_2_method_5_code
def yX0_next : MethodName := ⟨RX0, "next", "(III)I"⟩
abbrev cX0_ways : ByteArray := prog_2_method_6_code
def yX0_ways : MethodName := ⟨RX0, "ways", "(III)I"⟩
def RX1 : String := "CountTriangles$Heights"
def TX1 : u_T := fun k => match k with
  | _ => ("CountTriangles$Heights", "rings", "LCountTriangles$Rings;", true)
def tyX1 : Nat → FieldType := fun k => match k with
  | _ => .object "CountTriangles$Rings"
abbrev wsX10 : List Cond := u_ws RX1 TX1 1
theorem nmX1 : ∀ a, a < 1 → ∀ b, b < 1 → a ≠ b → (TX1 a).2.1 ≠ (TX1 b).2.1 := by decide +kernel
theorem tyX1_ok : ∀ k, k < 1 → parseFieldDescriptor (TX1 k).2.2.1 = some (tyX1 k) := by decide +kernel
abbrev cX1_init : ByteArray := prog_3_method_1_code
def yX1_init : MethodName := ⟨RX1, "<init>", "(LCountTriangles$Rings;)V"⟩
abbrev cX1_start : ByteArray := prog_3_method_2_code
def yX1_start : MethodName := ⟨RX1, "start", "(I)I"⟩
abbrev cX1_growth : ByteArray := prog_3_method_3_code
def yX1_growth : MethodName := ⟨RX1, "growth", "(III[II)I"⟩
abbrev cX1_next : ByteArray := prog_3_method_4_code
def yX1_next : MethodName := ⟨RX1, "next", "(III)I"⟩
abbrev cX1_ways : ByteArray := prog_3_method_5_code
def yX1_ways : MethodName := ⟨RX1, "ways", "(III)I"⟩
def RX2 : String := "CountTriangles$Law"
def TX2 : u_T := fun k => match k with
  | 0 => ("CountTriangles$Law", "left", "[I", true)
  | 1 => ("CountTriangles$Law", "above", "[I", true)
  | 2 => ("CountTriangles$Law", "numbers", "[J", true)
  | 3 => ("CountTriangles$Law", "column", "[J", true)
  | 4 => ("CountTriangles$Law", "rests", "[I", true)
  | 5 => ("CountTriangles$Law", "top", "I", false)
  | _ => ("CountTriangles$Law", "items", "I", false)
def tyX2 : Nat → FieldType := fun k => match k with
  | 0 => .array .int
  | 1 => .array .int
  | 2 => .array .long
  | 3 => .array .long
  | 4 => .array .int
  | 5 => .int
  | _ => .int
abbrev wsX20 : List Cond := u_ws RX2 TX2 7
theorem nmX2 : ∀ a, a < 7 → ∀ b, b < 7 → a ≠ b → (TX2 a).2.1 ≠ (TX2 b).2.1 := by decide +kernel
theorem tyX2_ok : ∀ k, k < 7 → parseFieldDescriptor (TX2 k).2.2.1 = some (tyX2 k) := by decide +kernel
abbrev cX2_init : ByteArray := prog_4_method_1_code
def yX2_init : MethodName := ⟨RX2, "<init>", "()V"⟩
abbrev cX2_items : ByteArray := prog_4_method_2_code
def yX2_items : MethodName := ⟨RX2, "items", "()I"⟩
abbrev cX2_layFrom : ByteArray := prog_4_method_3_code
def yX2_layFrom : MethodName := ⟨RX2, "layFrom", "(LCountTriangles$Text;)V"⟩
abbrev cX2_takeItem : ByteArray := prog_4_method_4_code
def yX2_takeItem : MethodName := ⟨RX2, "takeItem", "(LCountTriangles$Text;I)V"⟩
abbrev cX2_fillNumbers : ByteArray := prog_4_method_5_code
def yX2_fillNumbers : MethodName := ⟨RX2, "fillNumbers", "()V"⟩
abbrev cX2_madeOfAbove : ByteArray := prog_4_method_6_code
def yX2_madeOfAbove : MethodName := ⟨RX2, "madeOfAbove", "(II)J"⟩
abbrev cX2_factor : ByteArray := prog_4_method_7_code
def yX2_factor : MethodName := ⟨RX2, "factor", "([III)I"⟩
abbrev cX2_part : ByteArray := prog_4_method_8_code
def yX2_part : MethodName := ⟨RX2, "part", "(IJ)J"⟩
abbrev cX2_limited : ByteArray := prog_4_method_9_code
def yX2_limited : MethodName := ⟨RX2, "limited", "(J)J"⟩
abbrev cX2_product : ByteArray := prog_4_method_10_code
def yX2_product : MethodName := ⟨RX2, "product", "(JJ)J"⟩
abbrev cX2_numberAt : ByteArray := prog_4_method_11_code
def yX2_numberAt : MethodName := ⟨RX2, "numberAt", "(II)J"⟩
abbrev cX2_rowKeepsTo : ByteArray := prog_4_method_12_code
def yX2_rowKeepsTo : MethodName := ⟨RX2, "rowKeepsTo", "(IJ)Z"⟩
abbrev cX2_rowSum : ByteArray := prog_4_method_13_code
def yX2_rowSum : MethodName := ⟨RX2, "rowSum", "(IZ)J"⟩
abbrev cX2_slantSum : ByteArray := prog_4_method_14_code
def yX2_slantSum : MethodName := ⟨RX2, "slantSum", "(I)J"⟩
abbrev cX2_squareSum : ByteArray := prog_4_method_15_code
def yX2_squareSum : MethodName := ⟨RX2, "squareSum", "(I)J"⟩
abbrev cX2_greatestPlace : ByteArray := prog_4_method_16_code
def yX2_greatestPlace : MethodName := ⟨RX2, "greatestPlace", "(I)I"⟩
abbrev cX2_breakPlace : ByteArray := prog_4_method_17_code
def yX2_breakPlace : MethodName := ⟨RX2, "breakPlace", "(I)I"⟩
abbrev cX2_bowedPlace : ByteArray := prog_4_method_18_code
def yX2_bowedPlace : MethodName := ⟨RX2, "bowedPlace", "(I)I"⟩
abbrev cX2_restAt : ByteArray := prog_4_method_19_code
def yX2_restAt : MethodName := ⟨RX2, "restAt", "(III)I"⟩
abbrev cX2_productAt : ByteArray := prog_4_method_20_code
def yX2_productAt : MethodName := ⟨RX2, "productAt", "(LCountTriangles$Law;II)J"⟩
abbrev cX2_firstRowNotUndone : ByteArray := prog_4_method_21_code
def yX2_firstRowNotUndone : MethodName := ⟨RX2, "firstRowNotUndone", "(LCountTriangles$Law;I)I"⟩
abbrev cX2_inverseAt : ByteArray := prog_4_method_22_code
def yX2_inverseAt : MethodName := ⟨RX2, "inverseAt", "(II)J"⟩
abbrev cX2_columnSum : ByteArray := prog_4_method_23_code
def yX2_columnSum : MethodName := ⟨RX2, "columnSum", "(II)J"⟩
abbrev cX2_endsInOnes : ByteArray := prog_4_method_24_code
def yX2_endsInOnes : MethodName := ⟨RX2, "endsInOnes", "(I)Z"⟩
def RX3 : String := "CountTriangles$LesserPairs"
def TX3 : u_T := fun k => match k with
  | _ => ("CountTriangles$LesserPairs", "table", "[I", true)
def tyX3 : Nat → FieldType := fun k => match k with
  | _ => .array .int
abbrev wsX30 : List Cond := u_ws RX3 TX3 1
theorem nmX3 : ∀ a, a < 1 → ∀ b, b < 1 → a ≠ b → (TX3 a).2.1 ≠ (TX3 b).2.1 := by decide +kernel
theorem tyX3_ok : ∀ k, k < 1 → parseFieldDescriptor (TX3 k).2.2.1 = some (tyX3 k) := by decide +kernel
abbrev cX3_init : ByteArray := prog_5_method_1_code
def yX3_init : MethodName := ⟨RX3, "<init>", "()V"⟩
abbrev cX3_waysByNext : ByteArray := prog_5_method_2_code
def yX3_waysByNext : MethodName := ⟨RX3, "waysByNext", "(II)I"⟩
abbrev cX3_start : ByteArray := prog_5_method_3_code
def yX3_start : MethodName := ⟨RX3, "start", "(I)I"⟩
abbrev cX3_growth : ByteArray := prog_5_method_4_code
def yX3_growth : MethodName := ⟨RX3, "growth", "(III[II)I"⟩
abbrev cX3_next : ByteArray := prog_5_method_5_code
def yX3_next : MethodName := ⟨RX3, "next", "(III)I"⟩
abbrev cX3_ways : ByteArray := prog_5_method_6_code
def yX3_ways : MethodName := ⟨RX3, "ways", "(III)I"⟩
def RX4 : String := "CountTriangles$LongestRise"
def TX4 : u_T := fun k => match k with
  | 0 => ("CountTriangles$LongestRise", "table", "[I", true)
  | _ => ("CountTriangles$LongestRise", "wanted", "I", false)
def tyX4 : Nat → FieldType := fun k => match k with
  | 0 => .array .int
  | _ => .int
abbrev wsX40 : List Cond := u_ws RX4 TX4 2
theorem nmX4 : ∀ a, a < 2 → ∀ b, b < 2 → a ≠ b → (TX4 a).2.1 ≠ (TX4 b).2.1 := by decide +kernel
theorem tyX4_ok : ∀ k, k < 2 → parseFieldDescriptor (TX4 k).2.2.1 = some (tyX4 k) := by decide +kernel
abbrev cX4_init : ByteArray := prog_6_method_1_code
def yX4_init : MethodName := ⟨RX4, "<init>", "()V"⟩
abbrev cX4_start : ByteArray := prog_6_method_2_code
def yX4_start : MethodName := ⟨RX4, "start", "(I)I"⟩
abbrev cX4_growth : ByteArray := prog_6_method_3_code
def yX4_growth : MethodName := ⟨RX4, "growth", "(III[II)I"⟩
abbrev cX4_next : ByteArray := prog_6_method_4_code
def yX4_next : MethodName := ⟨RX4, "next", "(III)I"⟩
abbrev cX4_withEnd : ByteArray := prog_6_method_5_code
def yX4_withEnd : MethodName := ⟨RX4, "withEnd", "(II)I"⟩
abbrev cX4_ways : ByteArray := prog_6_method_6_code
def yX4_ways : MethodName := ⟨RX4, "ways", "(III)I"⟩
abbrev cX4_fillTable : ByteArray := prog_6_method_7_code
def yX4_fillTable : MethodName := ⟨RX4, "fillTable", "()V"⟩
abbrev cX4_waysByNext : ByteArray := prog_6_method_8_code
def yX4_waysByNext : MethodName := ⟨RX4, "waysByNext", "(II)I"⟩
def RX5 : String := "CountTriangles$Mark"
def TX5 : u_T := fun k => match k with
  | _ => ("", "", "", false)
def tyX5 : Nat → FieldType := fun k => match k with
  | _ => .int
abbrev wsX50 : List Cond := u_ws RX5 TX5 0
theorem nmX5 : ∀ a, a < 0 → ∀ b, b < 0 → a ≠ b → (TX5 a).2.1 ≠ (TX5 b).2.1 := by decide +kernel
theorem tyX5_ok : ∀ k, k < 0 → parseFieldDescriptor (TX5 k).2.2.1 = some (tyX5 k) := by decide +kernel
abbrev cX5_init : ByteArray := prog_7_method_1_code
def yX5_init : MethodName := ⟨RX5, "<init>", "()V"⟩
def RX6 : String := "CountTriangles$Orders"
def TX6 : u_T := fun k => match k with
  | 0 => ("CountTriangles$Orders", "row", "[I", true)
  | 1 => ("CountTriangles$Orders", "source", "[I", true)
  | _ => ("CountTriangles$Orders", "marks", "[LCountTriangles$Mark;", true)
def tyX6 : Nat → FieldType := fun k => match k with
  | 0 => .array .int
  | 1 => .array .int
  | _ => .array (.object "CountTriangles$Mark")
abbrev wsX60 : List Cond := u_ws RX6 TX6 3
theorem nmX6 : ∀ a, a < 3 → ∀ b, b < 3 → a ≠ b → (TX6 a).2.1 ≠ (TX6 b).2.1 := by decide +kernel
theorem tyX6_ok : ∀ k, k < 3 → parseFieldDescriptor (TX6 k).2.2.1 = some (tyX6 k) := by decide +kernel
abbrev cX6_init : ByteArray := prog_8_method_1_code
def yX6_init : MethodName := ⟨RX6, "<init>", "()V"⟩
abbrev cX6_isOne : ByteArray := prog_8_method_2_code
def yX6_isOne : MethodName := ⟨RX6, "isOne", "(II)Z"⟩
abbrev cX6_howMany : ByteArray := prog_8_method_3_code
def yX6_howMany : MethodName := ⟨RX6, "howMany", "(III)I"⟩
abbrev cX6_ith : ByteArray := prog_8_method_4_code
def yX6_ith : MethodName := ⟨RX6, "ith", "(IIII)I"⟩
abbrev cX6_unusedDigit : ByteArray := prog_8_method_5_code
def yX6_unusedDigit : MethodName := ⟨RX6, "unusedDigit", "(II)I"⟩
abbrev cX6_markOf : ByteArray := prog_8_method_6_code
def yX6_markOf : MethodName := ⟨RX6, "markOf", "(III)I"⟩
abbrev cX6_rankOf : ByteArray := prog_8_method_7_code
def yX6_rankOf : MethodName := ⟨RX6, "rankOf", "(II)I"⟩
abbrev cX6_turnedOver : ByteArray := prog_8_method_8_code
def yX6_turnedOver : MethodName := ⟨RX6, "turnedOver", "(II)I"⟩
abbrev cX6_oneBehind : ByteArray := prog_8_method_9_code
def yX6_oneBehind : MethodName := ⟨RX6, "oneBehind", "(III)I"⟩
abbrev cX6_lesserLater : ByteArray := prog_8_method_10_code
def yX6_lesserLater : MethodName := ⟨RX6, "lesserLater", "(II)I"⟩
abbrev cX6_unpack : ByteArray := prog_8_method_11_code
def yX6_unpack : MethodName := ⟨RX6, "unpack", "(II[I)V"⟩
abbrev cX6_packed : ByteArray := prog_8_method_12_code
def yX6_packed : MethodName := ⟨RX6, "packed", "(I)I"⟩
def RX7 : String := "CountTriangles$Partings"
def TX7 : u_T := fun k => match k with
  | _ => ("CountTriangles$Partings", "ways", "[I", true)
def tyX7 : Nat → FieldType := fun k => match k with
  | _ => .array .int
abbrev wsX70 : List Cond := u_ws RX7 TX7 1
theorem nmX7 : ∀ a, a < 1 → ∀ b, b < 1 → a ≠ b → (TX7 a).2.1 ≠ (TX7 b).2.1 := by decide +kernel
theorem tyX7_ok : ∀ k, k < 1 → parseFieldDescriptor (TX7 k).2.2.1 = some (tyX7 k) := by decide +kernel
abbrev cX7_init : ByteArray := prog_9_method_1_code
def yX7_init : MethodName := ⟨RX7, "<init>", "()V"⟩
abbrev cX7_want : ByteArray := prog_9_method_2_code
def yX7_want : MethodName := ⟨RX7, "want", "(I)V"⟩
abbrev cX7_waysFrom : ByteArray := prog_9_method_3_code
def yX7_waysFrom : MethodName := ⟨RX7, "waysFrom", "(II)I"⟩
abbrev cX7_howMany : ByteArray := prog_9_method_4_code
def yX7_howMany : MethodName := ⟨RX7, "howMany", "(I)I"⟩
abbrev cX7_ith : ByteArray := prog_9_method_5_code
def yX7_ith : MethodName := ⟨RX7, "ith", "(II)I"⟩
abbrev cX7_partsOf : ByteArray := prog_9_method_6_code
def yX7_partsOf : MethodName := ⟨RX7, "partsOf", "(II)I"⟩
abbrev cX7_rankOf : ByteArray := prog_9_method_7_code
def yX7_rankOf : MethodName := ⟨RX7, "rankOf", "(II)I"⟩
def RX8 : String := "CountTriangles$Polynomial"
def TX8 : u_T := fun k => match k with
  | 0 => ("CountTriangles$Polynomial", "coefficients", "[J", true)
  | 1 => ("CountTriangles$Polynomial", "room", "[J", true)
  | _ => ("CountTriangles$Polynomial", "base", "I", false)
def tyX8 : Nat → FieldType := fun k => match k with
  | 0 => .array .long
  | 1 => .array .long
  | _ => .int
abbrev wsX80 : List Cond := u_ws RX8 TX8 3
theorem nmX8 : ∀ a, a < 3 → ∀ b, b < 3 → a ≠ b → (TX8 a).2.1 ≠ (TX8 b).2.1 := by decide +kernel
theorem tyX8_ok : ∀ k, k < 3 → parseFieldDescriptor (TX8 k).2.2.1 = some (tyX8 k) := by decide +kernel
abbrev cX8_init : ByteArray := prog_10_method_1_code
def yX8_init : MethodName := ⟨RX8, "<init>", "()V"⟩
abbrev cX8_baseNow : ByteArray := prog_10_method_2_code
def yX8_baseNow : MethodName := ⟨RX8, "baseNow", "()I"⟩
abbrev cX8_clearIn : ByteArray := prog_10_method_3_code
def yX8_clearIn : MethodName := ⟨RX8, "clearIn", "(I)V"⟩
abbrev cX8_at : ByteArray := prog_10_method_4_code
def yX8_at : MethodName := ⟨RX8, "at", "(I)J"⟩
abbrev cX8_put : ByteArray := prog_10_method_5_code
def yX8_put : MethodName := ⟨RX8, "put", "(IJ)V"⟩
abbrev cX8_degree : ByteArray := prog_10_method_6_code
def yX8_degree : MethodName := ⟨RX8, "degree", "()I"⟩
abbrev cX8_inUse : ByteArray := prog_10_method_7_code
def yX8_inUse : MethodName := ⟨RX8, "inUse", "()I"⟩
abbrev cX8_zero : ByteArray := prog_10_method_8_code
def yX8_zero : MethodName := ⟨RX8, "zero", "(II)I"⟩
abbrev cX8_valueAt : ByteArray := prog_10_method_9_code
def yX8_valueAt : MethodName := ⟨RX8, "valueAt", "(I)J"⟩
abbrev cX8_difference : ByteArray := prog_10_method_10_code
def yX8_difference : MethodName := ⟨RX8, "difference", "(II)J"⟩
abbrev cX8_turnInto : ByteArray := prog_10_method_11_code
def yX8_turnInto : MethodName := ⟨RX8, "turnInto", "(I)Z"⟩
abbrev cX8_becomeSum : ByteArray := prog_10_method_12_code
def yX8_becomeSum : MethodName := ⟨RX8, "becomeSum", "()Z"⟩
abbrev cX8_findTurned : ByteArray := prog_10_method_13_code
def yX8_findTurned : MethodName := ⟨RX8, "findTurned", "(I)Z"⟩
abbrev cX8_choicesAreWholeFalling : ByteArray := prog_10_method_14_code
def yX8_choicesAreWholeFalling : MethodName := ⟨RX8, "choicesAreWholeFalling", "()Z"⟩
abbrev cX8_multiplyRoom : ByteArray := prog_10_method_15_code
def yX8_multiplyRoom : MethodName := ⟨RX8, "multiplyRoom", "(II)V"⟩
abbrev cX8_roomMayStand : ByteArray := prog_10_method_16_code
def yX8_roomMayStand : MethodName := ⟨RX8, "roomMayStand", "(I)Z"⟩
def RX9 : String := "CountTriangles$Rings"
def TX9 : u_T := fun k => match k with
  | _ => ("CountTriangles$Rings", "table", "[I", true)
def tyX9 : Nat → FieldType := fun k => match k with
  | _ => .array .int
abbrev wsX90 : List Cond := u_ws RX9 TX9 1
theorem nmX9 : ∀ a, a < 1 → ∀ b, b < 1 → a ≠ b → (TX9 a).2.1 ≠ (TX9 b).2.1 := by decide +kernel
theorem tyX9_ok : ∀ k, k < 1 → parseFieldDescriptor (TX9 k).2.2.1 = some (tyX9 k) := by decide +kernel
abbrev cX9_init : ByteArray := prog_11_method_1_code
def yX9_init : MethodName := ⟨RX9, "<init>", "()V"⟩
abbrev cX9_start : ByteArray := prog_11_method_2_code
def yX9_start : MethodName := ⟨RX9, "start", "(I)I"⟩
abbrev cX9_growth : ByteArray := prog_11_method_3_code
def yX9_growth : MethodName := ⟨RX9, "growth", "(III[II)I"⟩
abbrev cX9_next : ByteArray := prog_11_method_4_code
def yX9_next : MethodName := ⟨RX9, "next", "(III)I"⟩
abbrev cX9_ways : ByteArray := prog_11_method_5_code
def yX9_ways : MethodName := ⟨RX9, "ways", "(III)I"⟩
def RX10 : String := "CountTriangles$Text"
def TX10 : u_T := fun k => match k with
  | 0 => ("CountTriangles$Text", "bytes", "[B", true)
  | _ => ("CountTriangles$Text", "length", "I", false)
def tyX10 : Nat → FieldType := fun k => match k with
  | 0 => .array .byte
  | _ => .int
abbrev wsX100 : List Cond := u_ws RX10 TX10 2
theorem nmX10 : ∀ a, a < 2 → ∀ b, b < 2 → a ≠ b → (TX10 a).2.1 ≠ (TX10 b).2.1 := by decide +kernel
theorem tyX10_ok : ∀ k, k < 2 → parseFieldDescriptor (TX10 k).2.2.1 = some (tyX10 k) := by decide +kernel
abbrev cX10_init : ByteArray := prog_12_method_1_code
def yX10_init : MethodName := ⟨RX10, "<init>", "()V"⟩
abbrev cX10_length : ByteArray := prog_12_method_2_code
def yX10_length : MethodName := ⟨RX10, "length", "()I"⟩
abbrev cX10_clear : ByteArray := prog_12_method_3_code
def yX10_clear : MethodName := ⟨RX10, "clear", "()V"⟩
abbrev cX10_append : ByteArray := prog_12_method_4_code
def yX10_append : MethodName := ⟨RX10, "append", "(IJ)Z"⟩
abbrev cX10_byteAt : ByteArray := prog_12_method_5_code
def yX10_byteAt : MethodName := ⟨RX10, "byteAt", "(I)I"⟩
abbrev cX10_firstFault : ByteArray := prog_12_method_6_code
def yX10_firstFault : MethodName := ⟨RX10, "firstFault", "()I"⟩
abbrev cX10_itemEnd : ByteArray := prog_12_method_7_code
def yX10_itemEnd : MethodName := ⟨RX10, "itemEnd", "(I)I"⟩
abbrev cX10_numbersBehind : ByteArray := prog_12_method_8_code
def yX10_numbersBehind : MethodName := ⟨RX10, "numbersBehind", "(I)I"⟩
abbrev cX10_numberEnd : ByteArray := prog_12_method_9_code
def yX10_numberEnd : MethodName := ⟨RX10, "numberEnd", "(I)I"⟩
abbrev cX10_numberFrom : ByteArray := prog_12_method_10_code
def yX10_numberFrom : MethodName := ⟨RX10, "numberFrom", "(I)I"⟩
abbrev cX10_nextNumber : ByteArray := prog_12_method_11_code
def yX10_nextNumber : MethodName := ⟨RX10, "nextNumber", "(I)I"⟩
def RX11 : String := "CountTriangles"
def TX11 : u_T := fun k => match k with
  | 0 => ("CountTriangles", "text", "LCountTriangles$Text;", true)
  | 1 => ("CountTriangles", "laws", "[LCountTriangles$Law;", true)
  | 2 => ("CountTriangles", "partings", "LCountTriangles$Partings;", true)
  | 3 => ("CountTriangles", "orders", "LCountTriangles$Orders;", true)
  | _ => ("CountTriangles", "polynomials", "[LCountTriangles$Polynomial;", true)
def tyX11 : Nat → FieldType := fun k => match k with
  | 0 => .object "CountTriangles$Text"
  | 1 => .array (.object "CountTriangles$Law")
  | 2 => .object "CountTriangles$Partings"
  | 3 => .object "CountTriangles$Orders"
  | _ => .array (.object "CountTriangles$Polynomial")
abbrev wsX110 : List Cond := u_ws RX11 TX11 5
theorem nmX11 : ∀ a, a < 5 → ∀ b, b < 5 → a ≠ b → (TX11 a).2.1 ≠ (TX11 b).2.1 := by decide +kernel
theorem tyX11_ok : ∀ k, k < 5 → parseFieldDescriptor (TX11 k).2.2.1 = some (tyX11 k) := by decide +kernel
abbrev cX11_init : ByteArray := prog_1_method_1_code
def yX11_init : MethodName := ⟨RX11, "<init>", "()V"⟩
abbrev cX11_write : ByteArray := prog_1_method_2_code
def yX11_write : MethodName := ⟨RX11, "write", "(IJ)I"⟩
abbrev cX11_wipe : ByteArray := prog_1_method_3_code
def yX11_wipe : MethodName := ⟨RX11, "wipe", "()I"⟩
abbrev cX11_fault : ByteArray := prog_1_method_4_code
def yX11_fault : MethodName := ⟨RX11, "fault", "()I"⟩
abbrev cX11_lay : ByteArray := prog_1_method_5_code
def yX11_lay : MethodName := ⟨RX11, "lay", "(I)I"⟩
abbrev cX11_number : ByteArray := prog_1_method_6_code
def yX11_number : MethodName := ⟨RX11, "number", "(III)J"⟩
abbrev cX11_sum : ByteArray := prog_1_method_7_code
def yX11_sum : MethodName := ⟨RX11, "sum", "(III)J"⟩
abbrev cX11_shape : ByteArray := prog_1_method_8_code
def yX11_shape : MethodName := ⟨RX11, "shape", "(III)I"⟩
abbrev cX11_rest : ByteArray := prog_1_method_9_code
def yX11_rest : MethodName := ⟨RX11, "rest", "(IIII)I"⟩
abbrev cX11_times : ByteArray := prog_1_method_10_code
def yX11_times : MethodName := ⟨RX11, "times", "(IIII)J"⟩
abbrev cX11_undoes : ByteArray := prog_1_method_11_code
def yX11_undoes : MethodName := ⟨RX11, "undoes", "(III)I"⟩
abbrev cX11_back : ByteArray := prog_1_method_12_code
def yX11_back : MethodName := ⟨RX11, "back", "(III)J"⟩
abbrev cX11_parting : ByteArray := prog_1_method_13_code
def yX11_parting : MethodName := ⟨RX11, "parting", "(III)I"⟩
abbrev cX11_partRank : ByteArray := prog_1_method_14_code
def yX11_partRank : MethodName := ⟨RX11, "partRank", "(II)I"⟩
abbrev cX11_orders : ByteArray := prog_1_method_15_code
def yX11_orders : MethodName := ⟨RX11, "orders", "(IIII)I"⟩
abbrev cX11_mark : ByteArray := prog_1_method_16_code
def yX11_mark : MethodName := ⟨RX11, "mark", "(III)I"⟩
abbrev cX11_rank : ByteArray := prog_1_method_17_code
def yX11_rank : MethodName := ⟨RX11, "rank", "(II)I"⟩
abbrev cX11_over : ByteArray := prog_1_method_18_code
def yX11_over : MethodName := ⟨RX11, "over", "(II)I"⟩
abbrev cX11_behind : ByteArray := prog_1_method_19_code
def yX11_behind : MethodName := ⟨RX11, "behind", "(III)I"⟩
abbrev cX11_base : ByteArray := prog_1_method_20_code
def yX11_base : MethodName := ⟨RX11, "base", "(II)I"⟩
abbrev cX11_set : ByteArray := prog_1_method_21_code
def yX11_set : MethodName := ⟨RX11, "set", "(IIJ)J"⟩
abbrev cX11_coefficient : ByteArray := prog_1_method_22_code
def yX11_coefficient : MethodName := ⟨RX11, "coefficient", "(II)J"⟩
abbrev cX11_told : ByteArray := prog_1_method_23_code
def yX11_told : MethodName := ⟨RX11, "told", "(II)I"⟩
abbrev cX11_turn : ByteArray := prog_1_method_24_code
def yX11_turn : MethodName := ⟨RX11, "turn", "(II)I"⟩
abbrev cX11_value : ByteArray := prog_1_method_25_code
def yX11_value : MethodName := ⟨RX11, "value", "(III)J"⟩
abbrev cX11_sumUp : ByteArray := prog_1_method_26_code
def yX11_sumUp : MethodName := ⟨RX11, "sumUp", "(I)I"⟩
abbrev cX11_root : ByteArray := prog_1_method_27_code
def yX11_root : MethodName := ⟨RX11, "root", "(II)I"⟩
abbrev cX11_count : ByteArray := prog_1_method_28_code
def yX11_count : MethodName := ⟨RX11, "count", "(I)I"⟩
abbrev cX11_itemsOfLaws : ByteArray := prog_1_method_29_code
def yX11_itemsOfLaws : MethodName := ⟨RX11, "itemsOfLaws", "()I"⟩
abbrev cX11_coefficientsInUse : ByteArray := prog_1_method_30_code
def yX11_coefficientsInUse : MethodName := ⟨RX11, "coefficientsInUse", "()I"⟩
abbrev cX11_isOrder : ByteArray := prog_1_method_31_code
def yX11_isOrder : MethodName := ⟨RX11, "isOrder", "(II)Z"⟩
abbrev cX11_isLaw : ByteArray := prog_1_method_32_code
def yX11_isLaw : MethodName := ⟨RX11, "isLaw", "(I)Z"⟩
abbrev cX11_isPolynomial : ByteArray := prog_1_method_33_code
def yX11_isPolynomial : MethodName := ⟨RX11, "isPolynomial", "(I)Z"⟩
abbrev cX11_isPlace : ByteArray := prog_1_method_34_code
def yX11_isPlace : MethodName := ⟨RX11, "isPlace", "(III)Z"⟩
abbrev cX11_within : ByteArray := prog_1_method_35_code
def yX11_within : MethodName := ⟨RX11, "within", "(III)Z"⟩
abbrev cX11_beyond : ByteArray := prog_1_method_36_code
def yX11_beyond : MethodName := ⟨RX11, "beyond", "(JJ)Z"⟩
abbrev cX11_answer : ByteArray := prog_1_method_37_code
def yX11_answer : MethodName := ⟨RX11, "answer", "(J)J"⟩
abbrev cX11_digitAt : ByteArray := prog_1_method_38_code
def yX11_digitAt : MethodName := ⟨RX11, "digitAt", "(III)I"⟩
abbrev cX11_hasDigitsAlone : ByteArray := prog_1_method_39_code
def yX11_hasDigitsAlone : MethodName := ⟨RX11, "hasDigitsAlone", "(II)Z"⟩
def RX12 : String := "CountTrianglesModel"
def TX12 : u_T := fun k => match k with
  | 0 => ("CountTrianglesModel", "bytes", "I", false)
  | 1 => ("CountTrianglesModel", "text", "[I", true)
  | 2 => ("CountTrianglesModel", "position", "I", false)
  | 3 => ("CountTrianglesModel", "begin", "I", false)
  | 4 => ("CountTrianglesModel", "readMany", "I", false)
  | 5 => ("CountTrianglesModel", "read", "[I", true)
  | 6 => ("CountTrianglesModel", "law", "[I", true)
  | 7 => ("CountTrianglesModel", "items", "[I", true)
  | 8 => ("CountTrianglesModel", "cell", "[J", true)
  | 9 => ("CountTrianglesModel", "isGreat", "[Z", true)
  | 10 => ("CountTrianglesModel", "rests", "[I", true)
  | 11 => ("CountTrianglesModel", "column", "[J", true)
  | 12 => ("CountTrianglesModel", "isNo", "Z", false)
  | 13 => ("CountTrianglesModel", "digit", "[I", true)
  | 14 => ("CountTrianglesModel", "other", "[I", true)
  | 15 => ("CountTrianglesModel", "turned", "[I", true)
  | 16 => ("CountTrianglesModel", "base", "[I", true)
  | 17 => ("CountTrianglesModel", "factor", "[J", true)
  | 18 => ("CountTrianglesModel", "falling", "[J", true)
  | 19 => ("CountTrianglesModel", "made", "[J", true)
  | _ => ("CountTrianglesModel", "table", "[J", true)
def tyX12 : Nat → FieldType := fun k => match k with
  | 0 => .int
  | 1 => .array .int
  | 2 => .int
  | 3 => .int
  | 4 => .int
  | 5 => .array .int
  | 6 => .array .int
  | 7 => .array .int
  | 8 => .array .long
  | 9 => .array .boolean
  | 10 => .array .int
  | 11 => .array .long
  | 12 => .boolean
  | 13 => .array .int
  | 14 => .array .int
  | 15 => .array .int
  | 16 => .array .int
  | 17 => .array .long
  | 18 => .array .long
  | 19 => .array .long
  | _ => .array .long
abbrev wsX120 : List Cond := u_ws RX12 TX12 21
theorem nmX12 : ∀ a, a < 21 → ∀ b, b < 21 → a ≠ b → (TX12 a).2.1 ≠ (TX12 b).2.1 := by decide +kernel
theorem tyX12_ok : ∀ k, k < 21 → parseFieldDescriptor (TX12 k).2.2.1 = some (tyX12 k) := by decide +kernel
abbrev cX12_init : ByteArray := prog_14_method_1_code
def yX12_init : MethodName := ⟨RX12, "<init>", "()V"⟩
abbrev cX12_in : ByteArray := prog_14_method_2_code
def yX12_in : MethodName := ⟨RX12, "in", "(JJJ)Z"⟩
abbrev cX12_write : ByteArray := prog_14_method_3_code
def yX12_write : MethodName := ⟨RX12, "write", "(IJ)I"⟩
abbrev cX12_wipe : ByteArray := prog_14_method_4_code
def yX12_wipe : MethodName := ⟨RX12, "wipe", "()I"⟩
abbrev cX12_byteNow : ByteArray := prog_14_method_5_code
def yX12_byteNow : MethodName := ⟨RX12, "byteNow", "()I"⟩
abbrev cX12_isNumber : ByteArray := prog_14_method_6_code
def yX12_isNumber : MethodName := ⟨RX12, "isNumber", "(II)Z"⟩
abbrev cX12_isItem : ByteArray := prog_14_method_7_code
def yX12_isItem : MethodName := ⟨RX12, "isItem", "()Z"⟩
abbrev cX12_isRead : ByteArray := prog_14_method_8_code
def yX12_isRead : MethodName := ⟨RX12, "isRead", "()Z"⟩
abbrev cX12_fault : ByteArray := prog_14_method_9_code
def yX12_fault : MethodName := ⟨RX12, "fault", "()I"⟩
abbrev cX12_isLaw : ByteArray := prog_14_method_10_code
def yX12_isLaw : MethodName := ⟨RX12, "isLaw", "(I)Z"⟩
abbrev cX12_lay : ByteArray := prog_14_method_11_code
def yX12_lay : MethodName := ⟨RX12, "lay", "(I)I"⟩
abbrev cX12_at : ByteArray := prog_14_method_12_code
def yX12_at : MethodName := ⟨RX12, "at", "(III)I"⟩
abbrev cX12_comes : ByteArray := prog_14_method_13_code
def yX12_comes : MethodName := ⟨RX12, "comes", "(IIII)I"⟩
abbrev cX12_isBeyond : ByteArray := prog_14_method_14_code
def yX12_isBeyond : MethodName := ⟨RX12, "isBeyond", "(J)Z"⟩
abbrev cX12_size : ByteArray := prog_14_method_15_code
def yX12_size : MethodName := ⟨RX12, "size", "(J)J"⟩
abbrev cX12_isTooMuch : ByteArray := prog_14_method_16_code
def yX12_isTooMuch : MethodName := ⟨RX12, "isTooMuch", "(JJ)Z"⟩
abbrev cX12_findRows : ByteArray := prog_14_method_17_code
def yX12_findRows : MethodName := ⟨RX12, "findRows", "(III)V"⟩
abbrev cX12_number : ByteArray := prog_14_method_18_code
def yX12_number : MethodName := ⟨RX12, "number", "(III)J"⟩
abbrev cX12_sum : ByteArray := prog_14_method_19_code
def yX12_sum : MethodName := ⟨RX12, "sum", "(III)J"⟩
abbrev cX12_shape : ByteArray := prog_14_method_20_code
def yX12_shape : MethodName := ⟨RX12, "shape", "(III)I"⟩
abbrev cX12_rest : ByteArray := prog_14_method_21_code
def yX12_rest : MethodName := ⟨RX12, "rest", "(IIII)I"⟩
abbrev cX12_product : ByteArray := prog_14_method_22_code
def yX12_product : MethodName := ⟨RX12, "product", "(II)J"⟩
abbrev cX12_times : ByteArray := prog_14_method_23_code
def yX12_times : MethodName := ⟨RX12, "times", "(IIII)J"⟩
abbrev cX12_undoes : ByteArray := prog_14_method_24_code
def yX12_undoes : MethodName := ⟨RX12, "undoes", "(III)I"⟩
abbrev cX12_back : ByteArray := prog_14_method_25_code
def yX12_back : MethodName := ⟨RX12, "back", "(III)J"⟩
abbrev cX12_isSize : ByteArray := prog_14_method_26_code
def yX12_isSize : MethodName := ⟨RX12, "isSize", "(I)Z"⟩
abbrev cX12_packed : ByteArray := prog_14_method_27_code
def yX12_packed : MethodName := ⟨RX12, "packed", "(I)I"⟩
abbrev cX12_unpack : ByteArray := prog_14_method_28_code
def yX12_unpack : MethodName := ⟨RX12, "unpack", "(II)Z"⟩
abbrev cX12_partsOf : ByteArray := prog_14_method_29_code
def yX12_partsOf : MethodName := ⟨RX12, "partsOf", "(I)I"⟩
abbrev cX12_turnParting : ByteArray := prog_14_method_30_code
def yX12_turnParting : MethodName := ⟨RX12, "turnParting", "(I)Z"⟩
abbrev cX12_parting : ByteArray := prog_14_method_31_code
def yX12_parting : MethodName := ⟨RX12, "parting", "(III)I"⟩
abbrev cX12_partRank : ByteArray := prog_14_method_32_code
def yX12_partRank : MethodName := ⟨RX12, "partRank", "(II)I"⟩
abbrev cX12_isOrder : ByteArray := prog_14_method_33_code
def yX12_isOrder : MethodName := ⟨RX12, "isOrder", "(I)Z"⟩
abbrev cX12_takeOrder : ByteArray := prog_14_method_34_code
def yX12_takeOrder : MethodName := ⟨RX12, "takeOrder", "(II)Z"⟩
abbrev cX12_beginOrder : ByteArray := prog_14_method_35_code
def yX12_beginOrder : MethodName := ⟨RX12, "beginOrder", "(I)V"⟩
abbrev cX12_turnOrder : ByteArray := prog_14_method_36_code
def yX12_turnOrder : MethodName := ⟨RX12, "turnOrder", "(I)Z"⟩
abbrev cX12_rings : ByteArray := prog_14_method_37_code
def yX12_rings : MethodName := ⟨RX12, "rings", "(I)I"⟩
abbrev cX12_markOf : ByteArray := prog_14_method_38_code
def yX12_markOf : MethodName := ⟨RX12, "markOf", "(II)I"⟩
abbrev cX12_orders : ByteArray := prog_14_method_39_code
def yX12_orders : MethodName := ⟨RX12, "orders", "(IIII)I"⟩
abbrev cX12_mark : ByteArray := prog_14_method_40_code
def yX12_mark : MethodName := ⟨RX12, "mark", "(III)I"⟩
abbrev cX12_rank : ByteArray := prog_14_method_41_code
def yX12_rank : MethodName := ⟨RX12, "rank", "(II)I"⟩
abbrev cX12_over : ByteArray := prog_14_method_42_code
def yX12_over : MethodName := ⟨RX12, "over", "(II)I"⟩
abbrev cX12_behind : ByteArray := prog_14_method_43_code
def yX12_behind : MethodName := ⟨RX12, "behind", "(III)I"⟩
abbrev cX12_isPolynomial : ByteArray := prog_14_method_44_code
def yX12_isPolynomial : MethodName := ⟨RX12, "isPolynomial", "(I)Z"⟩
abbrev cX12_base : ByteArray := prog_14_method_45_code
def yX12_base : MethodName := ⟨RX12, "base", "(II)I"⟩
abbrev cX12_set : ByteArray := prog_14_method_46_code
def yX12_set : MethodName := ⟨RX12, "set", "(IIJ)J"⟩
abbrev cX12_coefficient : ByteArray := prog_14_method_47_code
def yX12_coefficient : MethodName := ⟨RX12, "coefficient", "(II)J"⟩
abbrev cX12_degree : ByteArray := prog_14_method_48_code
def yX12_degree : MethodName := ⟨RX12, "degree", "(I)I"⟩
abbrev cX12_told : ByteArray := prog_14_method_49_code
def yX12_told : MethodName := ⟨RX12, "told", "(II)I"⟩
abbrev cX12_steps : ByteArray := prog_14_method_50_code
def yX12_steps : MethodName := ⟨RX12, "steps", "(I)J"⟩
abbrev cX12_timesInFalling : ByteArray := prog_14_method_51_code
def yX12_timesInFalling : MethodName := ⟨RX12, "timesInFalling", "(J)V"⟩
abbrev cX12_timesIn : ByteArray := prog_14_method_52_code
def yX12_timesIn : MethodName := ⟨RX12, "timesIn", "(IJ)V"⟩
abbrev cX12_clearMade : ByteArray := prog_14_method_53_code
def yX12_clearMade : MethodName := ⟨RX12, "clearMade", "()V"⟩
abbrev cX12_findFalling : ByteArray := prog_14_method_54_code
def yX12_findFalling : MethodName := ⟨RX12, "findFalling", "(I)V"⟩
abbrev cX12_areMade : ByteArray := prog_14_method_55_code
def yX12_areMade : MethodName := ⟨RX12, "areMade", "(II)Z"⟩
abbrev cX12_turn : ByteArray := prog_14_method_56_code
def yX12_turn : MethodName := ⟨RX12, "turn", "(II)I"⟩
abbrev cX12_valueAt : ByteArray := prog_14_method_57_code
def yX12_valueAt : MethodName := ⟨RX12, "valueAt", "(IJ)J"⟩
abbrev cX12_value : ByteArray := prog_14_method_58_code
def yX12_value : MethodName := ⟨RX12, "value", "(III)J"⟩
abbrev cX12_sumUp : ByteArray := prog_14_method_59_code
def yX12_sumUp : MethodName := ⟨RX12, "sumUp", "(I)I"⟩
abbrev cX12_root : ByteArray := prog_14_method_60_code
def yX12_root : MethodName := ⟨RX12, "root", "(II)I"⟩
abbrev cX12_count : ByteArray := prog_14_method_61_code
def yX12_count : MethodName := ⟨RX12, "count", "(I)I"⟩
def RJ6 : String := "java/lang/Integer"
def TJ6 : u_T := fun k => match k with
  | _ => ("", "", "", false)
def tyJ6 : Nat → FieldType := fun k => match k with
  | _ => .int
abbrev wsJ60 : List Cond := u_ws RJ6 TJ6 0
theorem nmJ6 : ∀ a, a < 0 → ∀ b, b < 0 → a ≠ b → (TJ6 a).2.1 ≠ (TJ6 b).2.1 := by decide +kernel
theorem tyJ6_ok : ∀ k, k < 0 → parseFieldDescriptor (TJ6 k).2.2.1 = some (tyJ6 k) := by decide +kernel
abbrev cJ6_bitCount_0f7a4 : ByteArray := prog_15_method_49_code
def yJ6_bitCount_0f7a4 : MethodName := ⟨RJ6, "bitCount", "(I)I"⟩
def RJ9 : String := "java/lang/Math"
def TJ9 : u_T := fun k => match k with
  | _ => ("", "", "", false)
def tyJ9 : Nat → FieldType := fun k => match k with
  | _ => .int
abbrev wsJ90 : List Cond := u_ws RJ9 TJ9 0
theorem nmJ9 : ∀ a, a < 0 → ∀ b, b < 0 → a ≠ b → (TJ9 a).2.1 ≠ (TJ9 b).2.1 := by decide +kernel
theorem tyJ9_ok : ∀ k, k < 0 → parseFieldDescriptor (TJ9 k).2.2.1 = some (tyJ9 k) := by decide +kernel
abbrev cJ9_floorMod_7cf53 : ByteArray := prog_16_method_50_code
def yJ9_floorMod_7cf53 : MethodName := ⟨RJ9, "floorMod", "(II)I"⟩
abbrev cJ9_abs_067f4 : ByteArray := prog_16_method_61_code
def yJ9_abs_067f4 : MethodName := ⟨RJ9, "abs", "(J)J"⟩
abbrev cJ9_max_7cf53 : ByteArray := prog_16_method_65_code
def yJ9_max_7cf53 : MethodName := ⟨RJ9, "max", "(II)I"⟩
abbrev cJ9_min_7cf53 : ByteArray := prog_16_method_69_code
def yJ9_min_7cf53 : MethodName := ⟨RJ9, "min", "(II)I"⟩
def RJ10 : String := "java/lang/System"
def TJ10 : u_T := fun k => match k with
  | _ => ("", "", "", false)
def tyJ10 : Nat → FieldType := fun k => match k with
  | _ => .int
abbrev wsJ100 : List Cond := u_ws RJ10 TJ10 0
theorem nmJ10 : ∀ a, a < 0 → ∀ b, b < 0 → a ≠ b → (TJ10 a).2.1 ≠ (TJ10 b).2.1 := by decide +kernel
theorem tyJ10_ok : ∀ k, k < 0 → parseFieldDescriptor (TJ10 k).2.2.1 = some (tyJ10 k) := by decide +kernel
def RJ7 : String := "java/util/Arrays"
def TJ7 : u_T := fun k => match k with
  | _ => ("", "", "", false)
def tyJ7 : Nat → FieldType := fun k => match k with
  | _ => .int
abbrev wsJ70 : List Cond := u_ws RJ7 TJ7 0
theorem nmJ7 : ∀ a, a < 0 → ∀ b, b < 0 → a ≠ b → (TJ7 a).2.1 ≠ (TJ7 b).2.1 := by decide +kernel
theorem tyJ7_ok : ∀ k, k < 0 → parseFieldDescriptor (TJ7 k).2.2.1 = some (tyJ7 k) := by decide +kernel
abbrev cJ7_fill_d0a16 : ByteArray := prog_18_method_101_code
def yJ7_fill_d0a16 : MethodName := ⟨RJ7, "fill", "([JJ)V"⟩
abbrev cJ7_fill_53178 : ByteArray := prog_18_method_103_code
def yJ7_fill_53178 : MethodName := ⟨RJ7, "fill", "([II)V"⟩
def RL : String := "CountTrianglesLaw"
abbrev cL_law : ByteArray := code
def yL_law : MethodName := ⟨RL, "law", "([I)Z"⟩
abbrev vwCl : List vw_C := [(RX0, TX0, 1), (RX1, TX1, 1), (RX2, TX2, 7), (RX3, TX3, 1), (RX4, TX4, 2), (RX6, TX6, 3), (RX7, TX7, 1), (RX8, TX8, 3), (RX9, TX9, 1), (RX10, TX10, 2), (RX11, TX11, 5), (RX12, TX12, 21)]
def UW : List Cond := lw_tbl.filter goodWord
theorem UW_good : ∀ w ∈ UW, (w.onTables && w.keeps) = true ∨ ∃ ty, w = .arrayClass ty := fun w hw => good_of_word (List.mem_filter.mp hw).2
theorem UW_tbl : ∀ w ∈ UW, w ∈ lw_tbl := fun w hw => (List.mem_filter.mp hw).1
theorem ut_1 {w : Cond} (h : w ∈ tables_1_1) (g : goodWord w = true) : w ∈ UW := List.mem_filter.mpr ⟨List.mem_append_right _ (List.mem_append_left _ h), g⟩
theorem ut_2 {w : Cond} (h : w ∈ tables_1_2) (g : goodWord w = true) : w ∈ UW := List.mem_filter.mpr ⟨List.mem_append_right _ (List.mem_append_right _ (List.mem_append_left _ h)), g⟩
theorem ut_3 {w : Cond} (h : w ∈ tables_1_3) (g : goodWord w = true) : w ∈ UW := List.mem_filter.mpr ⟨List.mem_append_right _ (List.mem_append_right _ (List.mem_append_right _ (List.mem_append_left _ h))), g⟩
theorem ut_4 {w : Cond} (h : w ∈ tables_1_4) (g : goodWord w = true) : w ∈ UW := List.mem_filter.mpr ⟨List.mem_append_right _ (List.mem_append_right _ (List.mem_append_right _ (List.mem_append_right _ (List.mem_append_left _ h)))), g⟩
theorem ut_5 {w : Cond} (h : w ∈ tables_1_5) (g : goodWord w = true) : w ∈ UW := List.mem_filter.mpr ⟨List.mem_append_right _ (List.mem_append_right _ (List.mem_append_right _ (List.mem_append_right _ (List.mem_append_right _ (h))))), g⟩
theorem u_1_0 : (Jvm.Cond.initialized "CountTrianglesLaw") ∈ UW := ut_1 (List.mem_of_getElem? (i := 0) rfl) rfl
theorem u_1_1 : (Jvm.Cond.initialized "CountTriangles") ∈ UW := ut_1 (List.mem_of_getElem? (i := 1) rfl) rfl
theorem u_1_2 : (Jvm.Cond.initialized "CountTriangles$Text") ∈ UW := ut_1 (List.mem_of_getElem? (i := 2) rfl) rfl
theorem u_1_3 : (Jvm.Cond.initialized "CountTriangles$Partings") ∈ UW := ut_1 (List.mem_of_getElem? (i := 3) rfl) rfl
theorem u_1_4 : (Jvm.Cond.initialized "CountTriangles$Orders") ∈ UW := ut_1 (List.mem_of_getElem? (i := 4) rfl) rfl
theorem u_1_5 : (Jvm.Cond.initialized "CountTriangles$Mark") ∈ UW := ut_1 (List.mem_of_getElem? (i := 5) rfl) rfl
theorem u_1_6 : (Jvm.Cond.initialized "CountTriangles$Rings") ∈ UW := ut_1 (List.mem_of_getElem? (i := 6) rfl) rfl
theorem u_1_7 : (Jvm.Cond.initialized "CountTriangles$Falls") ∈ UW := ut_1 (List.mem_of_getElem? (i := 7) rfl) rfl
theorem u_1_8 : (Jvm.Cond.initialized "CountTriangles$LesserPairs") ∈ UW := ut_1 (List.mem_of_getElem? (i := 8) rfl) rfl
theorem u_1_9 : (Jvm.Cond.initialized "CountTriangles$Heights") ∈ UW := ut_1 (List.mem_of_getElem? (i := 9) rfl) rfl
theorem u_1_10 : (Jvm.Cond.initialized "CountTriangles$LongestRise") ∈ UW := ut_1 (List.mem_of_getElem? (i := 10) rfl) rfl
theorem u_1_11 : (Jvm.Cond.initialized "CountTriangles$Law") ∈ UW := ut_1 (List.mem_of_getElem? (i := 11) rfl) rfl
theorem u_1_12 : (Jvm.Cond.initialized "CountTriangles$Polynomial") ∈ UW := ut_1 (List.mem_of_getElem? (i := 12) rfl) rfl
theorem u_1_13 : (Jvm.Cond.initialized "CountTrianglesModel") ∈ UW := ut_1 (List.mem_of_getElem? (i := 13) rfl) rfl
theorem u_1_14 : (Jvm.Cond.initialized "java/util/Arrays") ∈ UW := ut_1 (List.mem_of_getElem? (i := 14) rfl) rfl
theorem u_1_15 : (Jvm.Cond.initialized "java/lang/Math") ∈ UW := ut_1 (List.mem_of_getElem? (i := 15) rfl) rfl
theorem u_1_16 : (Jvm.Cond.initialized "java/lang/Integer") ∈ UW := ut_1 (List.mem_of_getElem? (i := 16) rfl) rfl
theorem u_1_17 : (Jvm.Cond.initialized "java/lang/System") ∈ UW := ut_1 (List.mem_of_getElem? (i := 17) rfl) rfl
theorem u_1_18 : (Jvm.Cond.classLink "CountTrianglesLaw" (7 : Nat) "CountTriangles") ∈ UW := ut_1 (List.mem_of_getElem? (i := 18) rfl) rfl
theorem u_1_19 : (Jvm.Cond.instantiable "CountTriangles" (5 : Nat)) ∈ UW := ut_1 (List.mem_of_getElem? (i := 19) rfl) rfl
theorem u_1_20 : (Jvm.Cond.methodLink "CountTrianglesLaw" (9 : Nat) ({ cls := "CountTriangles", name := "<init>", desc := "()V" } : Jvm.MethodName)) ∈ UW := ut_1 (List.mem_of_getElem? (i := 20) rfl) rfl
theorem u_1_21 : (Jvm.Cond.instanceMethod ({ cls := "CountTriangles", name := "<init>", desc := "()V" } : Jvm.MethodName)) ∈ UW := ut_1 (List.mem_of_getElem? (i := 21) rfl) rfl
theorem u_1_22 : (Jvm.Cond.code ({ cls := "CountTriangles", name := "<init>", desc := "()V" } : Jvm.MethodName) prog_1_method_1_code (2 : Nat) (Option.none : Option Jvm.ClassFile.FieldType)) ∈ UW := ut_1 (List.mem_of_getElem? (i := 22) rfl) rfl
theorem u_1_23 : (Jvm.Cond.methodLink "CountTriangles" (3 : Nat) ({ cls := "java/lang/Object", name := "<init>", desc := "()V" } : Jvm.MethodName)) ∈ UW := ut_1 (List.mem_of_getElem? (i := 23) rfl) rfl
theorem u_1_24 : (Jvm.Cond.instanceMethod ({ cls := "java/lang/Object", name := "<init>", desc := "()V" } : Jvm.MethodName)) ∈ UW := ut_1 (List.mem_of_getElem? (i := 24) rfl) rfl
theorem u_1_25 : (Jvm.Cond.code ({ cls := "java/lang/Object", name := "<init>", desc := "()V" } : Jvm.MethodName) object_method_1_code (1 : Nat) (Option.none : Option Jvm.ClassFile.FieldType)) ∈ UW := ut_1 (List.mem_of_getElem? (i := 25) rfl) rfl
theorem u_1_26 : (Jvm.Cond.classLink "CountTriangles" (9 : Nat) "CountTriangles$Text") ∈ UW := ut_1 (List.mem_of_getElem? (i := 26) rfl) rfl
theorem u_1_27 : (Jvm.Cond.instantiable "CountTriangles$Text" (2 : Nat)) ∈ UW := ut_1 (List.mem_of_getElem? (i := 27) rfl) rfl
theorem u_1_29 : (Jvm.Cond.instanceMethod ({ cls := "CountTriangles$Text", name := "<init>", desc := "()V" } : Jvm.MethodName)) ∈ UW := ut_1 (List.mem_of_getElem? (i := 29) rfl) rfl
theorem u_1_30 : (Jvm.Cond.code ({ cls := "CountTriangles$Text", name := "<init>", desc := "()V" } : Jvm.MethodName) prog_12_method_1_code (1 : Nat) (Option.none : Option Jvm.ClassFile.FieldType)) ∈ UW := ut_1 (List.mem_of_getElem? (i := 30) rfl) rfl
theorem u_1_31 : (Jvm.Cond.methodLink "CountTriangles$Text" (3 : Nat) ({ cls := "java/lang/Object", name := "<init>", desc := "()V" } : Jvm.MethodName)) ∈ UW := ut_1 (List.mem_of_getElem? (i := 31) rfl) rfl
theorem u_1_32 : (Jvm.Cond.fieldLink "CountTriangles$Text" (11 : Nat) "CountTriangles$Text" "bytes" "[B") ∈ UW := ut_1 (List.mem_of_getElem? (i := 32) rfl) rfl
theorem u_1_33 : (Jvm.Cond.fieldLink "CountTriangles$Text" (15 : Nat) "CountTriangles$Text" "length" "I") ∈ UW := ut_1 (List.mem_of_getElem? (i := 33) rfl) rfl
theorem u_1_34 : (Jvm.Cond.laysFinal "CountTriangles$Text" "CountTriangles$Text" "bytes" "[B") ∈ UW := ut_1 (List.mem_of_getElem? (i := 34) rfl) rfl
theorem u_1_36 : (Jvm.Cond.lays "CountTriangles$Text" "CountTriangles$Text" "length" "I") ∈ UW := ut_1 (List.mem_of_getElem? (i := 36) rfl) rfl
theorem u_1_39 : (Jvm.Cond.arrayClass Jvm.ClassFile.FieldType.byte) ∈ UW := ut_1 (List.mem_of_getElem? (i := 39) rfl) rfl
theorem u_1_40 : (Jvm.Cond.classLink "CountTriangles" (16 : Nat) "CountTriangles$Law") ∈ UW := ut_1 (List.mem_of_getElem? (i := 40) rfl) rfl
theorem u_1_42 : (Jvm.Cond.classLink "CountTriangles" (22 : Nat) "CountTriangles$Partings") ∈ UW := ut_1 (List.mem_of_getElem? (i := 42) rfl) rfl
theorem u_1_43 : (Jvm.Cond.instantiable "CountTriangles$Partings" (1 : Nat)) ∈ UW := ut_1 (List.mem_of_getElem? (i := 43) rfl) rfl
theorem u_1_45 : (Jvm.Cond.instanceMethod ({ cls := "CountTriangles$Partings", name := "<init>", desc := "()V" } : Jvm.MethodName)) ∈ UW := ut_1 (List.mem_of_getElem? (i := 45) rfl) rfl
theorem u_1_46 : (Jvm.Cond.code ({ cls := "CountTriangles$Partings", name := "<init>", desc := "()V" } : Jvm.MethodName) prog_9_method_1_code (1 : Nat) (Option.none : Option Jvm.ClassFile.FieldType)) ∈ UW := ut_1 (List.mem_of_getElem? (i := 46) rfl) rfl
theorem u_1_47 : (Jvm.Cond.methodLink "CountTriangles$Partings" (3 : Nat) ({ cls := "java/lang/Object", name := "<init>", desc := "()V" } : Jvm.MethodName)) ∈ UW := ut_1 (List.mem_of_getElem? (i := 47) rfl) rfl
theorem u_1_48 : (Jvm.Cond.fieldLink "CountTriangles$Partings" (9 : Nat) "CountTriangles$Partings" "ways" "[I") ∈ UW := ut_1 (List.mem_of_getElem? (i := 48) rfl) rfl
theorem u_1_49 : (Jvm.Cond.laysFinal "CountTriangles$Partings" "CountTriangles$Partings" "ways" "[I") ∈ UW := ut_1 (List.mem_of_getElem? (i := 49) rfl) rfl
theorem u_1_52 : (Jvm.Cond.arrayClass Jvm.ClassFile.FieldType.int) ∈ UW := ut_1 (List.mem_of_getElem? (i := 52) rfl) rfl
theorem u_1_53 : (Jvm.Cond.classLink "CountTriangles" (29 : Nat) "CountTriangles$Orders") ∈ UW := ut_1 (List.mem_of_getElem? (i := 53) rfl) rfl
theorem u_1_54 : (Jvm.Cond.instantiable "CountTriangles$Orders" (3 : Nat)) ∈ UW := ut_1 (List.mem_of_getElem? (i := 54) rfl) rfl
theorem u_1_55 : (Jvm.Cond.methodLink "CountTriangles" (31 : Nat) ({ cls := "CountTriangles$Orders", name := "<init>", desc := "()V" } : Jvm.MethodName)) ∈ UW := ut_1 (List.mem_of_getElem? (i := 55) rfl) rfl
theorem u_1_56 : (Jvm.Cond.instanceMethod ({ cls := "CountTriangles$Orders", name := "<init>", desc := "()V" } : Jvm.MethodName)) ∈ UW := ut_1 (List.mem_of_getElem? (i := 56) rfl) rfl
theorem u_1_57 : (Jvm.Cond.code ({ cls := "CountTriangles$Orders", name := "<init>", desc := "()V" } : Jvm.MethodName) prog_8_method_1_code (2 : Nat) (Option.none : Option Jvm.ClassFile.FieldType)) ∈ UW := ut_1 (List.mem_of_getElem? (i := 57) rfl) rfl
theorem u_1_58 : (Jvm.Cond.methodLink "CountTriangles$Orders" (3 : Nat) ({ cls := "java/lang/Object", name := "<init>", desc := "()V" } : Jvm.MethodName)) ∈ UW := ut_1 (List.mem_of_getElem? (i := 58) rfl) rfl
theorem u_1_59 : (Jvm.Cond.classLink "CountTriangles$Orders" (18 : Nat) "CountTriangles$Mark") ∈ UW := ut_1 (List.mem_of_getElem? (i := 59) rfl) rfl
theorem u_1_61 : (Jvm.Cond.classLink "CountTriangles$Orders" (24 : Nat) "CountTriangles$Rings") ∈ UW := ut_1 (List.mem_of_getElem? (i := 61) rfl) rfl
theorem u_1_62 : (Jvm.Cond.instantiable "CountTriangles$Rings" (1 : Nat)) ∈ UW := ut_1 (List.mem_of_getElem? (i := 62) rfl) rfl
theorem u_1_63 : (Jvm.Cond.methodLink "CountTriangles$Orders" (26 : Nat) ({ cls := "CountTriangles$Rings", name := "<init>", desc := "()V" } : Jvm.MethodName)) ∈ UW := ut_1 (List.mem_of_getElem? (i := 63) rfl) rfl
theorem u_1_64 : (Jvm.Cond.instanceMethod ({ cls := "CountTriangles$Rings", name := "<init>", desc := "()V" } : Jvm.MethodName)) ∈ UW := ut_1 (List.mem_of_getElem? (i := 64) rfl) rfl
theorem u_1_65 : (Jvm.Cond.code ({ cls := "CountTriangles$Rings", name := "<init>", desc := "()V" } : Jvm.MethodName) prog_11_method_1_code (3 : Nat) (Option.none : Option Jvm.ClassFile.FieldType)) ∈ UW := ut_1 (List.mem_of_getElem? (i := 65) rfl) rfl
theorem u_1_67 : (Jvm.Cond.instanceMethod ({ cls := "CountTriangles$Mark", name := "<init>", desc := "()V" } : Jvm.MethodName)) ∈ UW := ut_1 (List.mem_of_getElem? (i := 67) rfl) rfl
theorem u_1_68 : (Jvm.Cond.code ({ cls := "CountTriangles$Mark", name := "<init>", desc := "()V" } : Jvm.MethodName) prog_7_method_1_code (1 : Nat) (Option.none : Option Jvm.ClassFile.FieldType)) ∈ UW := ut_1 (List.mem_of_getElem? (i := 68) rfl) rfl
theorem u_1_69 : (Jvm.Cond.methodLink "CountTriangles$Mark" (1 : Nat) ({ cls := "java/lang/Object", name := "<init>", desc := "()V" } : Jvm.MethodName)) ∈ UW := ut_1 (List.mem_of_getElem? (i := 69) rfl) rfl
theorem u_1_70 : (Jvm.Cond.methodLink "CountTriangles$Rings" (15 : Nat) ({ cls := "CountTriangles$Rings", name := "ways", desc := "(III)I" } : Jvm.MethodName)) ∈ UW := ut_1 (List.mem_of_getElem? (i := 70) rfl) rfl
theorem u_1_71 : (Jvm.Cond.instanceMethod ({ cls := "CountTriangles$Rings", name := "ways", desc := "(III)I" } : Jvm.MethodName)) ∈ UW := ut_1 (List.mem_of_getElem? (i := 71) rfl) rfl
theorem u_1_72 : (Jvm.Cond.selects "CountTriangles$Rings" ({ cls := "CountTriangles$Rings", name := "ways", desc := "(III)I" } : Jvm.MethodName) ({ cls := "CountTriangles$Rings", name := "ways", desc := "(III)I" } : Jvm.MethodName)) ∈ UW := ut_1 (List.mem_of_getElem? (i := 72) rfl) rfl
theorem u_1_73 : (Jvm.Cond.code ({ cls := "CountTriangles$Rings", name := "ways", desc := "(III)I" } : Jvm.MethodName) prog_11_method_5_code (4 : Nat) (Option.some Jvm.ClassFile.FieldType.int)) ∈ UW := ut_1 (List.mem_of_getElem? (i := 73) rfl) rfl
theorem u_1_75 : (Jvm.Cond.static ({ cls := "CountTriangles", name := "within", desc := "(III)Z" } : Jvm.MethodName)) ∈ UW := ut_1 (List.mem_of_getElem? (i := 75) rfl) rfl
theorem u_1_76 : (Jvm.Cond.code ({ cls := "CountTriangles", name := "within", desc := "(III)Z" } : Jvm.MethodName) prog_1_method_35_code (3 : Nat) (Option.some Jvm.ClassFile.FieldType.boolean)) ∈ UW := ut_1 (List.mem_of_getElem? (i := 76) rfl) rfl
theorem u_1_77 : (Jvm.Cond.fieldLink "CountTriangles$Rings" (9 : Nat) "CountTriangles$Rings" "table" "[I") ∈ UW := ut_1 (List.mem_of_getElem? (i := 77) rfl) rfl
theorem u_1_78 : (Jvm.Cond.laysFinal "CountTriangles$Rings" "CountTriangles$Rings" "table" "[I") ∈ UW := ut_1 (List.mem_of_getElem? (i := 78) rfl) rfl
theorem u_1_81 : (Jvm.Cond.classLink "CountTriangles$Orders" (27 : Nat) "CountTriangles$Falls") ∈ UW := ut_1 (List.mem_of_getElem? (i := 81) rfl) rfl
theorem u_1_82 : (Jvm.Cond.instantiable "CountTriangles$Falls" (1 : Nat)) ∈ UW := ut_1 (List.mem_of_getElem? (i := 82) rfl) rfl
theorem u_1_83 : (Jvm.Cond.methodLink "CountTriangles$Orders" (29 : Nat) ({ cls := "CountTriangles$Falls", name := "<init>", desc := "()V" } : Jvm.MethodName)) ∈ UW := ut_1 (List.mem_of_getElem? (i := 83) rfl) rfl
theorem u_1_84 : (Jvm.Cond.instanceMethod ({ cls := "CountTriangles$Falls", name := "<init>", desc := "()V" } : Jvm.MethodName)) ∈ UW := ut_1 (List.mem_of_getElem? (i := 84) rfl) rfl
theorem u_1_85 : (Jvm.Cond.code ({ cls := "CountTriangles$Falls", name := "<init>", desc := "()V" } : Jvm.MethodName) prog_2_method_1_code (4 : Nat) (Option.none : Option Jvm.ClassFile.FieldType)) ∈ UW := ut_1 (List.mem_of_getElem? (i := 85) rfl) rfl
theorem u_1_87 : (Jvm.Cond.methodLink "CountTriangles$Falls" (15 : Nat) ({ cls := "CountTriangles$Falls", name := "waysByNext", desc := "(III)I" } : Jvm.MethodName)) ∈ UW := ut_1 (List.mem_of_getElem? (i := 87) rfl) rfl
theorem u_1_89 : (Jvm.Cond.instanceMethod ({ cls := "CountTriangles$Falls", name := "waysByNext", desc := "(III)I" } : Jvm.MethodName)) ∈ UW := ut_1 (List.mem_of_getElem? (i := 89) rfl) rfl
theorem u_1_90 : (Jvm.Cond.code ({ cls := "CountTriangles$Falls", name := "waysByNext", desc := "(III)I" } : Jvm.MethodName) prog_2_method_2_code (6 : Nat) (Option.some Jvm.ClassFile.FieldType.int)) ∈ UW := ut_1 (List.mem_of_getElem? (i := 90) rfl) rfl
theorem u_1_91 : (Jvm.Cond.methodLink "CountTriangles$Falls" (19 : Nat) ({ cls := "CountTriangles$Falls", name := "ways", desc := "(III)I" } : Jvm.MethodName)) ∈ UW := ut_1 (List.mem_of_getElem? (i := 91) rfl) rfl
theorem u_1_92 : (Jvm.Cond.instanceMethod ({ cls := "CountTriangles$Falls", name := "ways", desc := "(III)I" } : Jvm.MethodName)) ∈ UW := ut_1 (List.mem_of_getElem? (i := 92) rfl) rfl
theorem u_1_93 : (Jvm.Cond.selects "CountTriangles$Falls" ({ cls := "CountTriangles$Falls", name := "ways", desc := "(III)I" } : Jvm.MethodName) ({ cls := "CountTriangles$Falls", name := "ways", desc := "(III)I" } : Jvm.MethodName)) ∈ UW := ut_1 (List.mem_of_getElem? (i := 93) rfl) rfl
theorem u_1_94 : (Jvm.Cond.code ({ cls := "CountTriangles$Falls", name := "ways", desc := "(III)I" } : Jvm.MethodName) prog_2_method_6_code (4 : Nat) (Option.some Jvm.ClassFile.FieldType.int)) ∈ UW := ut_1 (List.mem_of_getElem? (i := 94) rfl) rfl
theorem u_1_96 : (Jvm.Cond.fieldLink "CountTriangles$Falls" (9 : Nat) "CountTriangles$Falls" "table" "[I") ∈ UW := ut_1 (List.mem_of_getElem? (i := 96) rfl) rfl
theorem u_1_97 : (Jvm.Cond.laysFinal "CountTriangles$Falls" "CountTriangles$Falls" "table" "[I") ∈ UW := ut_1 (List.mem_of_getElem? (i := 97) rfl) rfl
theorem u_1_100 : (Jvm.Cond.classLink "CountTriangles$Orders" (30 : Nat) "CountTriangles$LesserPairs") ∈ UW := ut_1 (List.mem_of_getElem? (i := 100) rfl) rfl
theorem u_1_101 : (Jvm.Cond.instantiable "CountTriangles$LesserPairs" (1 : Nat)) ∈ UW := ut_1 (List.mem_of_getElem? (i := 101) rfl) rfl
theorem u_1_102 : (Jvm.Cond.methodLink "CountTriangles$Orders" (32 : Nat) ({ cls := "CountTriangles$LesserPairs", name := "<init>", desc := "()V" } : Jvm.MethodName)) ∈ UW := ut_1 (List.mem_of_getElem? (i := 102) rfl) rfl
theorem u_1_103 : (Jvm.Cond.instanceMethod ({ cls := "CountTriangles$LesserPairs", name := "<init>", desc := "()V" } : Jvm.MethodName)) ∈ UW := ut_1 (List.mem_of_getElem? (i := 103) rfl) rfl
theorem u_1_104 : (Jvm.Cond.code ({ cls := "CountTriangles$LesserPairs", name := "<init>", desc := "()V" } : Jvm.MethodName) prog_5_method_1_code (3 : Nat) (Option.none : Option Jvm.ClassFile.FieldType)) ∈ UW := ut_1 (List.mem_of_getElem? (i := 104) rfl) rfl
theorem u_1_106 : (Jvm.Cond.methodLink "CountTriangles$LesserPairs" (15 : Nat) ({ cls := "CountTriangles$LesserPairs", name := "waysByNext", desc := "(II)I" } : Jvm.MethodName)) ∈ UW := ut_1 (List.mem_of_getElem? (i := 106) rfl) rfl
theorem u_1_108 : (Jvm.Cond.instanceMethod ({ cls := "CountTriangles$LesserPairs", name := "waysByNext", desc := "(II)I" } : Jvm.MethodName)) ∈ UW := ut_1 (List.mem_of_getElem? (i := 108) rfl) rfl
theorem u_1_109 : (Jvm.Cond.code ({ cls := "CountTriangles$LesserPairs", name := "waysByNext", desc := "(II)I" } : Jvm.MethodName) prog_5_method_2_code (5 : Nat) (Option.some Jvm.ClassFile.FieldType.int)) ∈ UW := ut_1 (List.mem_of_getElem? (i := 109) rfl) rfl
theorem u_1_110 : (Jvm.Cond.methodLink "CountTriangles$LesserPairs" (19 : Nat) ({ cls := "CountTriangles$LesserPairs", name := "ways", desc := "(III)I" } : Jvm.MethodName)) ∈ UW := ut_1 (List.mem_of_getElem? (i := 110) rfl) rfl
theorem u_1_111 : (Jvm.Cond.instanceMethod ({ cls := "CountTriangles$LesserPairs", name := "ways", desc := "(III)I" } : Jvm.MethodName)) ∈ UW := ut_1 (List.mem_of_getElem? (i := 111) rfl) rfl
theorem u_1_112 : (Jvm.Cond.selects "CountTriangles$LesserPairs" ({ cls := "CountTriangles$LesserPairs", name := "ways", desc := "(III)I" } : Jvm.MethodName) ({ cls := "CountTriangles$LesserPairs", name := "ways", desc := "(III)I" } : Jvm.MethodName)) ∈ UW := ut_1 (List.mem_of_getElem? (i := 112) rfl) rfl
theorem u_1_113 : (Jvm.Cond.code ({ cls := "CountTriangles$LesserPairs", name := "ways", desc := "(III)I" } : Jvm.MethodName) prog_5_method_6_code (4 : Nat) (Option.some Jvm.ClassFile.FieldType.int)) ∈ UW := ut_1 (List.mem_of_getElem? (i := 113) rfl) rfl
theorem u_1_115 : (Jvm.Cond.fieldLink "CountTriangles$LesserPairs" (9 : Nat) "CountTriangles$LesserPairs" "table" "[I") ∈ UW := ut_1 (List.mem_of_getElem? (i := 115) rfl) rfl
theorem u_1_116 : (Jvm.Cond.laysFinal "CountTriangles$LesserPairs" "CountTriangles$LesserPairs" "table" "[I") ∈ UW := ut_1 (List.mem_of_getElem? (i := 116) rfl) rfl
theorem u_1_119 : (Jvm.Cond.classLink "CountTriangles$Orders" (33 : Nat) "CountTriangles$Heights") ∈ UW := ut_1 (List.mem_of_getElem? (i := 119) rfl) rfl
theorem u_1_120 : (Jvm.Cond.instantiable "CountTriangles$Heights" (1 : Nat)) ∈ UW := ut_1 (List.mem_of_getElem? (i := 120) rfl) rfl
theorem u_1_121 : (Jvm.Cond.methodLink "CountTriangles$Orders" (35 : Nat) ({ cls := "CountTriangles$Heights", name := "<init>", desc := "(LCountTriangles$Rings;)V" } : Jvm.MethodName)) ∈ UW := ut_1 (List.mem_of_getElem? (i := 121) rfl) rfl
theorem u_1_122 : (Jvm.Cond.instanceMethod ({ cls := "CountTriangles$Heights", name := "<init>", desc := "(LCountTriangles$Rings;)V" } : Jvm.MethodName)) ∈ UW := ut_1 (List.mem_of_getElem? (i := 122) rfl) rfl
theorem u_1_123 : (Jvm.Cond.code ({ cls := "CountTriangles$Heights", name := "<init>", desc := "(LCountTriangles$Rings;)V" } : Jvm.MethodName) prog_3_method_1_code (2 : Nat) (Option.none : Option Jvm.ClassFile.FieldType)) ∈ UW := ut_1 (List.mem_of_getElem? (i := 123) rfl) rfl
theorem u_1_125 : (Jvm.Cond.fieldLink "CountTriangles$Heights" (9 : Nat) "CountTriangles$Heights" "rings" "LCountTriangles$Rings;") ∈ UW := ut_1 (List.mem_of_getElem? (i := 125) rfl) rfl
theorem u_1_126 : (Jvm.Cond.laysFinal "CountTriangles$Heights" "CountTriangles$Heights" "rings" "LCountTriangles$Rings;") ∈ UW := ut_1 (List.mem_of_getElem? (i := 126) rfl) rfl
theorem u_1_129 : (Jvm.Cond.classLink "CountTriangles$Orders" (38 : Nat) "CountTriangles$LongestRise") ∈ UW := ut_1 (List.mem_of_getElem? (i := 129) rfl) rfl
theorem u_1_130 : (Jvm.Cond.instantiable "CountTriangles$LongestRise" (2 : Nat)) ∈ UW := ut_1 (List.mem_of_getElem? (i := 130) rfl) rfl
theorem u_1_132 : (Jvm.Cond.instanceMethod ({ cls := "CountTriangles$LongestRise", name := "<init>", desc := "()V" } : Jvm.MethodName)) ∈ UW := ut_1 (List.mem_of_getElem? (i := 132) rfl) rfl
theorem u_1_133 : (Jvm.Cond.code ({ cls := "CountTriangles$LongestRise", name := "<init>", desc := "()V" } : Jvm.MethodName) prog_6_method_1_code (1 : Nat) (Option.none : Option Jvm.ClassFile.FieldType)) ∈ UW := ut_1 (List.mem_of_getElem? (i := 133) rfl) rfl
theorem u_1_135 : (Jvm.Cond.fieldLink "CountTriangles$LongestRise" (11 : Nat) "CountTriangles$LongestRise" "table" "[I") ∈ UW := ut_1 (List.mem_of_getElem? (i := 135) rfl) rfl
theorem u_1_136 : (Jvm.Cond.fieldLink "CountTriangles$LongestRise" (15 : Nat) "CountTriangles$LongestRise" "wanted" "I") ∈ UW := ut_1 (List.mem_of_getElem? (i := 136) rfl) rfl
theorem u_1_137 : (Jvm.Cond.laysFinal "CountTriangles$LongestRise" "CountTriangles$LongestRise" "table" "[I") ∈ UW := ut_1 (List.mem_of_getElem? (i := 137) rfl) rfl
theorem u_1_139 : (Jvm.Cond.lays "CountTriangles$LongestRise" "CountTriangles$LongestRise" "wanted" "I") ∈ UW := ut_1 (List.mem_of_getElem? (i := 139) rfl) rfl
theorem u_1_142 : (Jvm.Cond.fieldLink "CountTriangles$Orders" (9 : Nat) "CountTriangles$Orders" "row" "[I") ∈ UW := ut_1 (List.mem_of_getElem? (i := 142) rfl) rfl
theorem u_1_143 : (Jvm.Cond.fieldLink "CountTriangles$Orders" (15 : Nat) "CountTriangles$Orders" "source" "[I") ∈ UW := ut_1 (List.mem_of_getElem? (i := 143) rfl) rfl
theorem u_1_144 : (Jvm.Cond.fieldLink "CountTriangles$Orders" (20 : Nat) "CountTriangles$Orders" "marks" "[LCountTriangles$Mark;") ∈ UW := ut_1 (List.mem_of_getElem? (i := 144) rfl) rfl
theorem u_1_145 : (Jvm.Cond.laysFinal "CountTriangles$Orders" "CountTriangles$Orders" "row" "[I") ∈ UW := ut_1 (List.mem_of_getElem? (i := 145) rfl) rfl
theorem u_1_147 : (Jvm.Cond.laysFinal "CountTriangles$Orders" "CountTriangles$Orders" "source" "[I") ∈ UW := ut_1 (List.mem_of_getElem? (i := 147) rfl) rfl
theorem u_1_149 : (Jvm.Cond.laysFinal "CountTriangles$Orders" "CountTriangles$Orders" "marks" "[LCountTriangles$Mark;") ∈ UW := ut_1 (List.mem_of_getElem? (i := 149) rfl) rfl
theorem u_1_152 : (Jvm.Cond.classLink "CountTriangles" (36 : Nat) "CountTriangles$Polynomial") ∈ UW := ut_1 (List.mem_of_getElem? (i := 152) rfl) rfl
theorem u_1_154 : (Jvm.Cond.instantiable "CountTriangles$Law" (7 : Nat)) ∈ UW := ut_1 (List.mem_of_getElem? (i := 154) rfl) rfl
theorem u_1_155 : (Jvm.Cond.methodLink "CountTriangles" (42 : Nat) ({ cls := "CountTriangles$Law", name := "<init>", desc := "()V" } : Jvm.MethodName)) ∈ UW := ut_1 (List.mem_of_getElem? (i := 155) rfl) rfl
theorem u_1_156 : (Jvm.Cond.instanceMethod ({ cls := "CountTriangles$Law", name := "<init>", desc := "()V" } : Jvm.MethodName)) ∈ UW := ut_1 (List.mem_of_getElem? (i := 156) rfl) rfl
theorem u_1_157 : (Jvm.Cond.code ({ cls := "CountTriangles$Law", name := "<init>", desc := "()V" } : Jvm.MethodName) prog_4_method_1_code (1 : Nat) (Option.none : Option Jvm.ClassFile.FieldType)) ∈ UW := ut_1 (List.mem_of_getElem? (i := 157) rfl) rfl
theorem u_1_158 : (Jvm.Cond.methodLink "CountTriangles$Law" (5 : Nat) ({ cls := "java/lang/Object", name := "<init>", desc := "()V" } : Jvm.MethodName)) ∈ UW := ut_1 (List.mem_of_getElem? (i := 158) rfl) rfl
theorem u_1_159 : (Jvm.Cond.fieldLink "CountTriangles$Law" (11 : Nat) "CountTriangles$Law" "left" "[I") ∈ UW := ut_1 (List.mem_of_getElem? (i := 159) rfl) rfl
theorem u_1_160 : (Jvm.Cond.fieldLink "CountTriangles$Law" (17 : Nat) "CountTriangles$Law" "above" "[I") ∈ UW := ut_1 (List.mem_of_getElem? (i := 160) rfl) rfl
theorem u_1_161 : (Jvm.Cond.fieldLink "CountTriangles$Law" (20 : Nat) "CountTriangles$Law" "numbers" "[J") ∈ UW := ut_1 (List.mem_of_getElem? (i := 161) rfl) rfl
theorem u_1_162 : (Jvm.Cond.fieldLink "CountTriangles$Law" (24 : Nat) "CountTriangles$Law" "column" "[J") ∈ UW := ut_1 (List.mem_of_getElem? (i := 162) rfl) rfl
theorem u_1_163 : (Jvm.Cond.fieldLink "CountTriangles$Law" (27 : Nat) "CountTriangles$Law" "rests" "[I") ∈ UW := ut_1 (List.mem_of_getElem? (i := 163) rfl) rfl
theorem u_1_164 : (Jvm.Cond.fieldLink "CountTriangles$Law" (30 : Nat) "CountTriangles$Law" "top" "I") ∈ UW := ut_1 (List.mem_of_getElem? (i := 164) rfl) rfl
theorem u_1_165 : (Jvm.Cond.fieldLink "CountTriangles$Law" (34 : Nat) "CountTriangles$Law" "items" "I") ∈ UW := ut_1 (List.mem_of_getElem? (i := 165) rfl) rfl
theorem u_1_166 : (Jvm.Cond.laysFinal "CountTriangles$Law" "CountTriangles$Law" "left" "[I") ∈ UW := ut_1 (List.mem_of_getElem? (i := 166) rfl) rfl
theorem u_1_168 : (Jvm.Cond.laysFinal "CountTriangles$Law" "CountTriangles$Law" "above" "[I") ∈ UW := ut_1 (List.mem_of_getElem? (i := 168) rfl) rfl
theorem u_1_170 : (Jvm.Cond.laysFinal "CountTriangles$Law" "CountTriangles$Law" "numbers" "[J") ∈ UW := ut_1 (List.mem_of_getElem? (i := 170) rfl) rfl
theorem u_1_172 : (Jvm.Cond.laysFinal "CountTriangles$Law" "CountTriangles$Law" "column" "[J") ∈ UW := ut_1 (List.mem_of_getElem? (i := 172) rfl) rfl
theorem u_1_174 : (Jvm.Cond.laysFinal "CountTriangles$Law" "CountTriangles$Law" "rests" "[I") ∈ UW := ut_1 (List.mem_of_getElem? (i := 174) rfl) rfl
theorem u_1_176 : (Jvm.Cond.lays "CountTriangles$Law" "CountTriangles$Law" "top" "I") ∈ UW := ut_1 (List.mem_of_getElem? (i := 176) rfl) rfl
theorem u_1_178 : (Jvm.Cond.lays "CountTriangles$Law" "CountTriangles$Law" "items" "I") ∈ UW := ut_1 (List.mem_of_getElem? (i := 178) rfl) rfl
theorem u_1_181 : (Jvm.Cond.arrayClass Jvm.ClassFile.FieldType.long) ∈ UW := ut_1 (List.mem_of_getElem? (i := 181) rfl) rfl
theorem u_1_182 : (Jvm.Cond.instantiable "CountTriangles$Polynomial" (3 : Nat)) ∈ UW := ut_1 (List.mem_of_getElem? (i := 182) rfl) rfl
theorem u_1_184 : (Jvm.Cond.instanceMethod ({ cls := "CountTriangles$Polynomial", name := "<init>", desc := "()V" } : Jvm.MethodName)) ∈ UW := ut_1 (List.mem_of_getElem? (i := 184) rfl) rfl
theorem u_1_185 : (Jvm.Cond.code ({ cls := "CountTriangles$Polynomial", name := "<init>", desc := "()V" } : Jvm.MethodName) prog_10_method_1_code (1 : Nat) (Option.none : Option Jvm.ClassFile.FieldType)) ∈ UW := ut_1 (List.mem_of_getElem? (i := 185) rfl) rfl
theorem u_1_186 : (Jvm.Cond.methodLink "CountTriangles$Polynomial" (3 : Nat) ({ cls := "java/lang/Object", name := "<init>", desc := "()V" } : Jvm.MethodName)) ∈ UW := ut_1 (List.mem_of_getElem? (i := 186) rfl) rfl
theorem u_1_187 : (Jvm.Cond.fieldLink "CountTriangles$Polynomial" (9 : Nat) "CountTriangles$Polynomial" "coefficients" "[J") ∈ UW := ut_1 (List.mem_of_getElem? (i := 187) rfl) rfl
theorem u_1_188 : (Jvm.Cond.fieldLink "CountTriangles$Polynomial" (15 : Nat) "CountTriangles$Polynomial" "room" "[J") ∈ UW := ut_1 (List.mem_of_getElem? (i := 188) rfl) rfl
theorem u_1_189 : (Jvm.Cond.fieldLink "CountTriangles$Polynomial" (18 : Nat) "CountTriangles$Polynomial" "base" "I") ∈ UW := ut_1 (List.mem_of_getElem? (i := 189) rfl) rfl
theorem u_1_190 : (Jvm.Cond.laysFinal "CountTriangles$Polynomial" "CountTriangles$Polynomial" "coefficients" "[J") ∈ UW := ut_1 (List.mem_of_getElem? (i := 190) rfl) rfl
theorem u_1_192 : (Jvm.Cond.laysFinal "CountTriangles$Polynomial" "CountTriangles$Polynomial" "room" "[J") ∈ UW := ut_1 (List.mem_of_getElem? (i := 192) rfl) rfl
theorem u_1_194 : (Jvm.Cond.lays "CountTriangles$Polynomial" "CountTriangles$Polynomial" "base" "I") ∈ UW := ut_1 (List.mem_of_getElem? (i := 194) rfl) rfl
theorem u_1_197 : (Jvm.Cond.fieldLink "CountTriangles" (12 : Nat) "CountTriangles" "text" "LCountTriangles$Text;") ∈ UW := ut_1 (List.mem_of_getElem? (i := 197) rfl) rfl
theorem u_1_198 : (Jvm.Cond.fieldLink "CountTriangles" (18 : Nat) "CountTriangles" "laws" "[LCountTriangles$Law;") ∈ UW := ut_1 (List.mem_of_getElem? (i := 198) rfl) rfl
theorem u_1_199 : (Jvm.Cond.fieldLink "CountTriangles" (25 : Nat) "CountTriangles" "partings" "LCountTriangles$Partings;") ∈ UW := ut_1 (List.mem_of_getElem? (i := 199) rfl) rfl
theorem u_1_200 : (Jvm.Cond.fieldLink "CountTriangles" (32 : Nat) "CountTriangles" "orders" "LCountTriangles$Orders;") ∈ UW := ut_1 (List.mem_of_getElem? (i := 200) rfl) rfl
theorem u_1_201 : (Jvm.Cond.fieldLink "CountTriangles" (38 : Nat) "CountTriangles" "polynomials" "[LCountTriangles$Polynomial;") ∈ UW := ut_1 (List.mem_of_getElem? (i := 201) rfl) rfl
theorem u_1_202 : (Jvm.Cond.laysFinal "CountTriangles" "CountTriangles" "text" "LCountTriangles$Text;") ∈ UW := ut_1 (List.mem_of_getElem? (i := 202) rfl) rfl
theorem u_1_204 : (Jvm.Cond.laysFinal "CountTriangles" "CountTriangles" "laws" "[LCountTriangles$Law;") ∈ UW := ut_1 (List.mem_of_getElem? (i := 204) rfl) rfl
theorem u_1_206 : (Jvm.Cond.laysFinal "CountTriangles" "CountTriangles" "partings" "LCountTriangles$Partings;") ∈ UW := ut_1 (List.mem_of_getElem? (i := 206) rfl) rfl
theorem u_1_208 : (Jvm.Cond.laysFinal "CountTriangles" "CountTriangles" "orders" "LCountTriangles$Orders;") ∈ UW := ut_1 (List.mem_of_getElem? (i := 208) rfl) rfl
theorem u_1_210 : (Jvm.Cond.laysFinal "CountTriangles" "CountTriangles" "polynomials" "[LCountTriangles$Polynomial;") ∈ UW := ut_1 (List.mem_of_getElem? (i := 210) rfl) rfl
theorem u_1_213 : (Jvm.Cond.methodLink "CountTrianglesLaw" (15 : Nat) ({ cls := "CountTriangles", name := "write", desc := "(IJ)I" } : Jvm.MethodName)) ∈ UW := ut_1 (List.mem_of_getElem? (i := 213) rfl) rfl
theorem u_1_214 : (Jvm.Cond.instanceMethod ({ cls := "CountTriangles", name := "write", desc := "(IJ)I" } : Jvm.MethodName)) ∈ UW := ut_1 (List.mem_of_getElem? (i := 214) rfl) rfl
theorem u_1_215 : (Jvm.Cond.selects "CountTriangles" ({ cls := "CountTriangles", name := "write", desc := "(IJ)I" } : Jvm.MethodName) ({ cls := "CountTriangles", name := "write", desc := "(IJ)I" } : Jvm.MethodName)) ∈ UW := ut_1 (List.mem_of_getElem? (i := 215) rfl) rfl
theorem u_1_216 : (Jvm.Cond.code ({ cls := "CountTriangles", name := "write", desc := "(IJ)I" } : Jvm.MethodName) prog_1_method_2_code (4 : Nat) (Option.some Jvm.ClassFile.FieldType.int)) ∈ UW := ut_1 (List.mem_of_getElem? (i := 216) rfl) rfl
theorem u_1_217 : (Jvm.Cond.methodLink "CountTriangles" (44 : Nat) ({ cls := "CountTriangles", name := "within", desc := "(III)Z" } : Jvm.MethodName)) ∈ UW := ut_1 (List.mem_of_getElem? (i := 217) rfl) rfl
theorem u_1_218 : (Jvm.Cond.methodLink "CountTriangles" (48 : Nat) ({ cls := "CountTriangles$Text", name := "append", desc := "(IJ)Z" } : Jvm.MethodName)) ∈ UW := ut_1 (List.mem_of_getElem? (i := 218) rfl) rfl
theorem u_1_219 : (Jvm.Cond.instanceMethod ({ cls := "CountTriangles$Text", name := "append", desc := "(IJ)Z" } : Jvm.MethodName)) ∈ UW := ut_1 (List.mem_of_getElem? (i := 219) rfl) rfl
theorem u_1_220 : (Jvm.Cond.selects "CountTriangles$Text" ({ cls := "CountTriangles$Text", name := "append", desc := "(IJ)Z" } : Jvm.MethodName) ({ cls := "CountTriangles$Text", name := "append", desc := "(IJ)Z" } : Jvm.MethodName)) ∈ UW := ut_1 (List.mem_of_getElem? (i := 220) rfl) rfl
theorem u_1_221 : (Jvm.Cond.code ({ cls := "CountTriangles$Text", name := "append", desc := "(IJ)Z" } : Jvm.MethodName) prog_12_method_4_code (5 : Nat) (Option.some Jvm.ClassFile.FieldType.boolean)) ∈ UW := ut_1 (List.mem_of_getElem? (i := 221) rfl) rfl
theorem u_1_222 : (Jvm.Cond.methodLink "CountTriangles" (52 : Nat) ({ cls := "CountTriangles$Text", name := "length", desc := "()I" } : Jvm.MethodName)) ∈ UW := ut_1 (List.mem_of_getElem? (i := 222) rfl) rfl
theorem u_1_223 : (Jvm.Cond.instanceMethod ({ cls := "CountTriangles$Text", name := "length", desc := "()I" } : Jvm.MethodName)) ∈ UW := ut_1 (List.mem_of_getElem? (i := 223) rfl) rfl
theorem u_1_224 : (Jvm.Cond.selects "CountTriangles$Text" ({ cls := "CountTriangles$Text", name := "length", desc := "()I" } : Jvm.MethodName) ({ cls := "CountTriangles$Text", name := "length", desc := "()I" } : Jvm.MethodName)) ∈ UW := ut_1 (List.mem_of_getElem? (i := 224) rfl) rfl
theorem u_1_225 : (Jvm.Cond.code ({ cls := "CountTriangles$Text", name := "length", desc := "()I" } : Jvm.MethodName) prog_12_method_2_code (1 : Nat) (Option.some Jvm.ClassFile.FieldType.int)) ∈ UW := ut_1 (List.mem_of_getElem? (i := 225) rfl) rfl
theorem u_1_226 : (Jvm.Cond.methodLink "CountTrianglesLaw" (20 : Nat) ({ cls := "CountTriangles", name := "wipe", desc := "()I" } : Jvm.MethodName)) ∈ UW := ut_1 (List.mem_of_getElem? (i := 226) rfl) rfl
theorem u_1_227 : (Jvm.Cond.instanceMethod ({ cls := "CountTriangles", name := "wipe", desc := "()I" } : Jvm.MethodName)) ∈ UW := ut_1 (List.mem_of_getElem? (i := 227) rfl) rfl
theorem u_1_228 : (Jvm.Cond.selects "CountTriangles" ({ cls := "CountTriangles", name := "wipe", desc := "()I" } : Jvm.MethodName) ({ cls := "CountTriangles", name := "wipe", desc := "()I" } : Jvm.MethodName)) ∈ UW := ut_1 (List.mem_of_getElem? (i := 228) rfl) rfl
theorem u_1_229 : (Jvm.Cond.code ({ cls := "CountTriangles", name := "wipe", desc := "()I" } : Jvm.MethodName) prog_1_method_3_code (2 : Nat) (Option.some Jvm.ClassFile.FieldType.int)) ∈ UW := ut_1 (List.mem_of_getElem? (i := 229) rfl) rfl
theorem u_1_230 : (Jvm.Cond.methodLink "CountTriangles" (56 : Nat) ({ cls := "CountTriangles$Text", name := "clear", desc := "()V" } : Jvm.MethodName)) ∈ UW := ut_1 (List.mem_of_getElem? (i := 230) rfl) rfl
theorem u_1_231 : (Jvm.Cond.instanceMethod ({ cls := "CountTriangles$Text", name := "clear", desc := "()V" } : Jvm.MethodName)) ∈ UW := ut_1 (List.mem_of_getElem? (i := 231) rfl) rfl
theorem u_1_232 : (Jvm.Cond.selects "CountTriangles$Text" ({ cls := "CountTriangles$Text", name := "clear", desc := "()V" } : Jvm.MethodName) ({ cls := "CountTriangles$Text", name := "clear", desc := "()V" } : Jvm.MethodName)) ∈ UW := ut_1 (List.mem_of_getElem? (i := 232) rfl) rfl
theorem u_1_233 : (Jvm.Cond.code ({ cls := "CountTriangles$Text", name := "clear", desc := "()V" } : Jvm.MethodName) prog_12_method_3_code (1 : Nat) (Option.none : Option Jvm.ClassFile.FieldType)) ∈ UW := ut_1 (List.mem_of_getElem? (i := 233) rfl) rfl
theorem u_1_234 : (Jvm.Cond.methodLink "CountTrianglesLaw" (25 : Nat) ({ cls := "CountTriangles", name := "fault", desc := "()I" } : Jvm.MethodName)) ∈ UW := ut_1 (List.mem_of_getElem? (i := 234) rfl) rfl
theorem u_1_235 : (Jvm.Cond.instanceMethod ({ cls := "CountTriangles", name := "fault", desc := "()I" } : Jvm.MethodName)) ∈ UW := ut_1 (List.mem_of_getElem? (i := 235) rfl) rfl
theorem u_1_236 : (Jvm.Cond.selects "CountTriangles" ({ cls := "CountTriangles", name := "fault", desc := "()I" } : Jvm.MethodName) ({ cls := "CountTriangles", name := "fault", desc := "()I" } : Jvm.MethodName)) ∈ UW := ut_1 (List.mem_of_getElem? (i := 236) rfl) rfl
theorem u_1_237 : (Jvm.Cond.code ({ cls := "CountTriangles", name := "fault", desc := "()I" } : Jvm.MethodName) prog_1_method_4_code (1 : Nat) (Option.some Jvm.ClassFile.FieldType.int)) ∈ UW := ut_1 (List.mem_of_getElem? (i := 237) rfl) rfl
theorem u_1_238 : (Jvm.Cond.methodLink "CountTriangles" (59 : Nat) ({ cls := "CountTriangles$Text", name := "firstFault", desc := "()I" } : Jvm.MethodName)) ∈ UW := ut_1 (List.mem_of_getElem? (i := 238) rfl) rfl
theorem u_1_239 : (Jvm.Cond.instanceMethod ({ cls := "CountTriangles$Text", name := "firstFault", desc := "()I" } : Jvm.MethodName)) ∈ UW := ut_1 (List.mem_of_getElem? (i := 239) rfl) rfl
theorem u_2_0 : (Jvm.Cond.selects "CountTriangles$Text" ({ cls := "CountTriangles$Text", name := "firstFault", desc := "()I" } : Jvm.MethodName) ({ cls := "CountTriangles$Text", name := "firstFault", desc := "()I" } : Jvm.MethodName)) ∈ UW := ut_2 (List.mem_of_getElem? (i := 0) rfl) rfl
theorem u_2_1 : (Jvm.Cond.code ({ cls := "CountTriangles$Text", name := "firstFault", desc := "()I" } : Jvm.MethodName) prog_12_method_6_code (4 : Nat) (Option.some Jvm.ClassFile.FieldType.int)) ∈ UW := ut_2 (List.mem_of_getElem? (i := 1) rfl) rfl
theorem u_2_2 : (Jvm.Cond.methodLink "CountTriangles$Text" (19 : Nat) ({ cls := "CountTriangles$Text", name := "itemEnd", desc := "(I)I" } : Jvm.MethodName)) ∈ UW := ut_2 (List.mem_of_getElem? (i := 2) rfl) rfl
theorem u_2_3 : (Jvm.Cond.instanceMethod ({ cls := "CountTriangles$Text", name := "itemEnd", desc := "(I)I" } : Jvm.MethodName)) ∈ UW := ut_2 (List.mem_of_getElem? (i := 3) rfl) rfl
theorem u_2_4 : (Jvm.Cond.selects "CountTriangles$Text" ({ cls := "CountTriangles$Text", name := "itemEnd", desc := "(I)I" } : Jvm.MethodName) ({ cls := "CountTriangles$Text", name := "itemEnd", desc := "(I)I" } : Jvm.MethodName)) ∈ UW := ut_2 (List.mem_of_getElem? (i := 4) rfl) rfl
theorem u_2_5 : (Jvm.Cond.code ({ cls := "CountTriangles$Text", name := "itemEnd", desc := "(I)I" } : Jvm.MethodName) prog_12_method_7_code (6 : Nat) (Option.some Jvm.ClassFile.FieldType.int)) ∈ UW := ut_2 (List.mem_of_getElem? (i := 5) rfl) rfl
theorem u_2_6 : (Jvm.Cond.methodLink "CountTriangles$Text" (23 : Nat) ({ cls := "CountTriangles$Text", name := "byteAt", desc := "(I)I" } : Jvm.MethodName)) ∈ UW := ut_2 (List.mem_of_getElem? (i := 6) rfl) rfl
theorem u_2_7 : (Jvm.Cond.instanceMethod ({ cls := "CountTriangles$Text", name := "byteAt", desc := "(I)I" } : Jvm.MethodName)) ∈ UW := ut_2 (List.mem_of_getElem? (i := 7) rfl) rfl
theorem u_2_8 : (Jvm.Cond.selects "CountTriangles$Text" ({ cls := "CountTriangles$Text", name := "byteAt", desc := "(I)I" } : Jvm.MethodName) ({ cls := "CountTriangles$Text", name := "byteAt", desc := "(I)I" } : Jvm.MethodName)) ∈ UW := ut_2 (List.mem_of_getElem? (i := 8) rfl) rfl
theorem u_2_9 : (Jvm.Cond.code ({ cls := "CountTriangles$Text", name := "byteAt", desc := "(I)I" } : Jvm.MethodName) prog_12_method_5_code (2 : Nat) (Option.some Jvm.ClassFile.FieldType.int)) ∈ UW := ut_2 (List.mem_of_getElem? (i := 9) rfl) rfl
theorem u_2_10 : (Jvm.Cond.methodLink "CountTriangles$Text" (26 : Nat) ({ cls := "CountTriangles$Text", name := "numbersBehind", desc := "(I)I" } : Jvm.MethodName)) ∈ UW := ut_2 (List.mem_of_getElem? (i := 10) rfl) rfl
theorem u_2_11 : (Jvm.Cond.static ({ cls := "CountTriangles$Text", name := "numbersBehind", desc := "(I)I" } : Jvm.MethodName)) ∈ UW := ut_2 (List.mem_of_getElem? (i := 11) rfl) rfl
theorem u_2_12 : (Jvm.Cond.code ({ cls := "CountTriangles$Text", name := "numbersBehind", desc := "(I)I" } : Jvm.MethodName) prog_12_method_8_code (1 : Nat) (Option.some Jvm.ClassFile.FieldType.int)) ∈ UW := ut_2 (List.mem_of_getElem? (i := 12) rfl) rfl
theorem u_2_13 : (Jvm.Cond.methodLink "CountTriangles$Text" (29 : Nat) ({ cls := "CountTriangles$Text", name := "numberEnd", desc := "(I)I" } : Jvm.MethodName)) ∈ UW := ut_2 (List.mem_of_getElem? (i := 13) rfl) rfl
theorem u_2_15 : (Jvm.Cond.instanceMethod ({ cls := "CountTriangles$Text", name := "numberEnd", desc := "(I)I" } : Jvm.MethodName)) ∈ UW := ut_2 (List.mem_of_getElem? (i := 15) rfl) rfl
theorem u_2_16 : (Jvm.Cond.code ({ cls := "CountTriangles$Text", name := "numberEnd", desc := "(I)I" } : Jvm.MethodName) prog_12_method_9_code (5 : Nat) (Option.some Jvm.ClassFile.FieldType.int)) ∈ UW := ut_2 (List.mem_of_getElem? (i := 16) rfl) rfl
theorem u_2_17 : (Jvm.Cond.methodLink "CountTrianglesLaw" (29 : Nat) ({ cls := "CountTriangles", name := "lay", desc := "(I)I" } : Jvm.MethodName)) ∈ UW := ut_2 (List.mem_of_getElem? (i := 17) rfl) rfl
theorem u_2_18 : (Jvm.Cond.instanceMethod ({ cls := "CountTriangles", name := "lay", desc := "(I)I" } : Jvm.MethodName)) ∈ UW := ut_2 (List.mem_of_getElem? (i := 18) rfl) rfl
theorem u_2_19 : (Jvm.Cond.selects "CountTriangles" ({ cls := "CountTriangles", name := "lay", desc := "(I)I" } : Jvm.MethodName) ({ cls := "CountTriangles", name := "lay", desc := "(I)I" } : Jvm.MethodName)) ∈ UW := ut_2 (List.mem_of_getElem? (i := 19) rfl) rfl
theorem u_2_20 : (Jvm.Cond.code ({ cls := "CountTriangles", name := "lay", desc := "(I)I" } : Jvm.MethodName) prog_1_method_5_code (2 : Nat) (Option.some Jvm.ClassFile.FieldType.int)) ∈ UW := ut_2 (List.mem_of_getElem? (i := 20) rfl) rfl
theorem u_2_21 : (Jvm.Cond.methodLink "CountTriangles" (62 : Nat) ({ cls := "CountTriangles", name := "isLaw", desc := "(I)Z" } : Jvm.MethodName)) ∈ UW := ut_2 (List.mem_of_getElem? (i := 21) rfl) rfl
theorem u_2_22 : (Jvm.Cond.static ({ cls := "CountTriangles", name := "isLaw", desc := "(I)Z" } : Jvm.MethodName)) ∈ UW := ut_2 (List.mem_of_getElem? (i := 22) rfl) rfl
theorem u_2_23 : (Jvm.Cond.code ({ cls := "CountTriangles", name := "isLaw", desc := "(I)Z" } : Jvm.MethodName) prog_1_method_32_code (1 : Nat) (Option.some Jvm.ClassFile.FieldType.boolean)) ∈ UW := ut_2 (List.mem_of_getElem? (i := 23) rfl) rfl
theorem u_2_24 : (Jvm.Cond.methodLink "CountTriangles" (66 : Nat) ({ cls := "CountTriangles$Law", name := "layFrom", desc := "(LCountTriangles$Text;)V" } : Jvm.MethodName)) ∈ UW := ut_2 (List.mem_of_getElem? (i := 24) rfl) rfl
theorem u_2_25 : (Jvm.Cond.instanceMethod ({ cls := "CountTriangles$Law", name := "layFrom", desc := "(LCountTriangles$Text;)V" } : Jvm.MethodName)) ∈ UW := ut_2 (List.mem_of_getElem? (i := 25) rfl) rfl
theorem u_2_26 : (Jvm.Cond.selects "CountTriangles$Law" ({ cls := "CountTriangles$Law", name := "layFrom", desc := "(LCountTriangles$Text;)V" } : Jvm.MethodName) ({ cls := "CountTriangles$Law", name := "layFrom", desc := "(LCountTriangles$Text;)V" } : Jvm.MethodName)) ∈ UW := ut_2 (List.mem_of_getElem? (i := 26) rfl) rfl
theorem u_2_27 : (Jvm.Cond.code ({ cls := "CountTriangles$Law", name := "layFrom", desc := "(LCountTriangles$Text;)V" } : Jvm.MethodName) prog_4_method_3_code (5 : Nat) (Option.none : Option Jvm.ClassFile.FieldType)) ∈ UW := ut_2 (List.mem_of_getElem? (i := 27) rfl) rfl
theorem u_2_28 : (Jvm.Cond.methodLink "CountTriangles$Law" (37 : Nat) ({ cls := "java/util/Arrays", name := "fill", desc := "([II)V" } : Jvm.MethodName)) ∈ UW := ut_2 (List.mem_of_getElem? (i := 28) rfl) rfl
theorem u_2_29 : (Jvm.Cond.static ({ cls := "java/util/Arrays", name := "fill", desc := "([II)V" } : Jvm.MethodName)) ∈ UW := ut_2 (List.mem_of_getElem? (i := 29) rfl) rfl
theorem u_2_30 : (Jvm.Cond.code ({ cls := "java/util/Arrays", name := "fill", desc := "([II)V" } : Jvm.MethodName) prog_18_method_103_code (4 : Nat) (Option.none : Option Jvm.ClassFile.FieldType)) ∈ UW := ut_2 (List.mem_of_getElem? (i := 30) rfl) rfl
theorem u_2_31 : (Jvm.Cond.methodLink "CountTriangles$Law" (45 : Nat) ({ cls := "CountTriangles$Text", name := "length", desc := "()I" } : Jvm.MethodName)) ∈ UW := ut_2 (List.mem_of_getElem? (i := 31) rfl) rfl
theorem u_2_32 : (Jvm.Cond.methodLink "CountTriangles$Law" (49 : Nat) ({ cls := "CountTriangles$Text", name := "itemEnd", desc := "(I)I" } : Jvm.MethodName)) ∈ UW := ut_2 (List.mem_of_getElem? (i := 32) rfl) rfl
theorem u_2_33 : (Jvm.Cond.methodLink "CountTriangles$Law" (53 : Nat) ({ cls := "CountTriangles$Law", name := "takeItem", desc := "(LCountTriangles$Text;I)V" } : Jvm.MethodName)) ∈ UW := ut_2 (List.mem_of_getElem? (i := 33) rfl) rfl
theorem u_2_35 : (Jvm.Cond.instanceMethod ({ cls := "CountTriangles$Law", name := "takeItem", desc := "(LCountTriangles$Text;I)V" } : Jvm.MethodName)) ∈ UW := ut_2 (List.mem_of_getElem? (i := 35) rfl) rfl
theorem u_2_36 : (Jvm.Cond.code ({ cls := "CountTriangles$Law", name := "takeItem", desc := "(LCountTriangles$Text;I)V" } : Jvm.MethodName) prog_4_method_4_code (7 : Nat) (Option.none : Option Jvm.ClassFile.FieldType)) ∈ UW := ut_2 (List.mem_of_getElem? (i := 36) rfl) rfl
theorem u_2_37 : (Jvm.Cond.methodLink "CountTriangles$Law" (60 : Nat) ({ cls := "CountTriangles$Text", name := "byteAt", desc := "(I)I" } : Jvm.MethodName)) ∈ UW := ut_2 (List.mem_of_getElem? (i := 37) rfl) rfl
theorem u_2_38 : (Jvm.Cond.methodLink "CountTriangles$Law" (63 : Nat) ({ cls := "CountTriangles$Text", name := "numberFrom", desc := "(I)I" } : Jvm.MethodName)) ∈ UW := ut_2 (List.mem_of_getElem? (i := 38) rfl) rfl
theorem u_2_39 : (Jvm.Cond.instanceMethod ({ cls := "CountTriangles$Text", name := "numberFrom", desc := "(I)I" } : Jvm.MethodName)) ∈ UW := ut_2 (List.mem_of_getElem? (i := 39) rfl) rfl
theorem u_2_40 : (Jvm.Cond.selects "CountTriangles$Text" ({ cls := "CountTriangles$Text", name := "numberFrom", desc := "(I)I" } : Jvm.MethodName) ({ cls := "CountTriangles$Text", name := "numberFrom", desc := "(I)I" } : Jvm.MethodName)) ∈ UW := ut_2 (List.mem_of_getElem? (i := 40) rfl) rfl
theorem u_2_41 : (Jvm.Cond.code ({ cls := "CountTriangles$Text", name := "numberFrom", desc := "(I)I" } : Jvm.MethodName) prog_12_method_10_code (2 : Nat) (Option.some Jvm.ClassFile.FieldType.int)) ∈ UW := ut_2 (List.mem_of_getElem? (i := 41) rfl) rfl
theorem u_2_42 : (Jvm.Cond.methodLink "CountTriangles$Law" (66 : Nat) ({ cls := "CountTriangles$Text", name := "nextNumber", desc := "(I)I" } : Jvm.MethodName)) ∈ UW := ut_2 (List.mem_of_getElem? (i := 42) rfl) rfl
theorem u_2_43 : (Jvm.Cond.instanceMethod ({ cls := "CountTriangles$Text", name := "nextNumber", desc := "(I)I" } : Jvm.MethodName)) ∈ UW := ut_2 (List.mem_of_getElem? (i := 43) rfl) rfl
theorem u_2_44 : (Jvm.Cond.selects "CountTriangles$Text" ({ cls := "CountTriangles$Text", name := "nextNumber", desc := "(I)I" } : Jvm.MethodName) ({ cls := "CountTriangles$Text", name := "nextNumber", desc := "(I)I" } : Jvm.MethodName)) ∈ UW := ut_2 (List.mem_of_getElem? (i := 44) rfl) rfl
theorem u_2_45 : (Jvm.Cond.code ({ cls := "CountTriangles$Text", name := "nextNumber", desc := "(I)I" } : Jvm.MethodName) prog_12_method_11_code (2 : Nat) (Option.some Jvm.ClassFile.FieldType.int)) ∈ UW := ut_2 (List.mem_of_getElem? (i := 45) rfl) rfl
theorem u_2_46 : (Jvm.Cond.methodLink "CountTriangles$Law" (57 : Nat) ({ cls := "CountTriangles$Law", name := "fillNumbers", desc := "()V" } : Jvm.MethodName)) ∈ UW := ut_2 (List.mem_of_getElem? (i := 46) rfl) rfl
theorem u_2_48 : (Jvm.Cond.instanceMethod ({ cls := "CountTriangles$Law", name := "fillNumbers", desc := "()V" } : Jvm.MethodName)) ∈ UW := ut_2 (List.mem_of_getElem? (i := 48) rfl) rfl
theorem u_2_49 : (Jvm.Cond.code ({ cls := "CountTriangles$Law", name := "fillNumbers", desc := "()V" } : Jvm.MethodName) prog_4_method_5_code (4 : Nat) (Option.none : Option Jvm.ClassFile.FieldType)) ∈ UW := ut_2 (List.mem_of_getElem? (i := 49) rfl) rfl
theorem u_2_50 : (Jvm.Cond.methodLink "CountTriangles$Law" (69 : Nat) ({ cls := "CountTriangles$Law", name := "madeOfAbove", desc := "(II)J" } : Jvm.MethodName)) ∈ UW := ut_2 (List.mem_of_getElem? (i := 50) rfl) rfl
theorem u_2_52 : (Jvm.Cond.instanceMethod ({ cls := "CountTriangles$Law", name := "madeOfAbove", desc := "(II)J" } : Jvm.MethodName)) ∈ UW := ut_2 (List.mem_of_getElem? (i := 52) rfl) rfl
theorem u_2_53 : (Jvm.Cond.code ({ cls := "CountTriangles$Law", name := "madeOfAbove", desc := "(II)J" } : Jvm.MethodName) prog_4_method_6_code (7 : Nat) (Option.some Jvm.ClassFile.FieldType.long)) ∈ UW := ut_2 (List.mem_of_getElem? (i := 53) rfl) rfl
theorem u_2_54 : (Jvm.Cond.methodLink "CountTriangles$Law" (73 : Nat) ({ cls := "CountTriangles$Law", name := "factor", desc := "([III)I" } : Jvm.MethodName)) ∈ UW := ut_2 (List.mem_of_getElem? (i := 54) rfl) rfl
theorem u_2_55 : (Jvm.Cond.static ({ cls := "CountTriangles$Law", name := "factor", desc := "([III)I" } : Jvm.MethodName)) ∈ UW := ut_2 (List.mem_of_getElem? (i := 55) rfl) rfl
theorem u_2_56 : (Jvm.Cond.code ({ cls := "CountTriangles$Law", name := "factor", desc := "([III)I" } : Jvm.MethodName) prog_4_method_7_code (3 : Nat) (Option.some Jvm.ClassFile.FieldType.int)) ∈ UW := ut_2 (List.mem_of_getElem? (i := 56) rfl) rfl
theorem u_2_57 : (Jvm.Cond.methodLink "CountTriangles$Law" (77 : Nat) ({ cls := "CountTriangles$Law", name := "numberAt", desc := "(II)J" } : Jvm.MethodName)) ∈ UW := ut_2 (List.mem_of_getElem? (i := 57) rfl) rfl
theorem u_2_58 : (Jvm.Cond.instanceMethod ({ cls := "CountTriangles$Law", name := "numberAt", desc := "(II)J" } : Jvm.MethodName)) ∈ UW := ut_2 (List.mem_of_getElem? (i := 58) rfl) rfl
theorem u_2_59 : (Jvm.Cond.selects "CountTriangles$Law" ({ cls := "CountTriangles$Law", name := "numberAt", desc := "(II)J" } : Jvm.MethodName) ({ cls := "CountTriangles$Law", name := "numberAt", desc := "(II)J" } : Jvm.MethodName)) ∈ UW := ut_2 (List.mem_of_getElem? (i := 59) rfl) rfl
theorem u_2_60 : (Jvm.Cond.code ({ cls := "CountTriangles$Law", name := "numberAt", desc := "(II)J" } : Jvm.MethodName) prog_4_method_11_code (3 : Nat) (Option.some Jvm.ClassFile.FieldType.long)) ∈ UW := ut_2 (List.mem_of_getElem? (i := 60) rfl) rfl
theorem u_2_62 : (Jvm.Cond.static ({ cls := "CountTriangles", name := "isPlace", desc := "(III)Z" } : Jvm.MethodName)) ∈ UW := ut_2 (List.mem_of_getElem? (i := 62) rfl) rfl
theorem u_2_63 : (Jvm.Cond.code ({ cls := "CountTriangles", name := "isPlace", desc := "(III)Z" } : Jvm.MethodName) prog_1_method_34_code (3 : Nat) (Option.some Jvm.ClassFile.FieldType.boolean)) ∈ UW := ut_2 (List.mem_of_getElem? (i := 63) rfl) rfl
theorem u_2_64 : (Jvm.Cond.methodLink "CountTriangles$Law" (80 : Nat) ({ cls := "CountTriangles$Law", name := "part", desc := "(IJ)J" } : Jvm.MethodName)) ∈ UW := ut_2 (List.mem_of_getElem? (i := 64) rfl) rfl
theorem u_2_65 : (Jvm.Cond.static ({ cls := "CountTriangles$Law", name := "part", desc := "(IJ)J" } : Jvm.MethodName)) ∈ UW := ut_2 (List.mem_of_getElem? (i := 65) rfl) rfl
theorem u_2_66 : (Jvm.Cond.code ({ cls := "CountTriangles$Law", name := "part", desc := "(IJ)J" } : Jvm.MethodName) prog_4_method_8_code (3 : Nat) (Option.some Jvm.ClassFile.FieldType.long)) ∈ UW := ut_2 (List.mem_of_getElem? (i := 66) rfl) rfl
theorem u_2_67 : (Jvm.Cond.methodLink "CountTriangles$Law" (90 : Nat) ({ cls := "CountTriangles$Law", name := "product", desc := "(JJ)J" } : Jvm.MethodName)) ∈ UW := ut_2 (List.mem_of_getElem? (i := 67) rfl) rfl
theorem u_2_68 : (Jvm.Cond.static ({ cls := "CountTriangles$Law", name := "product", desc := "(JJ)J" } : Jvm.MethodName)) ∈ UW := ut_2 (List.mem_of_getElem? (i := 68) rfl) rfl
theorem u_2_69 : (Jvm.Cond.code ({ cls := "CountTriangles$Law", name := "product", desc := "(JJ)J" } : Jvm.MethodName) prog_4_method_10_code (4 : Nat) (Option.some Jvm.ClassFile.FieldType.long)) ∈ UW := ut_2 (List.mem_of_getElem? (i := 69) rfl) rfl
theorem u_2_70 : (Jvm.Cond.constantLong "CountTriangles$Law" (84 : Nat) (-9223372036854775808 : Int64)) ∈ UW := ut_2 (List.mem_of_getElem? (i := 70) rfl) rfl
theorem u_2_71 : (Jvm.Cond.methodLink "CountTriangles$Law" (100 : Nat) ({ cls := "java/lang/Math", name := "abs", desc := "(J)J" } : Jvm.MethodName)) ∈ UW := ut_2 (List.mem_of_getElem? (i := 71) rfl) rfl
theorem u_2_72 : (Jvm.Cond.static ({ cls := "java/lang/Math", name := "abs", desc := "(J)J" } : Jvm.MethodName)) ∈ UW := ut_2 (List.mem_of_getElem? (i := 72) rfl) rfl
theorem u_2_73 : (Jvm.Cond.code ({ cls := "java/lang/Math", name := "abs", desc := "(J)J" } : Jvm.MethodName) prog_16_method_61_code (2 : Nat) (Option.some Jvm.ClassFile.FieldType.long)) ∈ UW := ut_2 (List.mem_of_getElem? (i := 73) rfl) rfl
theorem u_2_74 : (Jvm.Cond.constantLong "CountTriangles$Law" (94 : Nat) (100000000000000000 : Int64)) ∈ UW := ut_2 (List.mem_of_getElem? (i := 74) rfl) rfl
theorem u_2_75 : (Jvm.Cond.methodLink "CountTriangles$Law" (86 : Nat) ({ cls := "CountTriangles$Law", name := "limited", desc := "(J)J" } : Jvm.MethodName)) ∈ UW := ut_2 (List.mem_of_getElem? (i := 75) rfl) rfl
theorem u_2_76 : (Jvm.Cond.static ({ cls := "CountTriangles$Law", name := "limited", desc := "(J)J" } : Jvm.MethodName)) ∈ UW := ut_2 (List.mem_of_getElem? (i := 76) rfl) rfl
theorem u_2_77 : (Jvm.Cond.code ({ cls := "CountTriangles$Law", name := "limited", desc := "(J)J" } : Jvm.MethodName) prog_4_method_9_code (2 : Nat) (Option.some Jvm.ClassFile.FieldType.long)) ∈ UW := ut_2 (List.mem_of_getElem? (i := 77) rfl) rfl
theorem u_2_79 : (Jvm.Cond.static ({ cls := "CountTriangles", name := "beyond", desc := "(JJ)Z" } : Jvm.MethodName)) ∈ UW := ut_2 (List.mem_of_getElem? (i := 79) rfl) rfl
theorem u_2_80 : (Jvm.Cond.code ({ cls := "CountTriangles", name := "beyond", desc := "(JJ)Z" } : Jvm.MethodName) prog_1_method_36_code (4 : Nat) (Option.some Jvm.ClassFile.FieldType.boolean)) ∈ UW := ut_2 (List.mem_of_getElem? (i := 80) rfl) rfl
theorem u_2_81 : (Jvm.Cond.methodLink "CountTriangles" (70 : Nat) ({ cls := "CountTriangles$Law", name := "items", desc := "()I" } : Jvm.MethodName)) ∈ UW := ut_2 (List.mem_of_getElem? (i := 81) rfl) rfl
theorem u_2_82 : (Jvm.Cond.instanceMethod ({ cls := "CountTriangles$Law", name := "items", desc := "()I" } : Jvm.MethodName)) ∈ UW := ut_2 (List.mem_of_getElem? (i := 82) rfl) rfl
theorem u_2_83 : (Jvm.Cond.selects "CountTriangles$Law" ({ cls := "CountTriangles$Law", name := "items", desc := "()I" } : Jvm.MethodName) ({ cls := "CountTriangles$Law", name := "items", desc := "()I" } : Jvm.MethodName)) ∈ UW := ut_2 (List.mem_of_getElem? (i := 83) rfl) rfl
theorem u_2_84 : (Jvm.Cond.code ({ cls := "CountTriangles$Law", name := "items", desc := "()I" } : Jvm.MethodName) prog_4_method_2_code (1 : Nat) (Option.some Jvm.ClassFile.FieldType.int)) ∈ UW := ut_2 (List.mem_of_getElem? (i := 84) rfl) rfl
theorem u_2_85 : (Jvm.Cond.methodLink "CountTrianglesLaw" (34 : Nat) ({ cls := "CountTriangles", name := "number", desc := "(III)J" } : Jvm.MethodName)) ∈ UW := ut_2 (List.mem_of_getElem? (i := 85) rfl) rfl
theorem u_2_86 : (Jvm.Cond.instanceMethod ({ cls := "CountTriangles", name := "number", desc := "(III)J" } : Jvm.MethodName)) ∈ UW := ut_2 (List.mem_of_getElem? (i := 86) rfl) rfl
theorem u_2_87 : (Jvm.Cond.selects "CountTriangles" ({ cls := "CountTriangles", name := "number", desc := "(III)J" } : Jvm.MethodName) ({ cls := "CountTriangles", name := "number", desc := "(III)J" } : Jvm.MethodName)) ∈ UW := ut_2 (List.mem_of_getElem? (i := 87) rfl) rfl
theorem u_2_88 : (Jvm.Cond.code ({ cls := "CountTriangles", name := "number", desc := "(III)J" } : Jvm.MethodName) prog_1_method_6_code (4 : Nat) (Option.some Jvm.ClassFile.FieldType.long)) ∈ UW := ut_2 (List.mem_of_getElem? (i := 88) rfl) rfl
theorem u_2_89 : (Jvm.Cond.methodLink "CountTriangles" (73 : Nat) ({ cls := "CountTriangles", name := "isPlace", desc := "(III)Z" } : Jvm.MethodName)) ∈ UW := ut_2 (List.mem_of_getElem? (i := 89) rfl) rfl
theorem u_2_90 : (Jvm.Cond.constantLong "CountTriangles" (76 : Nat) (-1000000000000000001 : Int64)) ∈ UW := ut_2 (List.mem_of_getElem? (i := 90) rfl) rfl
theorem u_2_91 : (Jvm.Cond.methodLink "CountTriangles" (78 : Nat) ({ cls := "CountTriangles$Law", name := "numberAt", desc := "(II)J" } : Jvm.MethodName)) ∈ UW := ut_2 (List.mem_of_getElem? (i := 91) rfl) rfl
theorem u_2_92 : (Jvm.Cond.methodLink "CountTriangles" (82 : Nat) ({ cls := "CountTriangles", name := "answer", desc := "(J)J" } : Jvm.MethodName)) ∈ UW := ut_2 (List.mem_of_getElem? (i := 92) rfl) rfl
theorem u_2_93 : (Jvm.Cond.static ({ cls := "CountTriangles", name := "answer", desc := "(J)J" } : Jvm.MethodName)) ∈ UW := ut_2 (List.mem_of_getElem? (i := 93) rfl) rfl
theorem u_2_94 : (Jvm.Cond.code ({ cls := "CountTriangles", name := "answer", desc := "(J)J" } : Jvm.MethodName) prog_1_method_37_code (2 : Nat) (Option.some Jvm.ClassFile.FieldType.long)) ∈ UW := ut_2 (List.mem_of_getElem? (i := 94) rfl) rfl
theorem u_2_95 : (Jvm.Cond.constantLong "CountTriangles" (215 : Nat) (-9223372036854775808 : Int64)) ∈ UW := ut_2 (List.mem_of_getElem? (i := 95) rfl) rfl
theorem u_2_96 : (Jvm.Cond.constantLong "CountTriangles" (217 : Nat) (-1000000000000000002 : Int64)) ∈ UW := ut_2 (List.mem_of_getElem? (i := 96) rfl) rfl
theorem u_2_97 : (Jvm.Cond.methodLink "CountTrianglesLaw" (39 : Nat) ({ cls := "CountTriangles", name := "sum", desc := "(III)J" } : Jvm.MethodName)) ∈ UW := ut_2 (List.mem_of_getElem? (i := 97) rfl) rfl
theorem u_2_98 : (Jvm.Cond.instanceMethod ({ cls := "CountTriangles", name := "sum", desc := "(III)J" } : Jvm.MethodName)) ∈ UW := ut_2 (List.mem_of_getElem? (i := 98) rfl) rfl
theorem u_2_99 : (Jvm.Cond.selects "CountTriangles" ({ cls := "CountTriangles", name := "sum", desc := "(III)J" } : Jvm.MethodName) ({ cls := "CountTriangles", name := "sum", desc := "(III)J" } : Jvm.MethodName)) ∈ UW := ut_2 (List.mem_of_getElem? (i := 99) rfl) rfl
theorem u_2_100 : (Jvm.Cond.code ({ cls := "CountTriangles", name := "sum", desc := "(III)J" } : Jvm.MethodName) prog_1_method_7_code (4 : Nat) (Option.some Jvm.ClassFile.FieldType.long)) ∈ UW := ut_2 (List.mem_of_getElem? (i := 100) rfl) rfl
theorem u_2_101 : (Jvm.Cond.methodLink "CountTriangles" (86 : Nat) ({ cls := "CountTriangles$Law", name := "rowSum", desc := "(IZ)J" } : Jvm.MethodName)) ∈ UW := ut_2 (List.mem_of_getElem? (i := 101) rfl) rfl
theorem u_2_102 : (Jvm.Cond.instanceMethod ({ cls := "CountTriangles$Law", name := "rowSum", desc := "(IZ)J" } : Jvm.MethodName)) ∈ UW := ut_2 (List.mem_of_getElem? (i := 102) rfl) rfl
theorem u_2_103 : (Jvm.Cond.selects "CountTriangles$Law" ({ cls := "CountTriangles$Law", name := "rowSum", desc := "(IZ)J" } : Jvm.MethodName) ({ cls := "CountTriangles$Law", name := "rowSum", desc := "(IZ)J" } : Jvm.MethodName)) ∈ UW := ut_2 (List.mem_of_getElem? (i := 103) rfl) rfl
theorem u_2_104 : (Jvm.Cond.code ({ cls := "CountTriangles$Law", name := "rowSum", desc := "(IZ)J" } : Jvm.MethodName) prog_4_method_13_code (6 : Nat) (Option.some Jvm.ClassFile.FieldType.long)) ∈ UW := ut_2 (List.mem_of_getElem? (i := 104) rfl) rfl
theorem u_2_105 : (Jvm.Cond.methodLink "CountTriangles$Law" (109 : Nat) ({ cls := "CountTriangles$Law", name := "rowKeepsTo", desc := "(IJ)Z" } : Jvm.MethodName)) ∈ UW := ut_2 (List.mem_of_getElem? (i := 105) rfl) rfl
theorem u_2_106 : (Jvm.Cond.instanceMethod ({ cls := "CountTriangles$Law", name := "rowKeepsTo", desc := "(IJ)Z" } : Jvm.MethodName)) ∈ UW := ut_2 (List.mem_of_getElem? (i := 106) rfl) rfl
theorem u_2_107 : (Jvm.Cond.selects "CountTriangles$Law" ({ cls := "CountTriangles$Law", name := "rowKeepsTo", desc := "(IJ)Z" } : Jvm.MethodName) ({ cls := "CountTriangles$Law", name := "rowKeepsTo", desc := "(IJ)Z" } : Jvm.MethodName)) ∈ UW := ut_2 (List.mem_of_getElem? (i := 107) rfl) rfl
theorem u_2_108 : (Jvm.Cond.code ({ cls := "CountTriangles$Law", name := "rowKeepsTo", desc := "(IJ)Z" } : Jvm.MethodName) prog_4_method_12_code (5 : Nat) (Option.some Jvm.ClassFile.FieldType.boolean)) ∈ UW := ut_2 (List.mem_of_getElem? (i := 108) rfl) rfl
theorem u_2_109 : (Jvm.Cond.methodLink "CountTriangles" (90 : Nat) ({ cls := "CountTriangles$Law", name := "slantSum", desc := "(I)J" } : Jvm.MethodName)) ∈ UW := ut_2 (List.mem_of_getElem? (i := 109) rfl) rfl
theorem u_2_110 : (Jvm.Cond.instanceMethod ({ cls := "CountTriangles$Law", name := "slantSum", desc := "(I)J" } : Jvm.MethodName)) ∈ UW := ut_2 (List.mem_of_getElem? (i := 110) rfl) rfl
theorem u_2_111 : (Jvm.Cond.selects "CountTriangles$Law" ({ cls := "CountTriangles$Law", name := "slantSum", desc := "(I)J" } : Jvm.MethodName) ({ cls := "CountTriangles$Law", name := "slantSum", desc := "(I)J" } : Jvm.MethodName)) ∈ UW := ut_2 (List.mem_of_getElem? (i := 111) rfl) rfl
theorem u_2_112 : (Jvm.Cond.code ({ cls := "CountTriangles$Law", name := "slantSum", desc := "(I)J" } : Jvm.MethodName) prog_4_method_14_code (7 : Nat) (Option.some Jvm.ClassFile.FieldType.long)) ∈ UW := ut_2 (List.mem_of_getElem? (i := 112) rfl) rfl
theorem u_2_113 : (Jvm.Cond.methodLink "CountTriangles" (94 : Nat) ({ cls := "CountTriangles$Law", name := "squareSum", desc := "(I)J" } : Jvm.MethodName)) ∈ UW := ut_2 (List.mem_of_getElem? (i := 113) rfl) rfl
theorem u_2_114 : (Jvm.Cond.instanceMethod ({ cls := "CountTriangles$Law", name := "squareSum", desc := "(I)J" } : Jvm.MethodName)) ∈ UW := ut_2 (List.mem_of_getElem? (i := 114) rfl) rfl
theorem u_2_115 : (Jvm.Cond.selects "CountTriangles$Law" ({ cls := "CountTriangles$Law", name := "squareSum", desc := "(I)J" } : Jvm.MethodName) ({ cls := "CountTriangles$Law", name := "squareSum", desc := "(I)J" } : Jvm.MethodName)) ∈ UW := ut_2 (List.mem_of_getElem? (i := 115) rfl) rfl
theorem u_2_116 : (Jvm.Cond.code ({ cls := "CountTriangles$Law", name := "squareSum", desc := "(I)J" } : Jvm.MethodName) prog_4_method_15_code (5 : Nat) (Option.some Jvm.ClassFile.FieldType.long)) ∈ UW := ut_2 (List.mem_of_getElem? (i := 116) rfl) rfl
theorem u_2_117 : (Jvm.Cond.constantLong "CountTriangles$Law" (113 : Nat) (100000000 : Int64)) ∈ UW := ut_2 (List.mem_of_getElem? (i := 117) rfl) rfl
theorem u_2_118 : (Jvm.Cond.methodLink "CountTrianglesLaw" (43 : Nat) ({ cls := "CountTriangles", name := "shape", desc := "(III)I" } : Jvm.MethodName)) ∈ UW := ut_2 (List.mem_of_getElem? (i := 118) rfl) rfl
theorem u_2_119 : (Jvm.Cond.instanceMethod ({ cls := "CountTriangles", name := "shape", desc := "(III)I" } : Jvm.MethodName)) ∈ UW := ut_2 (List.mem_of_getElem? (i := 119) rfl) rfl
theorem u_2_120 : (Jvm.Cond.selects "CountTriangles" ({ cls := "CountTriangles", name := "shape", desc := "(III)I" } : Jvm.MethodName) ({ cls := "CountTriangles", name := "shape", desc := "(III)I" } : Jvm.MethodName)) ∈ UW := ut_2 (List.mem_of_getElem? (i := 120) rfl) rfl
theorem u_2_121 : (Jvm.Cond.code ({ cls := "CountTriangles", name := "shape", desc := "(III)I" } : Jvm.MethodName) prog_1_method_8_code (6 : Nat) (Option.some Jvm.ClassFile.FieldType.int)) ∈ UW := ut_2 (List.mem_of_getElem? (i := 121) rfl) rfl
theorem u_2_122 : (Jvm.Cond.constantLong "CountTriangles" (97 : Nat) (100000000 : Int64)) ∈ UW := ut_2 (List.mem_of_getElem? (i := 122) rfl) rfl
theorem u_2_123 : (Jvm.Cond.constantLong "CountTriangles" (99 : Nat) (100000000000000000 : Int64)) ∈ UW := ut_2 (List.mem_of_getElem? (i := 123) rfl) rfl
theorem u_2_124 : (Jvm.Cond.methodLink "CountTriangles" (101 : Nat) ({ cls := "CountTriangles$Law", name := "rowKeepsTo", desc := "(IJ)Z" } : Jvm.MethodName)) ∈ UW := ut_2 (List.mem_of_getElem? (i := 124) rfl) rfl
theorem u_2_125 : (Jvm.Cond.methodLink "CountTriangles" (104 : Nat) ({ cls := "CountTriangles$Law", name := "greatestPlace", desc := "(I)I" } : Jvm.MethodName)) ∈ UW := ut_2 (List.mem_of_getElem? (i := 125) rfl) rfl
theorem u_2_126 : (Jvm.Cond.instanceMethod ({ cls := "CountTriangles$Law", name := "greatestPlace", desc := "(I)I" } : Jvm.MethodName)) ∈ UW := ut_2 (List.mem_of_getElem? (i := 126) rfl) rfl
theorem u_2_127 : (Jvm.Cond.selects "CountTriangles$Law" ({ cls := "CountTriangles$Law", name := "greatestPlace", desc := "(I)I" } : Jvm.MethodName) ({ cls := "CountTriangles$Law", name := "greatestPlace", desc := "(I)I" } : Jvm.MethodName)) ∈ UW := ut_2 (List.mem_of_getElem? (i := 127) rfl) rfl
theorem u_2_128 : (Jvm.Cond.code ({ cls := "CountTriangles$Law", name := "greatestPlace", desc := "(I)I" } : Jvm.MethodName) prog_4_method_16_code (4 : Nat) (Option.some Jvm.ClassFile.FieldType.int)) ∈ UW := ut_2 (List.mem_of_getElem? (i := 128) rfl) rfl
theorem u_2_129 : (Jvm.Cond.methodLink "CountTriangles" (108 : Nat) ({ cls := "CountTriangles$Law", name := "breakPlace", desc := "(I)I" } : Jvm.MethodName)) ∈ UW := ut_2 (List.mem_of_getElem? (i := 129) rfl) rfl
theorem u_2_130 : (Jvm.Cond.instanceMethod ({ cls := "CountTriangles$Law", name := "breakPlace", desc := "(I)I" } : Jvm.MethodName)) ∈ UW := ut_2 (List.mem_of_getElem? (i := 130) rfl) rfl
theorem u_2_131 : (Jvm.Cond.selects "CountTriangles$Law" ({ cls := "CountTriangles$Law", name := "breakPlace", desc := "(I)I" } : Jvm.MethodName) ({ cls := "CountTriangles$Law", name := "breakPlace", desc := "(I)I" } : Jvm.MethodName)) ∈ UW := ut_2 (List.mem_of_getElem? (i := 131) rfl) rfl
theorem u_2_132 : (Jvm.Cond.code ({ cls := "CountTriangles$Law", name := "breakPlace", desc := "(I)I" } : Jvm.MethodName) prog_4_method_17_code (4 : Nat) (Option.some Jvm.ClassFile.FieldType.int)) ∈ UW := ut_2 (List.mem_of_getElem? (i := 132) rfl) rfl
theorem u_2_133 : (Jvm.Cond.methodLink "CountTriangles" (111 : Nat) ({ cls := "CountTriangles$Law", name := "bowedPlace", desc := "(I)I" } : Jvm.MethodName)) ∈ UW := ut_2 (List.mem_of_getElem? (i := 133) rfl) rfl
theorem u_2_134 : (Jvm.Cond.instanceMethod ({ cls := "CountTriangles$Law", name := "bowedPlace", desc := "(I)I" } : Jvm.MethodName)) ∈ UW := ut_2 (List.mem_of_getElem? (i := 134) rfl) rfl
theorem u_2_135 : (Jvm.Cond.selects "CountTriangles$Law" ({ cls := "CountTriangles$Law", name := "bowedPlace", desc := "(I)I" } : Jvm.MethodName) ({ cls := "CountTriangles$Law", name := "bowedPlace", desc := "(I)I" } : Jvm.MethodName)) ∈ UW := ut_2 (List.mem_of_getElem? (i := 135) rfl) rfl
theorem u_2_136 : (Jvm.Cond.code ({ cls := "CountTriangles$Law", name := "bowedPlace", desc := "(I)I" } : Jvm.MethodName) prog_4_method_18_code (5 : Nat) (Option.some Jvm.ClassFile.FieldType.int)) ∈ UW := ut_2 (List.mem_of_getElem? (i := 136) rfl) rfl
theorem u_2_137 : (Jvm.Cond.methodLink "CountTrianglesLaw" (48 : Nat) ({ cls := "CountTriangles", name := "rest", desc := "(IIII)I" } : Jvm.MethodName)) ∈ UW := ut_2 (List.mem_of_getElem? (i := 137) rfl) rfl
theorem u_2_138 : (Jvm.Cond.instanceMethod ({ cls := "CountTriangles", name := "rest", desc := "(IIII)I" } : Jvm.MethodName)) ∈ UW := ut_2 (List.mem_of_getElem? (i := 138) rfl) rfl
theorem u_2_139 : (Jvm.Cond.selects "CountTriangles" ({ cls := "CountTriangles", name := "rest", desc := "(IIII)I" } : Jvm.MethodName) ({ cls := "CountTriangles", name := "rest", desc := "(IIII)I" } : Jvm.MethodName)) ∈ UW := ut_2 (List.mem_of_getElem? (i := 139) rfl) rfl
theorem u_2_140 : (Jvm.Cond.code ({ cls := "CountTriangles", name := "rest", desc := "(IIII)I" } : Jvm.MethodName) prog_1_method_9_code (5 : Nat) (Option.some Jvm.ClassFile.FieldType.int)) ∈ UW := ut_2 (List.mem_of_getElem? (i := 140) rfl) rfl
theorem u_2_141 : (Jvm.Cond.methodLink "CountTriangles" (114 : Nat) ({ cls := "CountTriangles$Law", name := "restAt", desc := "(III)I" } : Jvm.MethodName)) ∈ UW := ut_2 (List.mem_of_getElem? (i := 141) rfl) rfl
theorem u_2_142 : (Jvm.Cond.instanceMethod ({ cls := "CountTriangles$Law", name := "restAt", desc := "(III)I" } : Jvm.MethodName)) ∈ UW := ut_2 (List.mem_of_getElem? (i := 142) rfl) rfl
theorem u_2_143 : (Jvm.Cond.selects "CountTriangles$Law" ({ cls := "CountTriangles$Law", name := "restAt", desc := "(III)I" } : Jvm.MethodName) ({ cls := "CountTriangles$Law", name := "restAt", desc := "(III)I" } : Jvm.MethodName)) ∈ UW := ut_2 (List.mem_of_getElem? (i := 143) rfl) rfl
theorem u_2_144 : (Jvm.Cond.code ({ cls := "CountTriangles$Law", name := "restAt", desc := "(III)I" } : Jvm.MethodName) prog_4_method_19_code (7 : Nat) (Option.some Jvm.ClassFile.FieldType.int)) ∈ UW := ut_2 (List.mem_of_getElem? (i := 144) rfl) rfl
theorem u_2_145 : (Jvm.Cond.methodLink "CountTriangles$Law" (115 : Nat) ({ cls := "java/lang/Math", name := "floorMod", desc := "(II)I" } : Jvm.MethodName)) ∈ UW := ut_2 (List.mem_of_getElem? (i := 145) rfl) rfl
theorem u_2_146 : (Jvm.Cond.static ({ cls := "java/lang/Math", name := "floorMod", desc := "(II)I" } : Jvm.MethodName)) ∈ UW := ut_2 (List.mem_of_getElem? (i := 146) rfl) rfl
theorem u_2_147 : (Jvm.Cond.code ({ cls := "java/lang/Math", name := "floorMod", desc := "(II)I" } : Jvm.MethodName) prog_16_method_50_code (3 : Nat) (Option.some Jvm.ClassFile.FieldType.int)) ∈ UW := ut_2 (List.mem_of_getElem? (i := 147) rfl) rfl
theorem u_2_148 : (Jvm.Cond.methodLink "CountTriangles$Law" (119 : Nat) ({ cls := "java/lang/Math", name := "min", desc := "(II)I" } : Jvm.MethodName)) ∈ UW := ut_2 (List.mem_of_getElem? (i := 148) rfl) rfl
theorem u_2_149 : (Jvm.Cond.static ({ cls := "java/lang/Math", name := "min", desc := "(II)I" } : Jvm.MethodName)) ∈ UW := ut_2 (List.mem_of_getElem? (i := 149) rfl) rfl
theorem u_2_150 : (Jvm.Cond.code ({ cls := "java/lang/Math", name := "min", desc := "(II)I" } : Jvm.MethodName) prog_16_method_69_code (2 : Nat) (Option.some Jvm.ClassFile.FieldType.int)) ∈ UW := ut_2 (List.mem_of_getElem? (i := 150) rfl) rfl
theorem u_2_151 : (Jvm.Cond.methodLink "CountTrianglesLaw" (53 : Nat) ({ cls := "CountTriangles", name := "times", desc := "(IIII)J" } : Jvm.MethodName)) ∈ UW := ut_2 (List.mem_of_getElem? (i := 151) rfl) rfl
theorem u_2_152 : (Jvm.Cond.instanceMethod ({ cls := "CountTriangles", name := "times", desc := "(IIII)J" } : Jvm.MethodName)) ∈ UW := ut_2 (List.mem_of_getElem? (i := 152) rfl) rfl
theorem u_2_153 : (Jvm.Cond.selects "CountTriangles" ({ cls := "CountTriangles", name := "times", desc := "(IIII)J" } : Jvm.MethodName) ({ cls := "CountTriangles", name := "times", desc := "(IIII)J" } : Jvm.MethodName)) ∈ UW := ut_2 (List.mem_of_getElem? (i := 153) rfl) rfl
theorem u_2_154 : (Jvm.Cond.code ({ cls := "CountTriangles", name := "times", desc := "(IIII)J" } : Jvm.MethodName) prog_1_method_10_code (5 : Nat) (Option.some Jvm.ClassFile.FieldType.long)) ∈ UW := ut_2 (List.mem_of_getElem? (i := 154) rfl) rfl
theorem u_2_155 : (Jvm.Cond.methodLink "CountTriangles" (118 : Nat) ({ cls := "CountTriangles$Law", name := "productAt", desc := "(LCountTriangles$Law;II)J" } : Jvm.MethodName)) ∈ UW := ut_2 (List.mem_of_getElem? (i := 155) rfl) rfl
theorem u_2_156 : (Jvm.Cond.instanceMethod ({ cls := "CountTriangles$Law", name := "productAt", desc := "(LCountTriangles$Law;II)J" } : Jvm.MethodName)) ∈ UW := ut_2 (List.mem_of_getElem? (i := 156) rfl) rfl
theorem u_2_157 : (Jvm.Cond.selects "CountTriangles$Law" ({ cls := "CountTriangles$Law", name := "productAt", desc := "(LCountTriangles$Law;II)J" } : Jvm.MethodName) ({ cls := "CountTriangles$Law", name := "productAt", desc := "(LCountTriangles$Law;II)J" } : Jvm.MethodName)) ∈ UW := ut_2 (List.mem_of_getElem? (i := 157) rfl) rfl
theorem u_2_158 : (Jvm.Cond.code ({ cls := "CountTriangles$Law", name := "productAt", desc := "(LCountTriangles$Law;II)J" } : Jvm.MethodName) prog_4_method_20_code (9 : Nat) (Option.some Jvm.ClassFile.FieldType.long)) ∈ UW := ut_2 (List.mem_of_getElem? (i := 158) rfl) rfl
theorem u_2_159 : (Jvm.Cond.methodLink "CountTrianglesLaw" (58 : Nat) ({ cls := "CountTriangles", name := "undoes", desc := "(III)I" } : Jvm.MethodName)) ∈ UW := ut_2 (List.mem_of_getElem? (i := 159) rfl) rfl
theorem u_2_160 : (Jvm.Cond.instanceMethod ({ cls := "CountTriangles", name := "undoes", desc := "(III)I" } : Jvm.MethodName)) ∈ UW := ut_2 (List.mem_of_getElem? (i := 160) rfl) rfl
theorem u_2_161 : (Jvm.Cond.selects "CountTriangles" ({ cls := "CountTriangles", name := "undoes", desc := "(III)I" } : Jvm.MethodName) ({ cls := "CountTriangles", name := "undoes", desc := "(III)I" } : Jvm.MethodName)) ∈ UW := ut_2 (List.mem_of_getElem? (i := 161) rfl) rfl
theorem u_2_162 : (Jvm.Cond.code ({ cls := "CountTriangles", name := "undoes", desc := "(III)I" } : Jvm.MethodName) prog_1_method_11_code (4 : Nat) (Option.some Jvm.ClassFile.FieldType.int)) ∈ UW := ut_2 (List.mem_of_getElem? (i := 162) rfl) rfl
theorem u_2_163 : (Jvm.Cond.methodLink "CountTriangles" (122 : Nat) ({ cls := "CountTriangles$Law", name := "firstRowNotUndone", desc := "(LCountTriangles$Law;I)I" } : Jvm.MethodName)) ∈ UW := ut_2 (List.mem_of_getElem? (i := 163) rfl) rfl
theorem u_2_164 : (Jvm.Cond.instanceMethod ({ cls := "CountTriangles$Law", name := "firstRowNotUndone", desc := "(LCountTriangles$Law;I)I" } : Jvm.MethodName)) ∈ UW := ut_2 (List.mem_of_getElem? (i := 164) rfl) rfl
theorem u_2_165 : (Jvm.Cond.selects "CountTriangles$Law" ({ cls := "CountTriangles$Law", name := "firstRowNotUndone", desc := "(LCountTriangles$Law;I)I" } : Jvm.MethodName) ({ cls := "CountTriangles$Law", name := "firstRowNotUndone", desc := "(LCountTriangles$Law;I)I" } : Jvm.MethodName)) ∈ UW := ut_2 (List.mem_of_getElem? (i := 165) rfl) rfl
theorem u_2_166 : (Jvm.Cond.code ({ cls := "CountTriangles$Law", name := "firstRowNotUndone", desc := "(LCountTriangles$Law;I)I" } : Jvm.MethodName) prog_4_method_21_code (7 : Nat) (Option.some Jvm.ClassFile.FieldType.int)) ∈ UW := ut_2 (List.mem_of_getElem? (i := 166) rfl) rfl
theorem u_2_167 : (Jvm.Cond.methodLink "CountTriangles$Law" (122 : Nat) ({ cls := "CountTriangles$Law", name := "productAt", desc := "(LCountTriangles$Law;II)J" } : Jvm.MethodName)) ∈ UW := ut_2 (List.mem_of_getElem? (i := 167) rfl) rfl
theorem u_2_168 : (Jvm.Cond.methodLink "CountTrianglesLaw" (62 : Nat) ({ cls := "CountTriangles", name := "back", desc := "(III)J" } : Jvm.MethodName)) ∈ UW := ut_2 (List.mem_of_getElem? (i := 168) rfl) rfl
theorem u_2_169 : (Jvm.Cond.instanceMethod ({ cls := "CountTriangles", name := "back", desc := "(III)J" } : Jvm.MethodName)) ∈ UW := ut_2 (List.mem_of_getElem? (i := 169) rfl) rfl
theorem u_2_170 : (Jvm.Cond.selects "CountTriangles" ({ cls := "CountTriangles", name := "back", desc := "(III)J" } : Jvm.MethodName) ({ cls := "CountTriangles", name := "back", desc := "(III)J" } : Jvm.MethodName)) ∈ UW := ut_2 (List.mem_of_getElem? (i := 170) rfl) rfl
theorem u_2_171 : (Jvm.Cond.code ({ cls := "CountTriangles", name := "back", desc := "(III)J" } : Jvm.MethodName) prog_1_method_12_code (4 : Nat) (Option.some Jvm.ClassFile.FieldType.long)) ∈ UW := ut_2 (List.mem_of_getElem? (i := 171) rfl) rfl
theorem u_2_172 : (Jvm.Cond.methodLink "CountTriangles" (126 : Nat) ({ cls := "CountTriangles$Law", name := "inverseAt", desc := "(II)J" } : Jvm.MethodName)) ∈ UW := ut_2 (List.mem_of_getElem? (i := 172) rfl) rfl
theorem u_2_173 : (Jvm.Cond.instanceMethod ({ cls := "CountTriangles$Law", name := "inverseAt", desc := "(II)J" } : Jvm.MethodName)) ∈ UW := ut_2 (List.mem_of_getElem? (i := 173) rfl) rfl
theorem u_2_174 : (Jvm.Cond.selects "CountTriangles$Law" ({ cls := "CountTriangles$Law", name := "inverseAt", desc := "(II)J" } : Jvm.MethodName) ({ cls := "CountTriangles$Law", name := "inverseAt", desc := "(II)J" } : Jvm.MethodName)) ∈ UW := ut_2 (List.mem_of_getElem? (i := 174) rfl) rfl
theorem u_2_175 : (Jvm.Cond.code ({ cls := "CountTriangles$Law", name := "inverseAt", desc := "(II)J" } : Jvm.MethodName) prog_4_method_22_code (6 : Nat) (Option.some Jvm.ClassFile.FieldType.long)) ∈ UW := ut_2 (List.mem_of_getElem? (i := 175) rfl) rfl
theorem u_2_176 : (Jvm.Cond.methodLink "CountTriangles$Law" (126 : Nat) ({ cls := "CountTriangles$Law", name := "endsInOnes", desc := "(I)Z" } : Jvm.MethodName)) ∈ UW := ut_2 (List.mem_of_getElem? (i := 176) rfl) rfl
theorem u_2_178 : (Jvm.Cond.instanceMethod ({ cls := "CountTriangles$Law", name := "endsInOnes", desc := "(I)Z" } : Jvm.MethodName)) ∈ UW := ut_2 (List.mem_of_getElem? (i := 178) rfl) rfl
theorem u_2_179 : (Jvm.Cond.code ({ cls := "CountTriangles$Law", name := "endsInOnes", desc := "(I)Z" } : Jvm.MethodName) prog_4_method_24_code (3 : Nat) (Option.some Jvm.ClassFile.FieldType.boolean)) ∈ UW := ut_2 (List.mem_of_getElem? (i := 179) rfl) rfl
theorem u_2_180 : (Jvm.Cond.constantLong "CountTriangles$Law" (133 : Nat) (-1 : Int64)) ∈ UW := ut_2 (List.mem_of_getElem? (i := 180) rfl) rfl
theorem u_2_181 : (Jvm.Cond.methodLink "CountTriangles$Law" (130 : Nat) ({ cls := "CountTriangles$Law", name := "columnSum", desc := "(II)J" } : Jvm.MethodName)) ∈ UW := ut_2 (List.mem_of_getElem? (i := 181) rfl) rfl
theorem u_2_183 : (Jvm.Cond.instanceMethod ({ cls := "CountTriangles$Law", name := "columnSum", desc := "(II)J" } : Jvm.MethodName)) ∈ UW := ut_2 (List.mem_of_getElem? (i := 183) rfl) rfl
theorem u_2_184 : (Jvm.Cond.code ({ cls := "CountTriangles$Law", name := "columnSum", desc := "(II)J" } : Jvm.MethodName) prog_4_method_23_code (8 : Nat) (Option.some Jvm.ClassFile.FieldType.long)) ∈ UW := ut_2 (List.mem_of_getElem? (i := 184) rfl) rfl
theorem u_2_185 : (Jvm.Cond.methodLink "CountTrianglesLaw" (66 : Nat) ({ cls := "CountTriangles", name := "parting", desc := "(III)I" } : Jvm.MethodName)) ∈ UW := ut_2 (List.mem_of_getElem? (i := 185) rfl) rfl
theorem u_2_186 : (Jvm.Cond.instanceMethod ({ cls := "CountTriangles", name := "parting", desc := "(III)I" } : Jvm.MethodName)) ∈ UW := ut_2 (List.mem_of_getElem? (i := 186) rfl) rfl
theorem u_2_187 : (Jvm.Cond.selects "CountTriangles" ({ cls := "CountTriangles", name := "parting", desc := "(III)I" } : Jvm.MethodName) ({ cls := "CountTriangles", name := "parting", desc := "(III)I" } : Jvm.MethodName)) ∈ UW := ut_2 (List.mem_of_getElem? (i := 187) rfl) rfl
theorem u_2_188 : (Jvm.Cond.code ({ cls := "CountTriangles", name := "parting", desc := "(III)I" } : Jvm.MethodName) prog_1_method_13_code (5 : Nat) (Option.some Jvm.ClassFile.FieldType.int)) ∈ UW := ut_2 (List.mem_of_getElem? (i := 188) rfl) rfl
theorem u_2_189 : (Jvm.Cond.methodLink "CountTriangles" (129 : Nat) ({ cls := "CountTriangles$Partings", name := "want", desc := "(I)V" } : Jvm.MethodName)) ∈ UW := ut_2 (List.mem_of_getElem? (i := 189) rfl) rfl
theorem u_2_190 : (Jvm.Cond.instanceMethod ({ cls := "CountTriangles$Partings", name := "want", desc := "(I)V" } : Jvm.MethodName)) ∈ UW := ut_2 (List.mem_of_getElem? (i := 190) rfl) rfl
theorem u_2_191 : (Jvm.Cond.selects "CountTriangles$Partings" ({ cls := "CountTriangles$Partings", name := "want", desc := "(I)V" } : Jvm.MethodName) ({ cls := "CountTriangles$Partings", name := "want", desc := "(I)V" } : Jvm.MethodName)) ∈ UW := ut_2 (List.mem_of_getElem? (i := 191) rfl) rfl
theorem u_2_192 : (Jvm.Cond.code ({ cls := "CountTriangles$Partings", name := "want", desc := "(I)V" } : Jvm.MethodName) prog_9_method_2_code (4 : Nat) (Option.none : Option Jvm.ClassFile.FieldType)) ∈ UW := ut_2 (List.mem_of_getElem? (i := 192) rfl) rfl
theorem u_2_193 : (Jvm.Cond.methodLink "CountTriangles$Partings" (15 : Nat) ({ cls := "CountTriangles$Partings", name := "waysFrom", desc := "(II)I" } : Jvm.MethodName)) ∈ UW := ut_2 (List.mem_of_getElem? (i := 193) rfl) rfl
theorem u_2_195 : (Jvm.Cond.instanceMethod ({ cls := "CountTriangles$Partings", name := "waysFrom", desc := "(II)I" } : Jvm.MethodName)) ∈ UW := ut_2 (List.mem_of_getElem? (i := 195) rfl) rfl
theorem u_2_196 : (Jvm.Cond.code ({ cls := "CountTriangles$Partings", name := "waysFrom", desc := "(II)I" } : Jvm.MethodName) prog_9_method_3_code (3 : Nat) (Option.some Jvm.ClassFile.FieldType.int)) ∈ UW := ut_2 (List.mem_of_getElem? (i := 196) rfl) rfl
theorem u_2_198 : (Jvm.Cond.methodLink "CountTriangles" (133 : Nat) ({ cls := "CountTriangles$Partings", name := "howMany", desc := "(I)I" } : Jvm.MethodName)) ∈ UW := ut_2 (List.mem_of_getElem? (i := 198) rfl) rfl
theorem u_2_199 : (Jvm.Cond.instanceMethod ({ cls := "CountTriangles$Partings", name := "howMany", desc := "(I)I" } : Jvm.MethodName)) ∈ UW := ut_2 (List.mem_of_getElem? (i := 199) rfl) rfl
theorem u_2_200 : (Jvm.Cond.selects "CountTriangles$Partings" ({ cls := "CountTriangles$Partings", name := "howMany", desc := "(I)I" } : Jvm.MethodName) ({ cls := "CountTriangles$Partings", name := "howMany", desc := "(I)I" } : Jvm.MethodName)) ∈ UW := ut_2 (List.mem_of_getElem? (i := 200) rfl) rfl
theorem u_2_201 : (Jvm.Cond.code ({ cls := "CountTriangles$Partings", name := "howMany", desc := "(I)I" } : Jvm.MethodName) prog_9_method_4_code (2 : Nat) (Option.some Jvm.ClassFile.FieldType.int)) ∈ UW := ut_2 (List.mem_of_getElem? (i := 201) rfl) rfl
theorem u_2_202 : (Jvm.Cond.methodLink "CountTriangles" (136 : Nat) ({ cls := "CountTriangles$Partings", name := "ith", desc := "(II)I" } : Jvm.MethodName)) ∈ UW := ut_2 (List.mem_of_getElem? (i := 202) rfl) rfl
theorem u_2_203 : (Jvm.Cond.instanceMethod ({ cls := "CountTriangles$Partings", name := "ith", desc := "(II)I" } : Jvm.MethodName)) ∈ UW := ut_2 (List.mem_of_getElem? (i := 203) rfl) rfl
theorem u_2_204 : (Jvm.Cond.selects "CountTriangles$Partings" ({ cls := "CountTriangles$Partings", name := "ith", desc := "(II)I" } : Jvm.MethodName) ({ cls := "CountTriangles$Partings", name := "ith", desc := "(II)I" } : Jvm.MethodName)) ∈ UW := ut_2 (List.mem_of_getElem? (i := 204) rfl) rfl
theorem u_2_205 : (Jvm.Cond.code ({ cls := "CountTriangles$Partings", name := "ith", desc := "(II)I" } : Jvm.MethodName) prog_9_method_5_code (9 : Nat) (Option.some Jvm.ClassFile.FieldType.int)) ∈ UW := ut_2 (List.mem_of_getElem? (i := 205) rfl) rfl
theorem u_2_206 : (Jvm.Cond.methodLink "CountTriangles$Partings" (23 : Nat) ({ cls := "java/lang/Math", name := "min", desc := "(II)I" } : Jvm.MethodName)) ∈ UW := ut_2 (List.mem_of_getElem? (i := 206) rfl) rfl
theorem u_2_207 : (Jvm.Cond.methodLink "CountTriangles$Partings" (28 : Nat) ({ cls := "java/lang/Math", name := "max", desc := "(II)I" } : Jvm.MethodName)) ∈ UW := ut_2 (List.mem_of_getElem? (i := 207) rfl) rfl
theorem u_2_208 : (Jvm.Cond.static ({ cls := "java/lang/Math", name := "max", desc := "(II)I" } : Jvm.MethodName)) ∈ UW := ut_2 (List.mem_of_getElem? (i := 208) rfl) rfl
theorem u_2_209 : (Jvm.Cond.code ({ cls := "java/lang/Math", name := "max", desc := "(II)I" } : Jvm.MethodName) prog_16_method_65_code (2 : Nat) (Option.some Jvm.ClassFile.FieldType.int)) ∈ UW := ut_2 (List.mem_of_getElem? (i := 209) rfl) rfl
theorem u_2_210 : (Jvm.Cond.methodLink "CountTrianglesLaw" (70 : Nat) ({ cls := "CountTriangles", name := "partRank", desc := "(II)I" } : Jvm.MethodName)) ∈ UW := ut_2 (List.mem_of_getElem? (i := 210) rfl) rfl
theorem u_2_211 : (Jvm.Cond.instanceMethod ({ cls := "CountTriangles", name := "partRank", desc := "(II)I" } : Jvm.MethodName)) ∈ UW := ut_2 (List.mem_of_getElem? (i := 211) rfl) rfl
theorem u_2_212 : (Jvm.Cond.selects "CountTriangles" ({ cls := "CountTriangles", name := "partRank", desc := "(II)I" } : Jvm.MethodName) ({ cls := "CountTriangles", name := "partRank", desc := "(II)I" } : Jvm.MethodName)) ∈ UW := ut_2 (List.mem_of_getElem? (i := 212) rfl) rfl
theorem u_2_213 : (Jvm.Cond.code ({ cls := "CountTriangles", name := "partRank", desc := "(II)I" } : Jvm.MethodName) prog_1_method_14_code (4 : Nat) (Option.some Jvm.ClassFile.FieldType.int)) ∈ UW := ut_2 (List.mem_of_getElem? (i := 213) rfl) rfl
theorem u_2_214 : (Jvm.Cond.methodLink "CountTriangles" (140 : Nat) ({ cls := "CountTriangles$Partings", name := "partsOf", desc := "(II)I" } : Jvm.MethodName)) ∈ UW := ut_2 (List.mem_of_getElem? (i := 214) rfl) rfl
theorem u_2_215 : (Jvm.Cond.instanceMethod ({ cls := "CountTriangles$Partings", name := "partsOf", desc := "(II)I" } : Jvm.MethodName)) ∈ UW := ut_2 (List.mem_of_getElem? (i := 215) rfl) rfl
theorem u_2_216 : (Jvm.Cond.selects "CountTriangles$Partings" ({ cls := "CountTriangles$Partings", name := "partsOf", desc := "(II)I" } : Jvm.MethodName) ({ cls := "CountTriangles$Partings", name := "partsOf", desc := "(II)I" } : Jvm.MethodName)) ∈ UW := ut_2 (List.mem_of_getElem? (i := 216) rfl) rfl
theorem u_2_217 : (Jvm.Cond.code ({ cls := "CountTriangles$Partings", name := "partsOf", desc := "(II)I" } : Jvm.MethodName) prog_9_method_6_code (6 : Nat) (Option.some Jvm.ClassFile.FieldType.int)) ∈ UW := ut_2 (List.mem_of_getElem? (i := 217) rfl) rfl
theorem u_2_219 : (Jvm.Cond.static ({ cls := "CountTriangles", name := "hasDigitsAlone", desc := "(II)Z" } : Jvm.MethodName)) ∈ UW := ut_2 (List.mem_of_getElem? (i := 219) rfl) rfl
theorem u_2_220 : (Jvm.Cond.code ({ cls := "CountTriangles", name := "hasDigitsAlone", desc := "(II)Z" } : Jvm.MethodName) prog_1_method_39_code (2 : Nat) (Option.some Jvm.ClassFile.FieldType.boolean)) ∈ UW := ut_2 (List.mem_of_getElem? (i := 220) rfl) rfl
theorem u_2_222 : (Jvm.Cond.static ({ cls := "CountTriangles", name := "digitAt", desc := "(III)I" } : Jvm.MethodName)) ∈ UW := ut_2 (List.mem_of_getElem? (i := 222) rfl) rfl
theorem u_2_223 : (Jvm.Cond.code ({ cls := "CountTriangles", name := "digitAt", desc := "(III)I" } : Jvm.MethodName) prog_1_method_38_code (3 : Nat) (Option.some Jvm.ClassFile.FieldType.int)) ∈ UW := ut_2 (List.mem_of_getElem? (i := 223) rfl) rfl
theorem u_2_224 : (Jvm.Cond.methodLink "CountTriangles" (143 : Nat) ({ cls := "CountTriangles$Partings", name := "rankOf", desc := "(II)I" } : Jvm.MethodName)) ∈ UW := ut_2 (List.mem_of_getElem? (i := 224) rfl) rfl
theorem u_2_225 : (Jvm.Cond.instanceMethod ({ cls := "CountTriangles$Partings", name := "rankOf", desc := "(II)I" } : Jvm.MethodName)) ∈ UW := ut_2 (List.mem_of_getElem? (i := 225) rfl) rfl
theorem u_2_226 : (Jvm.Cond.selects "CountTriangles$Partings" ({ cls := "CountTriangles$Partings", name := "rankOf", desc := "(II)I" } : Jvm.MethodName) ({ cls := "CountTriangles$Partings", name := "rankOf", desc := "(II)I" } : Jvm.MethodName)) ∈ UW := ut_2 (List.mem_of_getElem? (i := 226) rfl) rfl
theorem u_2_227 : (Jvm.Cond.code ({ cls := "CountTriangles$Partings", name := "rankOf", desc := "(II)I" } : Jvm.MethodName) prog_9_method_7_code (7 : Nat) (Option.some Jvm.ClassFile.FieldType.int)) ∈ UW := ut_2 (List.mem_of_getElem? (i := 227) rfl) rfl
theorem u_2_228 : (Jvm.Cond.methodLink "CountTrianglesLaw" (75 : Nat) ({ cls := "CountTriangles", name := "orders", desc := "(IIII)I" } : Jvm.MethodName)) ∈ UW := ut_2 (List.mem_of_getElem? (i := 228) rfl) rfl
theorem u_2_229 : (Jvm.Cond.instanceMethod ({ cls := "CountTriangles", name := "orders", desc := "(IIII)I" } : Jvm.MethodName)) ∈ UW := ut_2 (List.mem_of_getElem? (i := 229) rfl) rfl
theorem u_2_230 : (Jvm.Cond.selects "CountTriangles" ({ cls := "CountTriangles", name := "orders", desc := "(IIII)I" } : Jvm.MethodName) ({ cls := "CountTriangles", name := "orders", desc := "(IIII)I" } : Jvm.MethodName)) ∈ UW := ut_2 (List.mem_of_getElem? (i := 230) rfl) rfl
theorem u_2_231 : (Jvm.Cond.code ({ cls := "CountTriangles", name := "orders", desc := "(IIII)I" } : Jvm.MethodName) prog_1_method_15_code (6 : Nat) (Option.some Jvm.ClassFile.FieldType.int)) ∈ UW := ut_2 (List.mem_of_getElem? (i := 231) rfl) rfl
theorem u_2_232 : (Jvm.Cond.methodLink "CountTriangles" (146 : Nat) ({ cls := "CountTriangles$Orders", name := "howMany", desc := "(III)I" } : Jvm.MethodName)) ∈ UW := ut_2 (List.mem_of_getElem? (i := 232) rfl) rfl
theorem u_2_233 : (Jvm.Cond.instanceMethod ({ cls := "CountTriangles$Orders", name := "howMany", desc := "(III)I" } : Jvm.MethodName)) ∈ UW := ut_2 (List.mem_of_getElem? (i := 233) rfl) rfl
theorem u_2_234 : (Jvm.Cond.selects "CountTriangles$Orders" ({ cls := "CountTriangles$Orders", name := "howMany", desc := "(III)I" } : Jvm.MethodName) ({ cls := "CountTriangles$Orders", name := "howMany", desc := "(III)I" } : Jvm.MethodName)) ∈ UW := ut_2 (List.mem_of_getElem? (i := 234) rfl) rfl
theorem u_2_235 : (Jvm.Cond.code ({ cls := "CountTriangles$Orders", name := "howMany", desc := "(III)I" } : Jvm.MethodName) prog_8_method_3_code (4 : Nat) (Option.some Jvm.ClassFile.FieldType.int)) ∈ UW := ut_2 (List.mem_of_getElem? (i := 235) rfl) rfl
theorem u_2_236 : (Jvm.Cond.methodLink "CountTriangles$Orders" (49 : Nat) ({ cls := "CountTriangles$Mark", name := "start", desc := "(I)I" } : Jvm.MethodName)) ∈ UW := ut_2 (List.mem_of_getElem? (i := 236) rfl) rfl
theorem u_2_238 : (Jvm.Cond.sameMethod "CountTriangles$Mark" "CountTriangles$Mark" "start" "(I)I") ∈ UW := ut_2 (List.mem_of_getElem? (i := 238) rfl) rfl
theorem u_2_239 : (Jvm.Cond.selects "CountTriangles$Falls" ({ cls := "CountTriangles$Mark", name := "start", desc := "(I)I" } : Jvm.MethodName) ({ cls := "CountTriangles$Falls", name := "start", desc := "(I)I" } : Jvm.MethodName)) ∈ UW := ut_2 (List.mem_of_getElem? (i := 239) rfl) rfl
theorem u_3_0 : (Jvm.Cond.instanceMethod ({ cls := "CountTriangles$Falls", name := "start", desc := "(I)I" } : Jvm.MethodName)) ∈ UW := ut_3 (List.mem_of_getElem? (i := 0) rfl) rfl
theorem u_3_1 : (Jvm.Cond.code ({ cls := "CountTriangles$Falls", name := "start", desc := "(I)I" } : Jvm.MethodName) prog_2_method_3_code (2 : Nat) (Option.some Jvm.ClassFile.FieldType.int)) ∈ UW := ut_3 (List.mem_of_getElem? (i := 1) rfl) rfl
theorem u_3_2 : (Jvm.Cond.selects "CountTriangles$Heights" ({ cls := "CountTriangles$Mark", name := "start", desc := "(I)I" } : Jvm.MethodName) ({ cls := "CountTriangles$Heights", name := "start", desc := "(I)I" } : Jvm.MethodName)) ∈ UW := ut_3 (List.mem_of_getElem? (i := 2) rfl) rfl
theorem u_3_3 : (Jvm.Cond.instanceMethod ({ cls := "CountTriangles$Heights", name := "start", desc := "(I)I" } : Jvm.MethodName)) ∈ UW := ut_3 (List.mem_of_getElem? (i := 3) rfl) rfl
theorem u_3_4 : (Jvm.Cond.code ({ cls := "CountTriangles$Heights", name := "start", desc := "(I)I" } : Jvm.MethodName) prog_3_method_2_code (2 : Nat) (Option.some Jvm.ClassFile.FieldType.int)) ∈ UW := ut_3 (List.mem_of_getElem? (i := 4) rfl) rfl
theorem u_3_5 : (Jvm.Cond.selects "CountTriangles$LesserPairs" ({ cls := "CountTriangles$Mark", name := "start", desc := "(I)I" } : Jvm.MethodName) ({ cls := "CountTriangles$LesserPairs", name := "start", desc := "(I)I" } : Jvm.MethodName)) ∈ UW := ut_3 (List.mem_of_getElem? (i := 5) rfl) rfl
theorem u_3_6 : (Jvm.Cond.instanceMethod ({ cls := "CountTriangles$LesserPairs", name := "start", desc := "(I)I" } : Jvm.MethodName)) ∈ UW := ut_3 (List.mem_of_getElem? (i := 6) rfl) rfl
theorem u_3_7 : (Jvm.Cond.code ({ cls := "CountTriangles$LesserPairs", name := "start", desc := "(I)I" } : Jvm.MethodName) prog_5_method_3_code (2 : Nat) (Option.some Jvm.ClassFile.FieldType.int)) ∈ UW := ut_3 (List.mem_of_getElem? (i := 7) rfl) rfl
theorem u_3_8 : (Jvm.Cond.selects "CountTriangles$LongestRise" ({ cls := "CountTriangles$Mark", name := "start", desc := "(I)I" } : Jvm.MethodName) ({ cls := "CountTriangles$LongestRise", name := "start", desc := "(I)I" } : Jvm.MethodName)) ∈ UW := ut_3 (List.mem_of_getElem? (i := 8) rfl) rfl
theorem u_3_9 : (Jvm.Cond.instanceMethod ({ cls := "CountTriangles$LongestRise", name := "start", desc := "(I)I" } : Jvm.MethodName)) ∈ UW := ut_3 (List.mem_of_getElem? (i := 9) rfl) rfl
theorem u_3_10 : (Jvm.Cond.code ({ cls := "CountTriangles$LongestRise", name := "start", desc := "(I)I" } : Jvm.MethodName) prog_6_method_2_code (2 : Nat) (Option.some Jvm.ClassFile.FieldType.int)) ∈ UW := ut_3 (List.mem_of_getElem? (i := 10) rfl) rfl
theorem u_3_11 : (Jvm.Cond.selects "CountTriangles$Rings" ({ cls := "CountTriangles$Mark", name := "start", desc := "(I)I" } : Jvm.MethodName) ({ cls := "CountTriangles$Rings", name := "start", desc := "(I)I" } : Jvm.MethodName)) ∈ UW := ut_3 (List.mem_of_getElem? (i := 11) rfl) rfl
theorem u_3_12 : (Jvm.Cond.instanceMethod ({ cls := "CountTriangles$Rings", name := "start", desc := "(I)I" } : Jvm.MethodName)) ∈ UW := ut_3 (List.mem_of_getElem? (i := 12) rfl) rfl
theorem u_3_13 : (Jvm.Cond.code ({ cls := "CountTriangles$Rings", name := "start", desc := "(I)I" } : Jvm.MethodName) prog_11_method_2_code (2 : Nat) (Option.some Jvm.ClassFile.FieldType.int)) ∈ UW := ut_3 (List.mem_of_getElem? (i := 13) rfl) rfl
theorem u_3_14 : (Jvm.Cond.methodLink "CountTriangles$Orders" (53 : Nat) ({ cls := "CountTriangles$Mark", name := "ways", desc := "(III)I" } : Jvm.MethodName)) ∈ UW := ut_3 (List.mem_of_getElem? (i := 14) rfl) rfl
theorem u_3_16 : (Jvm.Cond.sameMethod "CountTriangles$Mark" "CountTriangles$Mark" "ways" "(III)I") ∈ UW := ut_3 (List.mem_of_getElem? (i := 16) rfl) rfl
theorem u_3_17 : (Jvm.Cond.selects "CountTriangles$Falls" ({ cls := "CountTriangles$Mark", name := "ways", desc := "(III)I" } : Jvm.MethodName) ({ cls := "CountTriangles$Falls", name := "ways", desc := "(III)I" } : Jvm.MethodName)) ∈ UW := ut_3 (List.mem_of_getElem? (i := 17) rfl) rfl
theorem u_3_18 : (Jvm.Cond.selects "CountTriangles$Heights" ({ cls := "CountTriangles$Mark", name := "ways", desc := "(III)I" } : Jvm.MethodName) ({ cls := "CountTriangles$Heights", name := "ways", desc := "(III)I" } : Jvm.MethodName)) ∈ UW := ut_3 (List.mem_of_getElem? (i := 18) rfl) rfl
theorem u_3_19 : (Jvm.Cond.instanceMethod ({ cls := "CountTriangles$Heights", name := "ways", desc := "(III)I" } : Jvm.MethodName)) ∈ UW := ut_3 (List.mem_of_getElem? (i := 19) rfl) rfl
theorem u_3_20 : (Jvm.Cond.code ({ cls := "CountTriangles$Heights", name := "ways", desc := "(III)I" } : Jvm.MethodName) prog_3_method_5_code (4 : Nat) (Option.some Jvm.ClassFile.FieldType.int)) ∈ UW := ut_3 (List.mem_of_getElem? (i := 20) rfl) rfl
theorem u_3_24 : (Jvm.Cond.methodLink "CountTriangles$Heights" (29 : Nat) ({ cls := "CountTriangles$Rings", name := "ways", desc := "(III)I" } : Jvm.MethodName)) ∈ UW := ut_3 (List.mem_of_getElem? (i := 24) rfl) rfl
theorem u_3_25 : (Jvm.Cond.selects "CountTriangles$LesserPairs" ({ cls := "CountTriangles$Mark", name := "ways", desc := "(III)I" } : Jvm.MethodName) ({ cls := "CountTriangles$LesserPairs", name := "ways", desc := "(III)I" } : Jvm.MethodName)) ∈ UW := ut_3 (List.mem_of_getElem? (i := 25) rfl) rfl
theorem u_3_26 : (Jvm.Cond.selects "CountTriangles$LongestRise" ({ cls := "CountTriangles$Mark", name := "ways", desc := "(III)I" } : Jvm.MethodName) ({ cls := "CountTriangles$LongestRise", name := "ways", desc := "(III)I" } : Jvm.MethodName)) ∈ UW := ut_3 (List.mem_of_getElem? (i := 26) rfl) rfl
theorem u_3_27 : (Jvm.Cond.instanceMethod ({ cls := "CountTriangles$LongestRise", name := "ways", desc := "(III)I" } : Jvm.MethodName)) ∈ UW := ut_3 (List.mem_of_getElem? (i := 27) rfl) rfl
theorem u_3_28 : (Jvm.Cond.code ({ cls := "CountTriangles$LongestRise", name := "ways", desc := "(III)I" } : Jvm.MethodName) prog_6_method_6_code (5 : Nat) (Option.some Jvm.ClassFile.FieldType.int)) ∈ UW := ut_3 (List.mem_of_getElem? (i := 28) rfl) rfl
theorem u_3_29 : (Jvm.Cond.methodLink "CountTriangles$LongestRise" (23 : Nat) ({ cls := "java/lang/Integer", name := "bitCount", desc := "(I)I" } : Jvm.MethodName)) ∈ UW := ut_3 (List.mem_of_getElem? (i := 29) rfl) rfl
theorem u_3_30 : (Jvm.Cond.static ({ cls := "java/lang/Integer", name := "bitCount", desc := "(I)I" } : Jvm.MethodName)) ∈ UW := ut_3 (List.mem_of_getElem? (i := 30) rfl) rfl
theorem u_3_31 : (Jvm.Cond.code ({ cls := "java/lang/Integer", name := "bitCount", desc := "(I)I" } : Jvm.MethodName) prog_15_method_49_code (1 : Nat) (Option.some Jvm.ClassFile.FieldType.int)) ∈ UW := ut_3 (List.mem_of_getElem? (i := 31) rfl) rfl
theorem u_3_32 : (Jvm.Cond.constant "java/lang/Integer" (265 : Nat) (1431655765 : Int32)) ∈ UW := ut_3 (List.mem_of_getElem? (i := 32) rfl) rfl
theorem u_3_33 : (Jvm.Cond.constant "java/lang/Integer" (266 : Nat) (858993459 : Int32)) ∈ UW := ut_3 (List.mem_of_getElem? (i := 33) rfl) rfl
theorem u_3_34 : (Jvm.Cond.constant "java/lang/Integer" (267 : Nat) (252645135 : Int32)) ∈ UW := ut_3 (List.mem_of_getElem? (i := 34) rfl) rfl
theorem u_3_36 : (Jvm.Cond.methodLink "CountTriangles$LongestRise" (37 : Nat) ({ cls := "CountTriangles$LongestRise", name := "fillTable", desc := "()V" } : Jvm.MethodName)) ∈ UW := ut_3 (List.mem_of_getElem? (i := 36) rfl) rfl
theorem u_3_38 : (Jvm.Cond.instanceMethod ({ cls := "CountTriangles$LongestRise", name := "fillTable", desc := "()V" } : Jvm.MethodName)) ∈ UW := ut_3 (List.mem_of_getElem? (i := 38) rfl) rfl
theorem u_3_39 : (Jvm.Cond.code ({ cls := "CountTriangles$LongestRise", name := "fillTable", desc := "()V" } : Jvm.MethodName) prog_6_method_7_code (4 : Nat) (Option.none : Option Jvm.ClassFile.FieldType)) ∈ UW := ut_3 (List.mem_of_getElem? (i := 39) rfl) rfl
theorem u_3_40 : (Jvm.Cond.methodLink "CountTriangles$LongestRise" (40 : Nat) ({ cls := "CountTriangles$LongestRise", name := "waysByNext", desc := "(II)I" } : Jvm.MethodName)) ∈ UW := ut_3 (List.mem_of_getElem? (i := 40) rfl) rfl
theorem u_3_42 : (Jvm.Cond.instanceMethod ({ cls := "CountTriangles$LongestRise", name := "waysByNext", desc := "(II)I" } : Jvm.MethodName)) ∈ UW := ut_3 (List.mem_of_getElem? (i := 42) rfl) rfl
theorem u_3_43 : (Jvm.Cond.code ({ cls := "CountTriangles$LongestRise", name := "waysByNext", desc := "(II)I" } : Jvm.MethodName) prog_6_method_8_code (6 : Nat) (Option.some Jvm.ClassFile.FieldType.int)) ∈ UW := ut_3 (List.mem_of_getElem? (i := 43) rfl) rfl
theorem u_3_44 : (Jvm.Cond.methodLink "CountTriangles$LongestRise" (29 : Nat) ({ cls := "CountTriangles$LongestRise", name := "withEnd", desc := "(II)I" } : Jvm.MethodName)) ∈ UW := ut_3 (List.mem_of_getElem? (i := 44) rfl) rfl
theorem u_3_45 : (Jvm.Cond.static ({ cls := "CountTriangles$LongestRise", name := "withEnd", desc := "(II)I" } : Jvm.MethodName)) ∈ UW := ut_3 (List.mem_of_getElem? (i := 45) rfl) rfl
theorem u_3_46 : (Jvm.Cond.code ({ cls := "CountTriangles$LongestRise", name := "withEnd", desc := "(II)I" } : Jvm.MethodName) prog_6_method_5_code (5 : Nat) (Option.some Jvm.ClassFile.FieldType.int)) ∈ UW := ut_3 (List.mem_of_getElem? (i := 46) rfl) rfl
theorem u_3_47 : (Jvm.Cond.selects "CountTriangles$Rings" ({ cls := "CountTriangles$Mark", name := "ways", desc := "(III)I" } : Jvm.MethodName) ({ cls := "CountTriangles$Rings", name := "ways", desc := "(III)I" } : Jvm.MethodName)) ∈ UW := ut_3 (List.mem_of_getElem? (i := 47) rfl) rfl
theorem u_3_48 : (Jvm.Cond.methodLink "CountTriangles" (148 : Nat) ({ cls := "CountTriangles$Orders", name := "ith", desc := "(IIII)I" } : Jvm.MethodName)) ∈ UW := ut_3 (List.mem_of_getElem? (i := 48) rfl) rfl
theorem u_3_49 : (Jvm.Cond.instanceMethod ({ cls := "CountTriangles$Orders", name := "ith", desc := "(IIII)I" } : Jvm.MethodName)) ∈ UW := ut_3 (List.mem_of_getElem? (i := 49) rfl) rfl
theorem u_3_50 : (Jvm.Cond.selects "CountTriangles$Orders" ({ cls := "CountTriangles$Orders", name := "ith", desc := "(IIII)I" } : Jvm.MethodName) ({ cls := "CountTriangles$Orders", name := "ith", desc := "(IIII)I" } : Jvm.MethodName)) ∈ UW := ut_3 (List.mem_of_getElem? (i := 50) rfl) rfl
theorem u_3_51 : (Jvm.Cond.code ({ cls := "CountTriangles$Orders", name := "ith", desc := "(IIII)I" } : Jvm.MethodName) prog_8_method_4_code (16 : Nat) (Option.some Jvm.ClassFile.FieldType.int)) ∈ UW := ut_3 (List.mem_of_getElem? (i := 51) rfl) rfl
theorem u_3_52 : (Jvm.Cond.methodLink "CountTriangles$Orders" (56 : Nat) ({ cls := "CountTriangles$Orders", name := "unusedDigit", desc := "(II)I" } : Jvm.MethodName)) ∈ UW := ut_3 (List.mem_of_getElem? (i := 52) rfl) rfl
theorem u_3_53 : (Jvm.Cond.static ({ cls := "CountTriangles$Orders", name := "unusedDigit", desc := "(II)I" } : Jvm.MethodName)) ∈ UW := ut_3 (List.mem_of_getElem? (i := 53) rfl) rfl
theorem u_3_54 : (Jvm.Cond.code ({ cls := "CountTriangles$Orders", name := "unusedDigit", desc := "(II)I" } : Jvm.MethodName) prog_8_method_5_code (4 : Nat) (Option.some Jvm.ClassFile.FieldType.int)) ∈ UW := ut_3 (List.mem_of_getElem? (i := 54) rfl) rfl
theorem u_3_55 : (Jvm.Cond.methodLink "CountTriangles$Orders" (70 : Nat) ({ cls := "java/lang/Integer", name := "bitCount", desc := "(I)I" } : Jvm.MethodName)) ∈ UW := ut_3 (List.mem_of_getElem? (i := 55) rfl) rfl
theorem u_3_56 : (Jvm.Cond.methodLink "CountTriangles$Orders" (60 : Nat) ({ cls := "CountTriangles$Mark", name := "growth", desc := "(III[II)I" } : Jvm.MethodName)) ∈ UW := ut_3 (List.mem_of_getElem? (i := 56) rfl) rfl
theorem u_3_58 : (Jvm.Cond.sameMethod "CountTriangles$Mark" "CountTriangles$Mark" "growth" "(III[II)I") ∈ UW := ut_3 (List.mem_of_getElem? (i := 58) rfl) rfl
theorem u_3_59 : (Jvm.Cond.selects "CountTriangles$Falls" ({ cls := "CountTriangles$Mark", name := "growth", desc := "(III[II)I" } : Jvm.MethodName) ({ cls := "CountTriangles$Falls", name := "growth", desc := "(III[II)I" } : Jvm.MethodName)) ∈ UW := ut_3 (List.mem_of_getElem? (i := 59) rfl) rfl
theorem u_3_60 : (Jvm.Cond.instanceMethod ({ cls := "CountTriangles$Falls", name := "growth", desc := "(III[II)I" } : Jvm.MethodName)) ∈ UW := ut_3 (List.mem_of_getElem? (i := 60) rfl) rfl
theorem u_3_61 : (Jvm.Cond.code ({ cls := "CountTriangles$Falls", name := "growth", desc := "(III[II)I" } : Jvm.MethodName) prog_2_method_4_code (6 : Nat) (Option.some Jvm.ClassFile.FieldType.int)) ∈ UW := ut_3 (List.mem_of_getElem? (i := 61) rfl) rfl
theorem u_3_62 : (Jvm.Cond.selects "CountTriangles$Heights" ({ cls := "CountTriangles$Mark", name := "growth", desc := "(III[II)I" } : Jvm.MethodName) ({ cls := "CountTriangles$Heights", name := "growth", desc := "(III[II)I" } : Jvm.MethodName)) ∈ UW := ut_3 (List.mem_of_getElem? (i := 62) rfl) rfl
theorem u_3_63 : (Jvm.Cond.instanceMethod ({ cls := "CountTriangles$Heights", name := "growth", desc := "(III[II)I" } : Jvm.MethodName)) ∈ UW := ut_3 (List.mem_of_getElem? (i := 63) rfl) rfl
theorem u_3_64 : (Jvm.Cond.code ({ cls := "CountTriangles$Heights", name := "growth", desc := "(III[II)I" } : Jvm.MethodName) prog_3_method_3_code (6 : Nat) (Option.some Jvm.ClassFile.FieldType.int)) ∈ UW := ut_3 (List.mem_of_getElem? (i := 64) rfl) rfl
theorem u_3_65 : (Jvm.Cond.selects "CountTriangles$LesserPairs" ({ cls := "CountTriangles$Mark", name := "growth", desc := "(III[II)I" } : Jvm.MethodName) ({ cls := "CountTriangles$LesserPairs", name := "growth", desc := "(III[II)I" } : Jvm.MethodName)) ∈ UW := ut_3 (List.mem_of_getElem? (i := 65) rfl) rfl
theorem u_3_66 : (Jvm.Cond.instanceMethod ({ cls := "CountTriangles$LesserPairs", name := "growth", desc := "(III[II)I" } : Jvm.MethodName)) ∈ UW := ut_3 (List.mem_of_getElem? (i := 66) rfl) rfl
theorem u_3_67 : (Jvm.Cond.code ({ cls := "CountTriangles$LesserPairs", name := "growth", desc := "(III[II)I" } : Jvm.MethodName) prog_5_method_4_code (6 : Nat) (Option.some Jvm.ClassFile.FieldType.int)) ∈ UW := ut_3 (List.mem_of_getElem? (i := 67) rfl) rfl
theorem u_3_68 : (Jvm.Cond.selects "CountTriangles$LongestRise" ({ cls := "CountTriangles$Mark", name := "growth", desc := "(III[II)I" } : Jvm.MethodName) ({ cls := "CountTriangles$LongestRise", name := "growth", desc := "(III[II)I" } : Jvm.MethodName)) ∈ UW := ut_3 (List.mem_of_getElem? (i := 68) rfl) rfl
theorem u_3_69 : (Jvm.Cond.instanceMethod ({ cls := "CountTriangles$LongestRise", name := "growth", desc := "(III[II)I" } : Jvm.MethodName)) ∈ UW := ut_3 (List.mem_of_getElem? (i := 69) rfl) rfl
theorem u_3_70 : (Jvm.Cond.code ({ cls := "CountTriangles$LongestRise", name := "growth", desc := "(III[II)I" } : Jvm.MethodName) prog_6_method_3_code (6 : Nat) (Option.some Jvm.ClassFile.FieldType.int)) ∈ UW := ut_3 (List.mem_of_getElem? (i := 70) rfl) rfl
theorem u_3_71 : (Jvm.Cond.methodLink "CountTriangles$LongestRise" (19 : Nat) ({ cls := "CountTriangles$LongestRise", name := "next", desc := "(III)I" } : Jvm.MethodName)) ∈ UW := ut_3 (List.mem_of_getElem? (i := 71) rfl) rfl
theorem u_3_72 : (Jvm.Cond.instanceMethod ({ cls := "CountTriangles$LongestRise", name := "next", desc := "(III)I" } : Jvm.MethodName)) ∈ UW := ut_3 (List.mem_of_getElem? (i := 72) rfl) rfl
theorem u_3_73 : (Jvm.Cond.selects "CountTriangles$LongestRise" ({ cls := "CountTriangles$LongestRise", name := "next", desc := "(III)I" } : Jvm.MethodName) ({ cls := "CountTriangles$LongestRise", name := "next", desc := "(III)I" } : Jvm.MethodName)) ∈ UW := ut_3 (List.mem_of_getElem? (i := 73) rfl) rfl
theorem u_3_74 : (Jvm.Cond.code ({ cls := "CountTriangles$LongestRise", name := "next", desc := "(III)I" } : Jvm.MethodName) prog_6_method_4_code (6 : Nat) (Option.some Jvm.ClassFile.FieldType.int)) ∈ UW := ut_3 (List.mem_of_getElem? (i := 74) rfl) rfl
theorem u_3_75 : (Jvm.Cond.selects "CountTriangles$Rings" ({ cls := "CountTriangles$Mark", name := "growth", desc := "(III[II)I" } : Jvm.MethodName) ({ cls := "CountTriangles$Rings", name := "growth", desc := "(III[II)I" } : Jvm.MethodName)) ∈ UW := ut_3 (List.mem_of_getElem? (i := 75) rfl) rfl
theorem u_3_76 : (Jvm.Cond.instanceMethod ({ cls := "CountTriangles$Rings", name := "growth", desc := "(III[II)I" } : Jvm.MethodName)) ∈ UW := ut_3 (List.mem_of_getElem? (i := 76) rfl) rfl
theorem u_3_77 : (Jvm.Cond.code ({ cls := "CountTriangles$Rings", name := "growth", desc := "(III[II)I" } : Jvm.MethodName) prog_11_method_3_code (8 : Nat) (Option.some Jvm.ClassFile.FieldType.int)) ∈ UW := ut_3 (List.mem_of_getElem? (i := 77) rfl) rfl
theorem u_3_78 : (Jvm.Cond.methodLink "CountTriangles$Orders" (64 : Nat) ({ cls := "CountTriangles$Mark", name := "next", desc := "(III)I" } : Jvm.MethodName)) ∈ UW := ut_3 (List.mem_of_getElem? (i := 78) rfl) rfl
theorem u_3_80 : (Jvm.Cond.sameMethod "CountTriangles$Mark" "CountTriangles$Mark" "next" "(III)I") ∈ UW := ut_3 (List.mem_of_getElem? (i := 80) rfl) rfl
theorem u_3_81 : (Jvm.Cond.selects "CountTriangles$Falls" ({ cls := "CountTriangles$Mark", name := "next", desc := "(III)I" } : Jvm.MethodName) ({ cls := "CountTriangles$Falls", name := "next", desc := "(III)I" } : Jvm.MethodName)) ∈ UW := ut_3 (List.mem_of_getElem? (i := 81) rfl) rfl
theorem u_3_82 : (Jvm.Cond.instanceMethod ({ cls := "CountTriangles$Falls", name := "next", desc := "(III)I" } : Jvm.MethodName)) ∈ UW := ut_3 (List.mem_of_getElem? (i := 82) rfl) rfl
theorem u_3_83 : (Jvm.Cond.code ({ cls := "CountTriangles$Falls", name := "next", desc := "(III)I" } : Jvm.MethodName) prog_2_method_5_code (4 : Nat) (Option.some Jvm.ClassFile.FieldType.int)) ∈ UW := ut_3 (List.mem_of_getElem? (i := 83) rfl) rfl
theorem u_3_84 : (Jvm.Cond.selects "CountTriangles$Heights" ({ cls := "CountTriangles$Mark", name := "next", desc := "(III)I" } : Jvm.MethodName) ({ cls := "CountTriangles$Heights", name := "next", desc := "(III)I" } : Jvm.MethodName)) ∈ UW := ut_3 (List.mem_of_getElem? (i := 84) rfl) rfl
theorem u_3_85 : (Jvm.Cond.instanceMethod ({ cls := "CountTriangles$Heights", name := "next", desc := "(III)I" } : Jvm.MethodName)) ∈ UW := ut_3 (List.mem_of_getElem? (i := 85) rfl) rfl
theorem u_3_86 : (Jvm.Cond.code ({ cls := "CountTriangles$Heights", name := "next", desc := "(III)I" } : Jvm.MethodName) prog_3_method_4_code (4 : Nat) (Option.some Jvm.ClassFile.FieldType.int)) ∈ UW := ut_3 (List.mem_of_getElem? (i := 86) rfl) rfl
theorem u_3_87 : (Jvm.Cond.methodLink "CountTriangles$Heights" (15 : Nat) ({ cls := "java/lang/Math", name := "min", desc := "(II)I" } : Jvm.MethodName)) ∈ UW := ut_3 (List.mem_of_getElem? (i := 87) rfl) rfl
theorem u_3_88 : (Jvm.Cond.selects "CountTriangles$LesserPairs" ({ cls := "CountTriangles$Mark", name := "next", desc := "(III)I" } : Jvm.MethodName) ({ cls := "CountTriangles$LesserPairs", name := "next", desc := "(III)I" } : Jvm.MethodName)) ∈ UW := ut_3 (List.mem_of_getElem? (i := 88) rfl) rfl
theorem u_3_89 : (Jvm.Cond.instanceMethod ({ cls := "CountTriangles$LesserPairs", name := "next", desc := "(III)I" } : Jvm.MethodName)) ∈ UW := ut_3 (List.mem_of_getElem? (i := 89) rfl) rfl
theorem u_3_90 : (Jvm.Cond.code ({ cls := "CountTriangles$LesserPairs", name := "next", desc := "(III)I" } : Jvm.MethodName) prog_5_method_5_code (4 : Nat) (Option.some Jvm.ClassFile.FieldType.int)) ∈ UW := ut_3 (List.mem_of_getElem? (i := 90) rfl) rfl
theorem u_3_91 : (Jvm.Cond.selects "CountTriangles$LongestRise" ({ cls := "CountTriangles$Mark", name := "next", desc := "(III)I" } : Jvm.MethodName) ({ cls := "CountTriangles$LongestRise", name := "next", desc := "(III)I" } : Jvm.MethodName)) ∈ UW := ut_3 (List.mem_of_getElem? (i := 91) rfl) rfl
theorem u_3_92 : (Jvm.Cond.selects "CountTriangles$Rings" ({ cls := "CountTriangles$Mark", name := "next", desc := "(III)I" } : Jvm.MethodName) ({ cls := "CountTriangles$Rings", name := "next", desc := "(III)I" } : Jvm.MethodName)) ∈ UW := ut_3 (List.mem_of_getElem? (i := 92) rfl) rfl
theorem u_3_93 : (Jvm.Cond.instanceMethod ({ cls := "CountTriangles$Rings", name := "next", desc := "(III)I" } : Jvm.MethodName)) ∈ UW := ut_3 (List.mem_of_getElem? (i := 93) rfl) rfl
theorem u_3_94 : (Jvm.Cond.code ({ cls := "CountTriangles$Rings", name := "next", desc := "(III)I" } : Jvm.MethodName) prog_11_method_4_code (4 : Nat) (Option.some Jvm.ClassFile.FieldType.int)) ∈ UW := ut_3 (List.mem_of_getElem? (i := 94) rfl) rfl
theorem u_3_95 : (Jvm.Cond.methodLink "CountTriangles$Orders" (67 : Nat) ({ cls := "CountTriangles$Orders", name := "packed", desc := "(I)I" } : Jvm.MethodName)) ∈ UW := ut_3 (List.mem_of_getElem? (i := 95) rfl) rfl
theorem u_3_97 : (Jvm.Cond.instanceMethod ({ cls := "CountTriangles$Orders", name := "packed", desc := "(I)I" } : Jvm.MethodName)) ∈ UW := ut_3 (List.mem_of_getElem? (i := 97) rfl) rfl
theorem u_3_98 : (Jvm.Cond.code ({ cls := "CountTriangles$Orders", name := "packed", desc := "(I)I" } : Jvm.MethodName) prog_8_method_12_code (4 : Nat) (Option.some Jvm.ClassFile.FieldType.int)) ∈ UW := ut_3 (List.mem_of_getElem? (i := 98) rfl) rfl
theorem u_3_99 : (Jvm.Cond.methodLink "CountTrianglesLaw" (79 : Nat) ({ cls := "CountTriangles", name := "mark", desc := "(III)I" } : Jvm.MethodName)) ∈ UW := ut_3 (List.mem_of_getElem? (i := 99) rfl) rfl
theorem u_3_100 : (Jvm.Cond.instanceMethod ({ cls := "CountTriangles", name := "mark", desc := "(III)I" } : Jvm.MethodName)) ∈ UW := ut_3 (List.mem_of_getElem? (i := 100) rfl) rfl
theorem u_3_101 : (Jvm.Cond.selects "CountTriangles" ({ cls := "CountTriangles", name := "mark", desc := "(III)I" } : Jvm.MethodName) ({ cls := "CountTriangles", name := "mark", desc := "(III)I" } : Jvm.MethodName)) ∈ UW := ut_3 (List.mem_of_getElem? (i := 101) rfl) rfl
theorem u_3_102 : (Jvm.Cond.code ({ cls := "CountTriangles", name := "mark", desc := "(III)I" } : Jvm.MethodName) prog_1_method_16_code (4 : Nat) (Option.some Jvm.ClassFile.FieldType.int)) ∈ UW := ut_3 (List.mem_of_getElem? (i := 102) rfl) rfl
theorem u_3_103 : (Jvm.Cond.methodLink "CountTriangles" (151 : Nat) ({ cls := "CountTriangles", name := "isOrder", desc := "(II)Z" } : Jvm.MethodName)) ∈ UW := ut_3 (List.mem_of_getElem? (i := 103) rfl) rfl
theorem u_3_105 : (Jvm.Cond.instanceMethod ({ cls := "CountTriangles", name := "isOrder", desc := "(II)Z" } : Jvm.MethodName)) ∈ UW := ut_3 (List.mem_of_getElem? (i := 105) rfl) rfl
theorem u_3_106 : (Jvm.Cond.code ({ cls := "CountTriangles", name := "isOrder", desc := "(II)Z" } : Jvm.MethodName) prog_1_method_31_code (3 : Nat) (Option.some Jvm.ClassFile.FieldType.boolean)) ∈ UW := ut_3 (List.mem_of_getElem? (i := 106) rfl) rfl
theorem u_3_107 : (Jvm.Cond.methodLink "CountTriangles" (212 : Nat) ({ cls := "CountTriangles$Orders", name := "isOne", desc := "(II)Z" } : Jvm.MethodName)) ∈ UW := ut_3 (List.mem_of_getElem? (i := 107) rfl) rfl
theorem u_3_108 : (Jvm.Cond.instanceMethod ({ cls := "CountTriangles$Orders", name := "isOne", desc := "(II)Z" } : Jvm.MethodName)) ∈ UW := ut_3 (List.mem_of_getElem? (i := 108) rfl) rfl
theorem u_3_109 : (Jvm.Cond.selects "CountTriangles$Orders" ({ cls := "CountTriangles$Orders", name := "isOne", desc := "(II)Z" } : Jvm.MethodName) ({ cls := "CountTriangles$Orders", name := "isOne", desc := "(II)Z" } : Jvm.MethodName)) ∈ UW := ut_3 (List.mem_of_getElem? (i := 109) rfl) rfl
theorem u_3_110 : (Jvm.Cond.code ({ cls := "CountTriangles$Orders", name := "isOne", desc := "(II)Z" } : Jvm.MethodName) prog_8_method_2_code (5 : Nat) (Option.some Jvm.ClassFile.FieldType.boolean)) ∈ UW := ut_3 (List.mem_of_getElem? (i := 110) rfl) rfl
theorem u_3_113 : (Jvm.Cond.methodLink "CountTriangles" (155 : Nat) ({ cls := "CountTriangles$Orders", name := "markOf", desc := "(III)I" } : Jvm.MethodName)) ∈ UW := ut_3 (List.mem_of_getElem? (i := 113) rfl) rfl
theorem u_3_114 : (Jvm.Cond.instanceMethod ({ cls := "CountTriangles$Orders", name := "markOf", desc := "(III)I" } : Jvm.MethodName)) ∈ UW := ut_3 (List.mem_of_getElem? (i := 114) rfl) rfl
theorem u_3_115 : (Jvm.Cond.selects "CountTriangles$Orders" ({ cls := "CountTriangles$Orders", name := "markOf", desc := "(III)I" } : Jvm.MethodName) ({ cls := "CountTriangles$Orders", name := "markOf", desc := "(III)I" } : Jvm.MethodName)) ∈ UW := ut_3 (List.mem_of_getElem? (i := 115) rfl) rfl
theorem u_3_116 : (Jvm.Cond.code ({ cls := "CountTriangles$Orders", name := "markOf", desc := "(III)I" } : Jvm.MethodName) prog_8_method_6_code (9 : Nat) (Option.some Jvm.ClassFile.FieldType.int)) ∈ UW := ut_3 (List.mem_of_getElem? (i := 116) rfl) rfl
theorem u_3_117 : (Jvm.Cond.methodLink "CountTriangles$Orders" (75 : Nat) ({ cls := "CountTriangles$Orders", name := "unpack", desc := "(II[I)V" } : Jvm.MethodName)) ∈ UW := ut_3 (List.mem_of_getElem? (i := 117) rfl) rfl
theorem u_3_118 : (Jvm.Cond.static ({ cls := "CountTriangles$Orders", name := "unpack", desc := "(II[I)V" } : Jvm.MethodName)) ∈ UW := ut_3 (List.mem_of_getElem? (i := 118) rfl) rfl
theorem u_3_119 : (Jvm.Cond.code ({ cls := "CountTriangles$Orders", name := "unpack", desc := "(II[I)V" } : Jvm.MethodName) prog_8_method_11_code (4 : Nat) (Option.none : Option Jvm.ClassFile.FieldType)) ∈ UW := ut_3 (List.mem_of_getElem? (i := 119) rfl) rfl
theorem u_3_120 : (Jvm.Cond.methodLink "CountTriangles$Orders" (79 : Nat) ({ cls := "CountTriangles$Orders", name := "lesserLater", desc := "(II)I" } : Jvm.MethodName)) ∈ UW := ut_3 (List.mem_of_getElem? (i := 120) rfl) rfl
theorem u_3_122 : (Jvm.Cond.instanceMethod ({ cls := "CountTriangles$Orders", name := "lesserLater", desc := "(II)I" } : Jvm.MethodName)) ∈ UW := ut_3 (List.mem_of_getElem? (i := 122) rfl) rfl
theorem u_3_123 : (Jvm.Cond.code ({ cls := "CountTriangles$Orders", name := "lesserLater", desc := "(II)I" } : Jvm.MethodName) prog_8_method_10_code (5 : Nat) (Option.some Jvm.ClassFile.FieldType.int)) ∈ UW := ut_3 (List.mem_of_getElem? (i := 123) rfl) rfl
theorem u_3_124 : (Jvm.Cond.methodLink "CountTrianglesLaw" (83 : Nat) ({ cls := "CountTriangles", name := "rank", desc := "(II)I" } : Jvm.MethodName)) ∈ UW := ut_3 (List.mem_of_getElem? (i := 124) rfl) rfl
theorem u_3_125 : (Jvm.Cond.instanceMethod ({ cls := "CountTriangles", name := "rank", desc := "(II)I" } : Jvm.MethodName)) ∈ UW := ut_3 (List.mem_of_getElem? (i := 125) rfl) rfl
theorem u_3_126 : (Jvm.Cond.selects "CountTriangles" ({ cls := "CountTriangles", name := "rank", desc := "(II)I" } : Jvm.MethodName) ({ cls := "CountTriangles", name := "rank", desc := "(II)I" } : Jvm.MethodName)) ∈ UW := ut_3 (List.mem_of_getElem? (i := 126) rfl) rfl
theorem u_3_127 : (Jvm.Cond.code ({ cls := "CountTriangles", name := "rank", desc := "(II)I" } : Jvm.MethodName) prog_1_method_17_code (3 : Nat) (Option.some Jvm.ClassFile.FieldType.int)) ∈ UW := ut_3 (List.mem_of_getElem? (i := 127) rfl) rfl
theorem u_3_128 : (Jvm.Cond.methodLink "CountTriangles" (158 : Nat) ({ cls := "CountTriangles$Orders", name := "rankOf", desc := "(II)I" } : Jvm.MethodName)) ∈ UW := ut_3 (List.mem_of_getElem? (i := 128) rfl) rfl
theorem u_3_129 : (Jvm.Cond.instanceMethod ({ cls := "CountTriangles$Orders", name := "rankOf", desc := "(II)I" } : Jvm.MethodName)) ∈ UW := ut_3 (List.mem_of_getElem? (i := 129) rfl) rfl
theorem u_3_130 : (Jvm.Cond.selects "CountTriangles$Orders" ({ cls := "CountTriangles$Orders", name := "rankOf", desc := "(II)I" } : Jvm.MethodName) ({ cls := "CountTriangles$Orders", name := "rankOf", desc := "(II)I" } : Jvm.MethodName)) ∈ UW := ut_3 (List.mem_of_getElem? (i := 130) rfl) rfl
theorem u_3_131 : (Jvm.Cond.code ({ cls := "CountTriangles$Orders", name := "rankOf", desc := "(II)I" } : Jvm.MethodName) prog_8_method_7_code (5 : Nat) (Option.some Jvm.ClassFile.FieldType.int)) ∈ UW := ut_3 (List.mem_of_getElem? (i := 131) rfl) rfl
theorem u_3_133 : (Jvm.Cond.methodLink "CountTrianglesLaw" (87 : Nat) ({ cls := "CountTriangles", name := "over", desc := "(II)I" } : Jvm.MethodName)) ∈ UW := ut_3 (List.mem_of_getElem? (i := 133) rfl) rfl
theorem u_3_134 : (Jvm.Cond.instanceMethod ({ cls := "CountTriangles", name := "over", desc := "(II)I" } : Jvm.MethodName)) ∈ UW := ut_3 (List.mem_of_getElem? (i := 134) rfl) rfl
theorem u_3_135 : (Jvm.Cond.selects "CountTriangles" ({ cls := "CountTriangles", name := "over", desc := "(II)I" } : Jvm.MethodName) ({ cls := "CountTriangles", name := "over", desc := "(II)I" } : Jvm.MethodName)) ∈ UW := ut_3 (List.mem_of_getElem? (i := 135) rfl) rfl
theorem u_3_136 : (Jvm.Cond.code ({ cls := "CountTriangles", name := "over", desc := "(II)I" } : Jvm.MethodName) prog_1_method_18_code (3 : Nat) (Option.some Jvm.ClassFile.FieldType.int)) ∈ UW := ut_3 (List.mem_of_getElem? (i := 136) rfl) rfl
theorem u_3_137 : (Jvm.Cond.methodLink "CountTriangles" (159 : Nat) ({ cls := "CountTriangles$Orders", name := "turnedOver", desc := "(II)I" } : Jvm.MethodName)) ∈ UW := ut_3 (List.mem_of_getElem? (i := 137) rfl) rfl
theorem u_3_138 : (Jvm.Cond.instanceMethod ({ cls := "CountTriangles$Orders", name := "turnedOver", desc := "(II)I" } : Jvm.MethodName)) ∈ UW := ut_3 (List.mem_of_getElem? (i := 138) rfl) rfl
theorem u_3_139 : (Jvm.Cond.selects "CountTriangles$Orders" ({ cls := "CountTriangles$Orders", name := "turnedOver", desc := "(II)I" } : Jvm.MethodName) ({ cls := "CountTriangles$Orders", name := "turnedOver", desc := "(II)I" } : Jvm.MethodName)) ∈ UW := ut_3 (List.mem_of_getElem? (i := 139) rfl) rfl
theorem u_3_140 : (Jvm.Cond.code ({ cls := "CountTriangles$Orders", name := "turnedOver", desc := "(II)I" } : Jvm.MethodName) prog_8_method_8_code (4 : Nat) (Option.some Jvm.ClassFile.FieldType.int)) ∈ UW := ut_3 (List.mem_of_getElem? (i := 140) rfl) rfl
theorem u_3_141 : (Jvm.Cond.methodLink "CountTrianglesLaw" (91 : Nat) ({ cls := "CountTriangles", name := "behind", desc := "(III)I" } : Jvm.MethodName)) ∈ UW := ut_3 (List.mem_of_getElem? (i := 141) rfl) rfl
theorem u_3_142 : (Jvm.Cond.instanceMethod ({ cls := "CountTriangles", name := "behind", desc := "(III)I" } : Jvm.MethodName)) ∈ UW := ut_3 (List.mem_of_getElem? (i := 142) rfl) rfl
theorem u_3_143 : (Jvm.Cond.selects "CountTriangles" ({ cls := "CountTriangles", name := "behind", desc := "(III)I" } : Jvm.MethodName) ({ cls := "CountTriangles", name := "behind", desc := "(III)I" } : Jvm.MethodName)) ∈ UW := ut_3 (List.mem_of_getElem? (i := 143) rfl) rfl
theorem u_3_144 : (Jvm.Cond.code ({ cls := "CountTriangles", name := "behind", desc := "(III)I" } : Jvm.MethodName) prog_1_method_19_code (4 : Nat) (Option.some Jvm.ClassFile.FieldType.int)) ∈ UW := ut_3 (List.mem_of_getElem? (i := 144) rfl) rfl
theorem u_3_145 : (Jvm.Cond.methodLink "CountTriangles" (162 : Nat) ({ cls := "CountTriangles$Orders", name := "oneBehind", desc := "(III)I" } : Jvm.MethodName)) ∈ UW := ut_3 (List.mem_of_getElem? (i := 145) rfl) rfl
theorem u_3_146 : (Jvm.Cond.instanceMethod ({ cls := "CountTriangles$Orders", name := "oneBehind", desc := "(III)I" } : Jvm.MethodName)) ∈ UW := ut_3 (List.mem_of_getElem? (i := 146) rfl) rfl
theorem u_3_147 : (Jvm.Cond.selects "CountTriangles$Orders" ({ cls := "CountTriangles$Orders", name := "oneBehind", desc := "(III)I" } : Jvm.MethodName) ({ cls := "CountTriangles$Orders", name := "oneBehind", desc := "(III)I" } : Jvm.MethodName)) ∈ UW := ut_3 (List.mem_of_getElem? (i := 147) rfl) rfl
theorem u_3_148 : (Jvm.Cond.code ({ cls := "CountTriangles$Orders", name := "oneBehind", desc := "(III)I" } : Jvm.MethodName) prog_8_method_9_code (5 : Nat) (Option.some Jvm.ClassFile.FieldType.int)) ∈ UW := ut_3 (List.mem_of_getElem? (i := 148) rfl) rfl
theorem u_3_149 : (Jvm.Cond.methodLink "CountTrianglesLaw" (95 : Nat) ({ cls := "CountTriangles", name := "base", desc := "(II)I" } : Jvm.MethodName)) ∈ UW := ut_3 (List.mem_of_getElem? (i := 149) rfl) rfl
theorem u_3_150 : (Jvm.Cond.instanceMethod ({ cls := "CountTriangles", name := "base", desc := "(II)I" } : Jvm.MethodName)) ∈ UW := ut_3 (List.mem_of_getElem? (i := 150) rfl) rfl
theorem u_3_151 : (Jvm.Cond.selects "CountTriangles" ({ cls := "CountTriangles", name := "base", desc := "(II)I" } : Jvm.MethodName) ({ cls := "CountTriangles", name := "base", desc := "(II)I" } : Jvm.MethodName)) ∈ UW := ut_3 (List.mem_of_getElem? (i := 151) rfl) rfl
theorem u_3_152 : (Jvm.Cond.code ({ cls := "CountTriangles", name := "base", desc := "(II)I" } : Jvm.MethodName) prog_1_method_20_code (4 : Nat) (Option.some Jvm.ClassFile.FieldType.int)) ∈ UW := ut_3 (List.mem_of_getElem? (i := 152) rfl) rfl
theorem u_3_153 : (Jvm.Cond.methodLink "CountTriangles" (165 : Nat) ({ cls := "CountTriangles", name := "isPolynomial", desc := "(I)Z" } : Jvm.MethodName)) ∈ UW := ut_3 (List.mem_of_getElem? (i := 153) rfl) rfl
theorem u_3_154 : (Jvm.Cond.static ({ cls := "CountTriangles", name := "isPolynomial", desc := "(I)Z" } : Jvm.MethodName)) ∈ UW := ut_3 (List.mem_of_getElem? (i := 154) rfl) rfl
theorem u_3_155 : (Jvm.Cond.code ({ cls := "CountTriangles", name := "isPolynomial", desc := "(I)Z" } : Jvm.MethodName) prog_1_method_33_code (1 : Nat) (Option.some Jvm.ClassFile.FieldType.boolean)) ∈ UW := ut_3 (List.mem_of_getElem? (i := 155) rfl) rfl
theorem u_3_156 : (Jvm.Cond.methodLink "CountTriangles" (168 : Nat) ({ cls := "CountTriangles$Polynomial", name := "baseNow", desc := "()I" } : Jvm.MethodName)) ∈ UW := ut_3 (List.mem_of_getElem? (i := 156) rfl) rfl
theorem u_3_157 : (Jvm.Cond.instanceMethod ({ cls := "CountTriangles$Polynomial", name := "baseNow", desc := "()I" } : Jvm.MethodName)) ∈ UW := ut_3 (List.mem_of_getElem? (i := 157) rfl) rfl
theorem u_3_158 : (Jvm.Cond.selects "CountTriangles$Polynomial" ({ cls := "CountTriangles$Polynomial", name := "baseNow", desc := "()I" } : Jvm.MethodName) ({ cls := "CountTriangles$Polynomial", name := "baseNow", desc := "()I" } : Jvm.MethodName)) ∈ UW := ut_3 (List.mem_of_getElem? (i := 158) rfl) rfl
theorem u_3_159 : (Jvm.Cond.code ({ cls := "CountTriangles$Polynomial", name := "baseNow", desc := "()I" } : Jvm.MethodName) prog_10_method_2_code (1 : Nat) (Option.some Jvm.ClassFile.FieldType.int)) ∈ UW := ut_3 (List.mem_of_getElem? (i := 159) rfl) rfl
theorem u_3_160 : (Jvm.Cond.methodLink "CountTriangles" (171 : Nat) ({ cls := "CountTriangles$Polynomial", name := "clearIn", desc := "(I)V" } : Jvm.MethodName)) ∈ UW := ut_3 (List.mem_of_getElem? (i := 160) rfl) rfl
theorem u_3_161 : (Jvm.Cond.instanceMethod ({ cls := "CountTriangles$Polynomial", name := "clearIn", desc := "(I)V" } : Jvm.MethodName)) ∈ UW := ut_3 (List.mem_of_getElem? (i := 161) rfl) rfl
theorem u_3_162 : (Jvm.Cond.selects "CountTriangles$Polynomial" ({ cls := "CountTriangles$Polynomial", name := "clearIn", desc := "(I)V" } : Jvm.MethodName) ({ cls := "CountTriangles$Polynomial", name := "clearIn", desc := "(I)V" } : Jvm.MethodName)) ∈ UW := ut_3 (List.mem_of_getElem? (i := 162) rfl) rfl
theorem u_3_163 : (Jvm.Cond.code ({ cls := "CountTriangles$Polynomial", name := "clearIn", desc := "(I)V" } : Jvm.MethodName) prog_10_method_3_code (2 : Nat) (Option.none : Option Jvm.ClassFile.FieldType)) ∈ UW := ut_3 (List.mem_of_getElem? (i := 163) rfl) rfl
theorem u_3_164 : (Jvm.Cond.methodLink "CountTriangles$Polynomial" (22 : Nat) ({ cls := "java/util/Arrays", name := "fill", desc := "([JJ)V" } : Jvm.MethodName)) ∈ UW := ut_3 (List.mem_of_getElem? (i := 164) rfl) rfl
theorem u_3_165 : (Jvm.Cond.static ({ cls := "java/util/Arrays", name := "fill", desc := "([JJ)V" } : Jvm.MethodName)) ∈ UW := ut_3 (List.mem_of_getElem? (i := 165) rfl) rfl
theorem u_3_166 : (Jvm.Cond.code ({ cls := "java/util/Arrays", name := "fill", desc := "([JJ)V" } : Jvm.MethodName) prog_18_method_101_code (5 : Nat) (Option.none : Option Jvm.ClassFile.FieldType)) ∈ UW := ut_3 (List.mem_of_getElem? (i := 166) rfl) rfl
theorem u_3_167 : (Jvm.Cond.methodLink "CountTrianglesLaw" (99 : Nat) ({ cls := "CountTriangles", name := "set", desc := "(IIJ)J" } : Jvm.MethodName)) ∈ UW := ut_3 (List.mem_of_getElem? (i := 167) rfl) rfl
theorem u_3_168 : (Jvm.Cond.instanceMethod ({ cls := "CountTriangles", name := "set", desc := "(IIJ)J" } : Jvm.MethodName)) ∈ UW := ut_3 (List.mem_of_getElem? (i := 168) rfl) rfl
theorem u_3_169 : (Jvm.Cond.selects "CountTriangles" ({ cls := "CountTriangles", name := "set", desc := "(IIJ)J" } : Jvm.MethodName) ({ cls := "CountTriangles", name := "set", desc := "(IIJ)J" } : Jvm.MethodName)) ∈ UW := ut_3 (List.mem_of_getElem? (i := 169) rfl) rfl
theorem u_3_170 : (Jvm.Cond.code ({ cls := "CountTriangles", name := "set", desc := "(IIJ)J" } : Jvm.MethodName) prog_1_method_21_code (7 : Nat) (Option.some Jvm.ClassFile.FieldType.long)) ∈ UW := ut_3 (List.mem_of_getElem? (i := 170) rfl) rfl
theorem u_3_171 : (Jvm.Cond.constantLong "CountTriangles" (174 : Nat) (1000000 : Int64)) ∈ UW := ut_3 (List.mem_of_getElem? (i := 171) rfl) rfl
theorem u_3_172 : (Jvm.Cond.methodLink "CountTriangles" (176 : Nat) ({ cls := "CountTriangles", name := "beyond", desc := "(JJ)Z" } : Jvm.MethodName)) ∈ UW := ut_3 (List.mem_of_getElem? (i := 172) rfl) rfl
theorem u_3_173 : (Jvm.Cond.methodLink "CountTriangles" (180 : Nat) ({ cls := "CountTriangles$Polynomial", name := "at", desc := "(I)J" } : Jvm.MethodName)) ∈ UW := ut_3 (List.mem_of_getElem? (i := 173) rfl) rfl
theorem u_3_174 : (Jvm.Cond.instanceMethod ({ cls := "CountTriangles$Polynomial", name := "at", desc := "(I)J" } : Jvm.MethodName)) ∈ UW := ut_3 (List.mem_of_getElem? (i := 174) rfl) rfl
theorem u_3_175 : (Jvm.Cond.selects "CountTriangles$Polynomial" ({ cls := "CountTriangles$Polynomial", name := "at", desc := "(I)J" } : Jvm.MethodName) ({ cls := "CountTriangles$Polynomial", name := "at", desc := "(I)J" } : Jvm.MethodName)) ∈ UW := ut_3 (List.mem_of_getElem? (i := 175) rfl) rfl
theorem u_3_176 : (Jvm.Cond.code ({ cls := "CountTriangles$Polynomial", name := "at", desc := "(I)J" } : Jvm.MethodName) prog_10_method_4_code (2 : Nat) (Option.some Jvm.ClassFile.FieldType.long)) ∈ UW := ut_3 (List.mem_of_getElem? (i := 176) rfl) rfl
theorem u_3_178 : (Jvm.Cond.methodLink "CountTriangles" (183 : Nat) ({ cls := "CountTriangles$Polynomial", name := "put", desc := "(IJ)V" } : Jvm.MethodName)) ∈ UW := ut_3 (List.mem_of_getElem? (i := 178) rfl) rfl
theorem u_3_179 : (Jvm.Cond.instanceMethod ({ cls := "CountTriangles$Polynomial", name := "put", desc := "(IJ)V" } : Jvm.MethodName)) ∈ UW := ut_3 (List.mem_of_getElem? (i := 179) rfl) rfl
theorem u_3_180 : (Jvm.Cond.selects "CountTriangles$Polynomial" ({ cls := "CountTriangles$Polynomial", name := "put", desc := "(IJ)V" } : Jvm.MethodName) ({ cls := "CountTriangles$Polynomial", name := "put", desc := "(IJ)V" } : Jvm.MethodName)) ∈ UW := ut_3 (List.mem_of_getElem? (i := 180) rfl) rfl
theorem u_3_181 : (Jvm.Cond.code ({ cls := "CountTriangles$Polynomial", name := "put", desc := "(IJ)V" } : Jvm.MethodName) prog_10_method_5_code (4 : Nat) (Option.none : Option Jvm.ClassFile.FieldType)) ∈ UW := ut_3 (List.mem_of_getElem? (i := 181) rfl) rfl
theorem u_3_182 : (Jvm.Cond.methodLink "CountTrianglesLaw" (104 : Nat) ({ cls := "CountTriangles", name := "coefficient", desc := "(II)J" } : Jvm.MethodName)) ∈ UW := ut_3 (List.mem_of_getElem? (i := 182) rfl) rfl
theorem u_3_183 : (Jvm.Cond.instanceMethod ({ cls := "CountTriangles", name := "coefficient", desc := "(II)J" } : Jvm.MethodName)) ∈ UW := ut_3 (List.mem_of_getElem? (i := 183) rfl) rfl
theorem u_3_184 : (Jvm.Cond.selects "CountTriangles" ({ cls := "CountTriangles", name := "coefficient", desc := "(II)J" } : Jvm.MethodName) ({ cls := "CountTriangles", name := "coefficient", desc := "(II)J" } : Jvm.MethodName)) ∈ UW := ut_3 (List.mem_of_getElem? (i := 184) rfl) rfl
theorem u_3_185 : (Jvm.Cond.code ({ cls := "CountTriangles", name := "coefficient", desc := "(II)J" } : Jvm.MethodName) prog_1_method_22_code (3 : Nat) (Option.some Jvm.ClassFile.FieldType.long)) ∈ UW := ut_3 (List.mem_of_getElem? (i := 185) rfl) rfl
theorem u_3_186 : (Jvm.Cond.methodLink "CountTrianglesLaw" (109 : Nat) ({ cls := "CountTriangles", name := "told", desc := "(II)I" } : Jvm.MethodName)) ∈ UW := ut_3 (List.mem_of_getElem? (i := 186) rfl) rfl
theorem u_3_187 : (Jvm.Cond.instanceMethod ({ cls := "CountTriangles", name := "told", desc := "(II)I" } : Jvm.MethodName)) ∈ UW := ut_3 (List.mem_of_getElem? (i := 187) rfl) rfl
theorem u_3_188 : (Jvm.Cond.selects "CountTriangles" ({ cls := "CountTriangles", name := "told", desc := "(II)I" } : Jvm.MethodName) ({ cls := "CountTriangles", name := "told", desc := "(II)I" } : Jvm.MethodName)) ∈ UW := ut_3 (List.mem_of_getElem? (i := 188) rfl) rfl
theorem u_3_189 : (Jvm.Cond.code ({ cls := "CountTriangles", name := "told", desc := "(II)I" } : Jvm.MethodName) prog_1_method_23_code (3 : Nat) (Option.some Jvm.ClassFile.FieldType.int)) ∈ UW := ut_3 (List.mem_of_getElem? (i := 189) rfl) rfl
theorem u_3_190 : (Jvm.Cond.methodLink "CountTriangles" (187 : Nat) ({ cls := "CountTriangles$Polynomial", name := "degree", desc := "()I" } : Jvm.MethodName)) ∈ UW := ut_3 (List.mem_of_getElem? (i := 190) rfl) rfl
theorem u_3_191 : (Jvm.Cond.instanceMethod ({ cls := "CountTriangles$Polynomial", name := "degree", desc := "()I" } : Jvm.MethodName)) ∈ UW := ut_3 (List.mem_of_getElem? (i := 191) rfl) rfl
theorem u_3_192 : (Jvm.Cond.selects "CountTriangles$Polynomial" ({ cls := "CountTriangles$Polynomial", name := "degree", desc := "()I" } : Jvm.MethodName) ({ cls := "CountTriangles$Polynomial", name := "degree", desc := "()I" } : Jvm.MethodName)) ∈ UW := ut_3 (List.mem_of_getElem? (i := 192) rfl) rfl
theorem u_3_193 : (Jvm.Cond.code ({ cls := "CountTriangles$Polynomial", name := "degree", desc := "()I" } : Jvm.MethodName) prog_10_method_6_code (2 : Nat) (Option.some Jvm.ClassFile.FieldType.int)) ∈ UW := ut_3 (List.mem_of_getElem? (i := 193) rfl) rfl
theorem u_3_194 : (Jvm.Cond.methodLink "CountTrianglesLaw" (113 : Nat) ({ cls := "CountTriangles", name := "turn", desc := "(II)I" } : Jvm.MethodName)) ∈ UW := ut_3 (List.mem_of_getElem? (i := 194) rfl) rfl
theorem u_3_195 : (Jvm.Cond.instanceMethod ({ cls := "CountTriangles", name := "turn", desc := "(II)I" } : Jvm.MethodName)) ∈ UW := ut_3 (List.mem_of_getElem? (i := 195) rfl) rfl
theorem u_3_196 : (Jvm.Cond.selects "CountTriangles" ({ cls := "CountTriangles", name := "turn", desc := "(II)I" } : Jvm.MethodName) ({ cls := "CountTriangles", name := "turn", desc := "(II)I" } : Jvm.MethodName)) ∈ UW := ut_3 (List.mem_of_getElem? (i := 196) rfl) rfl
theorem u_3_197 : (Jvm.Cond.code ({ cls := "CountTriangles", name := "turn", desc := "(II)I" } : Jvm.MethodName) prog_1_method_24_code (3 : Nat) (Option.some Jvm.ClassFile.FieldType.int)) ∈ UW := ut_3 (List.mem_of_getElem? (i := 197) rfl) rfl
theorem u_3_198 : (Jvm.Cond.methodLink "CountTriangles" (190 : Nat) ({ cls := "CountTriangles$Polynomial", name := "turnInto", desc := "(I)Z" } : Jvm.MethodName)) ∈ UW := ut_3 (List.mem_of_getElem? (i := 198) rfl) rfl
theorem u_3_199 : (Jvm.Cond.instanceMethod ({ cls := "CountTriangles$Polynomial", name := "turnInto", desc := "(I)Z" } : Jvm.MethodName)) ∈ UW := ut_3 (List.mem_of_getElem? (i := 199) rfl) rfl
theorem u_3_200 : (Jvm.Cond.selects "CountTriangles$Polynomial" ({ cls := "CountTriangles$Polynomial", name := "turnInto", desc := "(I)Z" } : Jvm.MethodName) ({ cls := "CountTriangles$Polynomial", name := "turnInto", desc := "(I)Z" } : Jvm.MethodName)) ∈ UW := ut_3 (List.mem_of_getElem? (i := 200) rfl) rfl
theorem u_3_201 : (Jvm.Cond.code ({ cls := "CountTriangles$Polynomial", name := "turnInto", desc := "(I)Z" } : Jvm.MethodName) prog_10_method_11_code (2 : Nat) (Option.some Jvm.ClassFile.FieldType.boolean)) ∈ UW := ut_3 (List.mem_of_getElem? (i := 201) rfl) rfl
theorem u_3_202 : (Jvm.Cond.methodLink "CountTriangles$Polynomial" (40 : Nat) ({ cls := "CountTriangles$Polynomial", name := "findTurned", desc := "(I)Z" } : Jvm.MethodName)) ∈ UW := ut_3 (List.mem_of_getElem? (i := 202) rfl) rfl
theorem u_3_204 : (Jvm.Cond.instanceMethod ({ cls := "CountTriangles$Polynomial", name := "findTurned", desc := "(I)Z" } : Jvm.MethodName)) ∈ UW := ut_3 (List.mem_of_getElem? (i := 204) rfl) rfl
theorem u_3_205 : (Jvm.Cond.code ({ cls := "CountTriangles$Polynomial", name := "findTurned", desc := "(I)Z" } : Jvm.MethodName) prog_10_method_13_code (3 : Nat) (Option.some Jvm.ClassFile.FieldType.boolean)) ∈ UW := ut_3 (List.mem_of_getElem? (i := 205) rfl) rfl
theorem u_3_206 : (Jvm.Cond.methodLink "CountTriangles$Polynomial" (44 : Nat) ({ cls := "java/lang/System", name := "arraycopy", desc := "(Ljava/lang/Object;ILjava/lang/Object;II)V" } : Jvm.MethodName)) ∈ UW := ut_3 (List.mem_of_getElem? (i := 206) rfl) rfl
theorem u_3_207 : (Jvm.Cond.static ({ cls := "java/lang/System", name := "arraycopy", desc := "(Ljava/lang/Object;ILjava/lang/Object;II)V" } : Jvm.MethodName)) ∈ UW := ut_3 (List.mem_of_getElem? (i := 207) rfl) rfl
theorem u_3_208 : (Jvm.Cond.native ({ cls := "java/lang/System", name := "arraycopy", desc := "(Ljava/lang/Object;ILjava/lang/Object;II)V" } : Jvm.MethodName)) ∈ UW := ut_3 (List.mem_of_getElem? (i := 208) rfl) rfl
theorem u_3_209 : (Jvm.Cond.methodLink "CountTriangles$Polynomial" (54 : Nat) ({ cls := "CountTriangles$Polynomial", name := "choicesAreWholeFalling", desc := "()Z" } : Jvm.MethodName)) ∈ UW := ut_3 (List.mem_of_getElem? (i := 209) rfl) rfl
theorem u_3_211 : (Jvm.Cond.instanceMethod ({ cls := "CountTriangles$Polynomial", name := "choicesAreWholeFalling", desc := "()Z" } : Jvm.MethodName)) ∈ UW := ut_3 (List.mem_of_getElem? (i := 211) rfl) rfl
theorem u_3_212 : (Jvm.Cond.code ({ cls := "CountTriangles$Polynomial", name := "choicesAreWholeFalling", desc := "()Z" } : Jvm.MethodName) prog_10_method_14_code (2 : Nat) (Option.some Jvm.ClassFile.FieldType.boolean)) ∈ UW := ut_3 (List.mem_of_getElem? (i := 212) rfl) rfl
theorem u_3_214 : (Jvm.Cond.methodLink "CountTriangles$Polynomial" (32 : Nat) ({ cls := "CountTriangles$Polynomial", name := "zero", desc := "(II)I" } : Jvm.MethodName)) ∈ UW := ut_3 (List.mem_of_getElem? (i := 214) rfl) rfl
theorem u_3_215 : (Jvm.Cond.static ({ cls := "CountTriangles$Polynomial", name := "zero", desc := "(II)I" } : Jvm.MethodName)) ∈ UW := ut_3 (List.mem_of_getElem? (i := 215) rfl) rfl
theorem u_3_216 : (Jvm.Cond.code ({ cls := "CountTriangles$Polynomial", name := "zero", desc := "(II)I" } : Jvm.MethodName) prog_10_method_8_code (2 : Nat) (Option.some Jvm.ClassFile.FieldType.int)) ∈ UW := ut_3 (List.mem_of_getElem? (i := 216) rfl) rfl
theorem u_3_217 : (Jvm.Cond.methodLink "CountTriangles$Polynomial" (58 : Nat) ({ cls := "CountTriangles$Polynomial", name := "multiplyRoom", desc := "(II)V" } : Jvm.MethodName)) ∈ UW := ut_3 (List.mem_of_getElem? (i := 217) rfl) rfl
theorem u_3_219 : (Jvm.Cond.instanceMethod ({ cls := "CountTriangles$Polynomial", name := "multiplyRoom", desc := "(II)V" } : Jvm.MethodName)) ∈ UW := ut_3 (List.mem_of_getElem? (i := 219) rfl) rfl
theorem u_3_220 : (Jvm.Cond.code ({ cls := "CountTriangles$Polynomial", name := "multiplyRoom", desc := "(II)V" } : Jvm.MethodName) prog_10_method_15_code (6 : Nat) (Option.none : Option Jvm.ClassFile.FieldType)) ∈ UW := ut_3 (List.mem_of_getElem? (i := 220) rfl) rfl
theorem u_3_221 : (Jvm.Cond.methodLink "CountTriangles$Polynomial" (66 : Nat) ({ cls := "CountTriangles$Polynomial", name := "roomMayStand", desc := "(I)Z" } : Jvm.MethodName)) ∈ UW := ut_3 (List.mem_of_getElem? (i := 221) rfl) rfl
theorem u_3_223 : (Jvm.Cond.instanceMethod ({ cls := "CountTriangles$Polynomial", name := "roomMayStand", desc := "(I)Z" } : Jvm.MethodName)) ∈ UW := ut_3 (List.mem_of_getElem? (i := 223) rfl) rfl
theorem u_3_224 : (Jvm.Cond.code ({ cls := "CountTriangles$Polynomial", name := "roomMayStand", desc := "(I)Z" } : Jvm.MethodName) prog_10_method_16_code (3 : Nat) (Option.some Jvm.ClassFile.FieldType.boolean)) ∈ UW := ut_3 (List.mem_of_getElem? (i := 224) rfl) rfl
theorem u_3_225 : (Jvm.Cond.constantLong "CountTriangles$Polynomial" (69 : Nat) (1000000 : Int64)) ∈ UW := ut_3 (List.mem_of_getElem? (i := 225) rfl) rfl
theorem u_3_227 : (Jvm.Cond.methodLink "CountTrianglesLaw" (117 : Nat) ({ cls := "CountTriangles", name := "value", desc := "(III)J" } : Jvm.MethodName)) ∈ UW := ut_3 (List.mem_of_getElem? (i := 227) rfl) rfl
theorem u_3_228 : (Jvm.Cond.instanceMethod ({ cls := "CountTriangles", name := "value", desc := "(III)J" } : Jvm.MethodName)) ∈ UW := ut_3 (List.mem_of_getElem? (i := 228) rfl) rfl
theorem u_3_229 : (Jvm.Cond.selects "CountTriangles" ({ cls := "CountTriangles", name := "value", desc := "(III)J" } : Jvm.MethodName) ({ cls := "CountTriangles", name := "value", desc := "(III)J" } : Jvm.MethodName)) ∈ UW := ut_3 (List.mem_of_getElem? (i := 229) rfl) rfl
theorem u_3_230 : (Jvm.Cond.code ({ cls := "CountTriangles", name := "value", desc := "(III)J" } : Jvm.MethodName) prog_1_method_25_code (4 : Nat) (Option.some Jvm.ClassFile.FieldType.long)) ∈ UW := ut_3 (List.mem_of_getElem? (i := 230) rfl) rfl
theorem u_3_231 : (Jvm.Cond.methodLink "CountTriangles" (193 : Nat) ({ cls := "CountTriangles$Polynomial", name := "difference", desc := "(II)J" } : Jvm.MethodName)) ∈ UW := ut_3 (List.mem_of_getElem? (i := 231) rfl) rfl
theorem u_3_232 : (Jvm.Cond.instanceMethod ({ cls := "CountTriangles$Polynomial", name := "difference", desc := "(II)J" } : Jvm.MethodName)) ∈ UW := ut_3 (List.mem_of_getElem? (i := 232) rfl) rfl
theorem u_3_233 : (Jvm.Cond.selects "CountTriangles$Polynomial" ({ cls := "CountTriangles$Polynomial", name := "difference", desc := "(II)J" } : Jvm.MethodName) ({ cls := "CountTriangles$Polynomial", name := "difference", desc := "(II)J" } : Jvm.MethodName)) ∈ UW := ut_3 (List.mem_of_getElem? (i := 233) rfl) rfl
theorem u_3_234 : (Jvm.Cond.code ({ cls := "CountTriangles$Polynomial", name := "difference", desc := "(II)J" } : Jvm.MethodName) prog_10_method_10_code (5 : Nat) (Option.some Jvm.ClassFile.FieldType.long)) ∈ UW := ut_3 (List.mem_of_getElem? (i := 234) rfl) rfl
theorem u_3_235 : (Jvm.Cond.methodLink "CountTriangles$Polynomial" (36 : Nat) ({ cls := "CountTriangles$Polynomial", name := "valueAt", desc := "(I)J" } : Jvm.MethodName)) ∈ UW := ut_3 (List.mem_of_getElem? (i := 235) rfl) rfl
theorem u_3_236 : (Jvm.Cond.instanceMethod ({ cls := "CountTriangles$Polynomial", name := "valueAt", desc := "(I)J" } : Jvm.MethodName)) ∈ UW := ut_3 (List.mem_of_getElem? (i := 236) rfl) rfl
theorem u_3_237 : (Jvm.Cond.selects "CountTriangles$Polynomial" ({ cls := "CountTriangles$Polynomial", name := "valueAt", desc := "(I)J" } : Jvm.MethodName) ({ cls := "CountTriangles$Polynomial", name := "valueAt", desc := "(I)J" } : Jvm.MethodName)) ∈ UW := ut_3 (List.mem_of_getElem? (i := 237) rfl) rfl
theorem u_3_238 : (Jvm.Cond.code ({ cls := "CountTriangles$Polynomial", name := "valueAt", desc := "(I)J" } : Jvm.MethodName) prog_10_method_9_code (7 : Nat) (Option.some Jvm.ClassFile.FieldType.long)) ∈ UW := ut_3 (List.mem_of_getElem? (i := 238) rfl) rfl
theorem u_3_239 : (Jvm.Cond.methodLink "CountTrianglesLaw" (121 : Nat) ({ cls := "CountTriangles", name := "sumUp", desc := "(I)I" } : Jvm.MethodName)) ∈ UW := ut_3 (List.mem_of_getElem? (i := 239) rfl) rfl
theorem u_4_0 : (Jvm.Cond.instanceMethod ({ cls := "CountTriangles", name := "sumUp", desc := "(I)I" } : Jvm.MethodName)) ∈ UW := ut_4 (List.mem_of_getElem? (i := 0) rfl) rfl
theorem u_4_1 : (Jvm.Cond.selects "CountTriangles" ({ cls := "CountTriangles", name := "sumUp", desc := "(I)I" } : Jvm.MethodName) ({ cls := "CountTriangles", name := "sumUp", desc := "(I)I" } : Jvm.MethodName)) ∈ UW := ut_4 (List.mem_of_getElem? (i := 1) rfl) rfl
theorem u_4_2 : (Jvm.Cond.code ({ cls := "CountTriangles", name := "sumUp", desc := "(I)I" } : Jvm.MethodName) prog_1_method_26_code (2 : Nat) (Option.some Jvm.ClassFile.FieldType.int)) ∈ UW := ut_4 (List.mem_of_getElem? (i := 2) rfl) rfl
theorem u_4_3 : (Jvm.Cond.methodLink "CountTriangles" (196 : Nat) ({ cls := "CountTriangles$Polynomial", name := "becomeSum", desc := "()Z" } : Jvm.MethodName)) ∈ UW := ut_4 (List.mem_of_getElem? (i := 3) rfl) rfl
theorem u_4_4 : (Jvm.Cond.instanceMethod ({ cls := "CountTriangles$Polynomial", name := "becomeSum", desc := "()Z" } : Jvm.MethodName)) ∈ UW := ut_4 (List.mem_of_getElem? (i := 4) rfl) rfl
theorem u_4_5 : (Jvm.Cond.selects "CountTriangles$Polynomial" ({ cls := "CountTriangles$Polynomial", name := "becomeSum", desc := "()Z" } : Jvm.MethodName) ({ cls := "CountTriangles$Polynomial", name := "becomeSum", desc := "()Z" } : Jvm.MethodName)) ∈ UW := ut_4 (List.mem_of_getElem? (i := 5) rfl) rfl
theorem u_4_6 : (Jvm.Cond.code ({ cls := "CountTriangles$Polynomial", name := "becomeSum", desc := "()Z" } : Jvm.MethodName) prog_10_method_12_code (1 : Nat) (Option.some Jvm.ClassFile.FieldType.boolean)) ∈ UW := ut_4 (List.mem_of_getElem? (i := 6) rfl) rfl
theorem u_4_7 : (Jvm.Cond.methodLink "CountTriangles$Polynomial" (50 : Nat) ({ cls := "CountTriangles$Polynomial", name := "degree", desc := "()I" } : Jvm.MethodName)) ∈ UW := ut_4 (List.mem_of_getElem? (i := 7) rfl) rfl
theorem u_4_8 : (Jvm.Cond.methodLink "CountTrianglesLaw" (125 : Nat) ({ cls := "CountTriangles", name := "root", desc := "(II)I" } : Jvm.MethodName)) ∈ UW := ut_4 (List.mem_of_getElem? (i := 8) rfl) rfl
theorem u_4_9 : (Jvm.Cond.instanceMethod ({ cls := "CountTriangles", name := "root", desc := "(II)I" } : Jvm.MethodName)) ∈ UW := ut_4 (List.mem_of_getElem? (i := 9) rfl) rfl
theorem u_4_10 : (Jvm.Cond.selects "CountTriangles" ({ cls := "CountTriangles", name := "root", desc := "(II)I" } : Jvm.MethodName) ({ cls := "CountTriangles", name := "root", desc := "(II)I" } : Jvm.MethodName)) ∈ UW := ut_4 (List.mem_of_getElem? (i := 10) rfl) rfl
theorem u_4_11 : (Jvm.Cond.code ({ cls := "CountTriangles", name := "root", desc := "(II)I" } : Jvm.MethodName) prog_1_method_27_code (5 : Nat) (Option.some Jvm.ClassFile.FieldType.int)) ∈ UW := ut_4 (List.mem_of_getElem? (i := 11) rfl) rfl
theorem u_4_12 : (Jvm.Cond.methodLink "CountTriangles" (200 : Nat) ({ cls := "CountTriangles$Polynomial", name := "valueAt", desc := "(I)J" } : Jvm.MethodName)) ∈ UW := ut_4 (List.mem_of_getElem? (i := 12) rfl) rfl
theorem u_4_13 : (Jvm.Cond.methodLink "CountTrianglesLaw" (129 : Nat) ({ cls := "CountTriangles", name := "count", desc := "(I)I" } : Jvm.MethodName)) ∈ UW := ut_4 (List.mem_of_getElem? (i := 13) rfl) rfl
theorem u_4_14 : (Jvm.Cond.instanceMethod ({ cls := "CountTriangles", name := "count", desc := "(I)I" } : Jvm.MethodName)) ∈ UW := ut_4 (List.mem_of_getElem? (i := 14) rfl) rfl
theorem u_4_15 : (Jvm.Cond.selects "CountTriangles" ({ cls := "CountTriangles", name := "count", desc := "(I)I" } : Jvm.MethodName) ({ cls := "CountTriangles", name := "count", desc := "(I)I" } : Jvm.MethodName)) ∈ UW := ut_4 (List.mem_of_getElem? (i := 15) rfl) rfl
theorem u_4_16 : (Jvm.Cond.code ({ cls := "CountTriangles", name := "count", desc := "(I)I" } : Jvm.MethodName) prog_1_method_28_code (2 : Nat) (Option.some Jvm.ClassFile.FieldType.int)) ∈ UW := ut_4 (List.mem_of_getElem? (i := 16) rfl) rfl
theorem u_4_17 : (Jvm.Cond.methodLink "CountTriangles" (203 : Nat) ({ cls := "CountTriangles", name := "itemsOfLaws", desc := "()I" } : Jvm.MethodName)) ∈ UW := ut_4 (List.mem_of_getElem? (i := 17) rfl) rfl
theorem u_4_19 : (Jvm.Cond.instanceMethod ({ cls := "CountTriangles", name := "itemsOfLaws", desc := "()I" } : Jvm.MethodName)) ∈ UW := ut_4 (List.mem_of_getElem? (i := 19) rfl) rfl
theorem u_4_20 : (Jvm.Cond.code ({ cls := "CountTriangles", name := "itemsOfLaws", desc := "()I" } : Jvm.MethodName) prog_1_method_29_code (3 : Nat) (Option.some Jvm.ClassFile.FieldType.int)) ∈ UW := ut_4 (List.mem_of_getElem? (i := 20) rfl) rfl
theorem u_4_21 : (Jvm.Cond.methodLink "CountTriangles" (206 : Nat) ({ cls := "CountTriangles", name := "coefficientsInUse", desc := "()I" } : Jvm.MethodName)) ∈ UW := ut_4 (List.mem_of_getElem? (i := 21) rfl) rfl
theorem u_4_23 : (Jvm.Cond.instanceMethod ({ cls := "CountTriangles", name := "coefficientsInUse", desc := "()I" } : Jvm.MethodName)) ∈ UW := ut_4 (List.mem_of_getElem? (i := 23) rfl) rfl
theorem u_4_24 : (Jvm.Cond.code ({ cls := "CountTriangles", name := "coefficientsInUse", desc := "()I" } : Jvm.MethodName) prog_1_method_30_code (3 : Nat) (Option.some Jvm.ClassFile.FieldType.int)) ∈ UW := ut_4 (List.mem_of_getElem? (i := 24) rfl) rfl
theorem u_4_25 : (Jvm.Cond.methodLink "CountTriangles" (209 : Nat) ({ cls := "CountTriangles$Polynomial", name := "inUse", desc := "()I" } : Jvm.MethodName)) ∈ UW := ut_4 (List.mem_of_getElem? (i := 25) rfl) rfl
theorem u_4_26 : (Jvm.Cond.instanceMethod ({ cls := "CountTriangles$Polynomial", name := "inUse", desc := "()I" } : Jvm.MethodName)) ∈ UW := ut_4 (List.mem_of_getElem? (i := 26) rfl) rfl
theorem u_4_27 : (Jvm.Cond.selects "CountTriangles$Polynomial" ({ cls := "CountTriangles$Polynomial", name := "inUse", desc := "()I" } : Jvm.MethodName) ({ cls := "CountTriangles$Polynomial", name := "inUse", desc := "()I" } : Jvm.MethodName)) ∈ UW := ut_4 (List.mem_of_getElem? (i := 27) rfl) rfl
theorem u_4_28 : (Jvm.Cond.code ({ cls := "CountTriangles$Polynomial", name := "inUse", desc := "()I" } : Jvm.MethodName) prog_10_method_7_code (3 : Nat) (Option.some Jvm.ClassFile.FieldType.int)) ∈ UW := ut_4 (List.mem_of_getElem? (i := 28) rfl) rfl
theorem u_4_29 : (Jvm.Cond.classLink "CountTrianglesLaw" (10 : Nat) "CountTrianglesModel") ∈ UW := ut_4 (List.mem_of_getElem? (i := 29) rfl) rfl
theorem u_4_30 : (Jvm.Cond.instantiable "CountTrianglesModel" (21 : Nat)) ∈ UW := ut_4 (List.mem_of_getElem? (i := 30) rfl) rfl
theorem u_4_31 : (Jvm.Cond.methodLink "CountTrianglesLaw" (12 : Nat) ({ cls := "CountTrianglesModel", name := "<init>", desc := "()V" } : Jvm.MethodName)) ∈ UW := ut_4 (List.mem_of_getElem? (i := 31) rfl) rfl
theorem u_4_32 : (Jvm.Cond.instanceMethod ({ cls := "CountTrianglesModel", name := "<init>", desc := "()V" } : Jvm.MethodName)) ∈ UW := ut_4 (List.mem_of_getElem? (i := 32) rfl) rfl
theorem u_4_33 : (Jvm.Cond.code ({ cls := "CountTrianglesModel", name := "<init>", desc := "()V" } : Jvm.MethodName) prog_14_method_1_code (2 : Nat) (Option.none : Option Jvm.ClassFile.FieldType)) ∈ UW := ut_4 (List.mem_of_getElem? (i := 33) rfl) rfl
theorem u_4_34 : (Jvm.Cond.methodLink "CountTrianglesModel" (1 : Nat) ({ cls := "java/lang/Object", name := "<init>", desc := "()V" } : Jvm.MethodName)) ∈ UW := ut_4 (List.mem_of_getElem? (i := 34) rfl) rfl
theorem u_4_35 : (Jvm.Cond.fieldLink "CountTrianglesModel" (66 : Nat) "CountTrianglesModel" "bytes" "I") ∈ UW := ut_4 (List.mem_of_getElem? (i := 35) rfl) rfl
theorem u_4_36 : (Jvm.Cond.fieldLink "CountTrianglesModel" (7 : Nat) "CountTrianglesModel" "text" "[I") ∈ UW := ut_4 (List.mem_of_getElem? (i := 36) rfl) rfl
theorem u_4_37 : (Jvm.Cond.fieldLink "CountTrianglesModel" (72 : Nat) "CountTrianglesModel" "position" "I") ∈ UW := ut_4 (List.mem_of_getElem? (i := 37) rfl) rfl
theorem u_4_38 : (Jvm.Cond.fieldLink "CountTrianglesModel" (88 : Nat) "CountTrianglesModel" "begin" "I") ∈ UW := ut_4 (List.mem_of_getElem? (i := 38) rfl) rfl
theorem u_4_39 : (Jvm.Cond.fieldLink "CountTrianglesModel" (85 : Nat) "CountTrianglesModel" "readMany" "I") ∈ UW := ut_4 (List.mem_of_getElem? (i := 39) rfl) rfl
theorem u_4_40 : (Jvm.Cond.fieldLink "CountTrianglesModel" (13 : Nat) "CountTrianglesModel" "read" "[I") ∈ UW := ut_4 (List.mem_of_getElem? (i := 40) rfl) rfl
theorem u_4_41 : (Jvm.Cond.fieldLink "CountTrianglesModel" (16 : Nat) "CountTrianglesModel" "law" "[I") ∈ UW := ut_4 (List.mem_of_getElem? (i := 41) rfl) rfl
theorem u_4_42 : (Jvm.Cond.fieldLink "CountTrianglesModel" (19 : Nat) "CountTrianglesModel" "items" "[I") ∈ UW := ut_4 (List.mem_of_getElem? (i := 42) rfl) rfl
theorem u_4_43 : (Jvm.Cond.fieldLink "CountTrianglesModel" (22 : Nat) "CountTrianglesModel" "cell" "[J") ∈ UW := ut_4 (List.mem_of_getElem? (i := 43) rfl) rfl
theorem u_4_44 : (Jvm.Cond.fieldLink "CountTrianglesModel" (26 : Nat) "CountTrianglesModel" "isGreat" "[Z") ∈ UW := ut_4 (List.mem_of_getElem? (i := 44) rfl) rfl
theorem u_4_45 : (Jvm.Cond.fieldLink "CountTrianglesModel" (30 : Nat) "CountTrianglesModel" "rests" "[I") ∈ UW := ut_4 (List.mem_of_getElem? (i := 45) rfl) rfl
theorem u_4_46 : (Jvm.Cond.fieldLink "CountTrianglesModel" (33 : Nat) "CountTrianglesModel" "column" "[J") ∈ UW := ut_4 (List.mem_of_getElem? (i := 46) rfl) rfl
theorem u_4_47 : (Jvm.Cond.fieldLink "CountTrianglesModel" (146 : Nat) "CountTrianglesModel" "isNo" "Z") ∈ UW := ut_4 (List.mem_of_getElem? (i := 47) rfl) rfl
theorem u_4_48 : (Jvm.Cond.fieldLink "CountTrianglesModel" (36 : Nat) "CountTrianglesModel" "digit" "[I") ∈ UW := ut_4 (List.mem_of_getElem? (i := 48) rfl) rfl
theorem u_4_49 : (Jvm.Cond.fieldLink "CountTrianglesModel" (39 : Nat) "CountTrianglesModel" "other" "[I") ∈ UW := ut_4 (List.mem_of_getElem? (i := 49) rfl) rfl
theorem u_4_50 : (Jvm.Cond.fieldLink "CountTrianglesModel" (42 : Nat) "CountTrianglesModel" "turned" "[I") ∈ UW := ut_4 (List.mem_of_getElem? (i := 50) rfl) rfl
theorem u_4_51 : (Jvm.Cond.fieldLink "CountTrianglesModel" (45 : Nat) "CountTrianglesModel" "base" "[I") ∈ UW := ut_4 (List.mem_of_getElem? (i := 51) rfl) rfl
theorem u_4_52 : (Jvm.Cond.fieldLink "CountTrianglesModel" (48 : Nat) "CountTrianglesModel" "factor" "[J") ∈ UW := ut_4 (List.mem_of_getElem? (i := 52) rfl) rfl
theorem u_4_53 : (Jvm.Cond.fieldLink "CountTrianglesModel" (51 : Nat) "CountTrianglesModel" "falling" "[J") ∈ UW := ut_4 (List.mem_of_getElem? (i := 53) rfl) rfl
theorem u_4_54 : (Jvm.Cond.fieldLink "CountTrianglesModel" (54 : Nat) "CountTrianglesModel" "made" "[J") ∈ UW := ut_4 (List.mem_of_getElem? (i := 54) rfl) rfl
theorem u_4_55 : (Jvm.Cond.fieldLink "CountTrianglesModel" (57 : Nat) "CountTrianglesModel" "table" "[J") ∈ UW := ut_4 (List.mem_of_getElem? (i := 55) rfl) rfl
theorem u_4_56 : (Jvm.Cond.lays "CountTrianglesModel" "CountTrianglesModel" "bytes" "I") ∈ UW := ut_4 (List.mem_of_getElem? (i := 56) rfl) rfl
theorem u_4_58 : (Jvm.Cond.laysFinal "CountTrianglesModel" "CountTrianglesModel" "text" "[I") ∈ UW := ut_4 (List.mem_of_getElem? (i := 58) rfl) rfl
theorem u_4_60 : (Jvm.Cond.lays "CountTrianglesModel" "CountTrianglesModel" "position" "I") ∈ UW := ut_4 (List.mem_of_getElem? (i := 60) rfl) rfl
theorem u_4_62 : (Jvm.Cond.lays "CountTrianglesModel" "CountTrianglesModel" "begin" "I") ∈ UW := ut_4 (List.mem_of_getElem? (i := 62) rfl) rfl
theorem u_4_64 : (Jvm.Cond.lays "CountTrianglesModel" "CountTrianglesModel" "readMany" "I") ∈ UW := ut_4 (List.mem_of_getElem? (i := 64) rfl) rfl
theorem u_4_66 : (Jvm.Cond.laysFinal "CountTrianglesModel" "CountTrianglesModel" "read" "[I") ∈ UW := ut_4 (List.mem_of_getElem? (i := 66) rfl) rfl
theorem u_4_68 : (Jvm.Cond.laysFinal "CountTrianglesModel" "CountTrianglesModel" "law" "[I") ∈ UW := ut_4 (List.mem_of_getElem? (i := 68) rfl) rfl
theorem u_4_70 : (Jvm.Cond.laysFinal "CountTrianglesModel" "CountTrianglesModel" "items" "[I") ∈ UW := ut_4 (List.mem_of_getElem? (i := 70) rfl) rfl
theorem u_4_72 : (Jvm.Cond.laysFinal "CountTrianglesModel" "CountTrianglesModel" "cell" "[J") ∈ UW := ut_4 (List.mem_of_getElem? (i := 72) rfl) rfl
theorem u_4_74 : (Jvm.Cond.laysFinal "CountTrianglesModel" "CountTrianglesModel" "isGreat" "[Z") ∈ UW := ut_4 (List.mem_of_getElem? (i := 74) rfl) rfl
theorem u_4_76 : (Jvm.Cond.laysFinal "CountTrianglesModel" "CountTrianglesModel" "rests" "[I") ∈ UW := ut_4 (List.mem_of_getElem? (i := 76) rfl) rfl
theorem u_4_78 : (Jvm.Cond.laysFinal "CountTrianglesModel" "CountTrianglesModel" "column" "[J") ∈ UW := ut_4 (List.mem_of_getElem? (i := 78) rfl) rfl
theorem u_4_80 : (Jvm.Cond.lays "CountTrianglesModel" "CountTrianglesModel" "isNo" "Z") ∈ UW := ut_4 (List.mem_of_getElem? (i := 80) rfl) rfl
theorem u_4_82 : (Jvm.Cond.laysFinal "CountTrianglesModel" "CountTrianglesModel" "digit" "[I") ∈ UW := ut_4 (List.mem_of_getElem? (i := 82) rfl) rfl
theorem u_4_84 : (Jvm.Cond.laysFinal "CountTrianglesModel" "CountTrianglesModel" "other" "[I") ∈ UW := ut_4 (List.mem_of_getElem? (i := 84) rfl) rfl
theorem u_4_86 : (Jvm.Cond.laysFinal "CountTrianglesModel" "CountTrianglesModel" "turned" "[I") ∈ UW := ut_4 (List.mem_of_getElem? (i := 86) rfl) rfl
theorem u_4_88 : (Jvm.Cond.laysFinal "CountTrianglesModel" "CountTrianglesModel" "base" "[I") ∈ UW := ut_4 (List.mem_of_getElem? (i := 88) rfl) rfl
theorem u_4_90 : (Jvm.Cond.laysFinal "CountTrianglesModel" "CountTrianglesModel" "factor" "[J") ∈ UW := ut_4 (List.mem_of_getElem? (i := 90) rfl) rfl
theorem u_4_92 : (Jvm.Cond.laysFinal "CountTrianglesModel" "CountTrianglesModel" "falling" "[J") ∈ UW := ut_4 (List.mem_of_getElem? (i := 92) rfl) rfl
theorem u_4_94 : (Jvm.Cond.laysFinal "CountTrianglesModel" "CountTrianglesModel" "made" "[J") ∈ UW := ut_4 (List.mem_of_getElem? (i := 94) rfl) rfl
theorem u_4_96 : (Jvm.Cond.laysFinal "CountTrianglesModel" "CountTrianglesModel" "table" "[J") ∈ UW := ut_4 (List.mem_of_getElem? (i := 96) rfl) rfl
theorem u_4_99 : (Jvm.Cond.arrayClass Jvm.ClassFile.FieldType.boolean) ∈ UW := ut_4 (List.mem_of_getElem? (i := 99) rfl) rfl
theorem u_4_100 : (Jvm.Cond.methodLink "CountTrianglesLaw" (19 : Nat) ({ cls := "CountTrianglesModel", name := "write", desc := "(IJ)I" } : Jvm.MethodName)) ∈ UW := ut_4 (List.mem_of_getElem? (i := 100) rfl) rfl
theorem u_4_101 : (Jvm.Cond.instanceMethod ({ cls := "CountTrianglesModel", name := "write", desc := "(IJ)I" } : Jvm.MethodName)) ∈ UW := ut_4 (List.mem_of_getElem? (i := 101) rfl) rfl
theorem u_4_102 : (Jvm.Cond.selects "CountTrianglesModel" ({ cls := "CountTrianglesModel", name := "write", desc := "(IJ)I" } : Jvm.MethodName) ({ cls := "CountTrianglesModel", name := "write", desc := "(IJ)I" } : Jvm.MethodName)) ∈ UW := ut_4 (List.mem_of_getElem? (i := 102) rfl) rfl
theorem u_4_103 : (Jvm.Cond.code ({ cls := "CountTrianglesModel", name := "write", desc := "(IJ)I" } : Jvm.MethodName) prog_14_method_3_code (5 : Nat) (Option.some Jvm.ClassFile.FieldType.int)) ∈ UW := ut_4 (List.mem_of_getElem? (i := 103) rfl) rfl
theorem u_4_104 : (Jvm.Cond.constantLong "CountTrianglesModel" (60 : Nat) (8 : Int64)) ∈ UW := ut_4 (List.mem_of_getElem? (i := 104) rfl) rfl
theorem u_4_105 : (Jvm.Cond.methodLink "CountTrianglesModel" (62 : Nat) ({ cls := "CountTrianglesModel", name := "in", desc := "(JJJ)Z" } : Jvm.MethodName)) ∈ UW := ut_4 (List.mem_of_getElem? (i := 105) rfl) rfl
theorem u_4_106 : (Jvm.Cond.static ({ cls := "CountTrianglesModel", name := "in", desc := "(JJJ)Z" } : Jvm.MethodName)) ∈ UW := ut_4 (List.mem_of_getElem? (i := 106) rfl) rfl
theorem u_4_107 : (Jvm.Cond.code ({ cls := "CountTrianglesModel", name := "in", desc := "(JJJ)Z" } : Jvm.MethodName) prog_14_method_2_code (6 : Nat) (Option.some Jvm.ClassFile.FieldType.boolean)) ∈ UW := ut_4 (List.mem_of_getElem? (i := 107) rfl) rfl
theorem u_4_108 : (Jvm.Cond.constantLong "CountTrianglesModel" (70 : Nat) (255 : Int64)) ∈ UW := ut_4 (List.mem_of_getElem? (i := 108) rfl) rfl
theorem u_4_109 : (Jvm.Cond.methodLink "CountTrianglesLaw" (24 : Nat) ({ cls := "CountTrianglesModel", name := "wipe", desc := "()I" } : Jvm.MethodName)) ∈ UW := ut_4 (List.mem_of_getElem? (i := 109) rfl) rfl
theorem u_4_110 : (Jvm.Cond.instanceMethod ({ cls := "CountTrianglesModel", name := "wipe", desc := "()I" } : Jvm.MethodName)) ∈ UW := ut_4 (List.mem_of_getElem? (i := 110) rfl) rfl
theorem u_4_111 : (Jvm.Cond.selects "CountTrianglesModel" ({ cls := "CountTrianglesModel", name := "wipe", desc := "()I" } : Jvm.MethodName) ({ cls := "CountTrianglesModel", name := "wipe", desc := "()I" } : Jvm.MethodName)) ∈ UW := ut_4 (List.mem_of_getElem? (i := 111) rfl) rfl
theorem u_4_112 : (Jvm.Cond.code ({ cls := "CountTrianglesModel", name := "wipe", desc := "()I" } : Jvm.MethodName) prog_14_method_4_code (2 : Nat) (Option.some Jvm.ClassFile.FieldType.int)) ∈ UW := ut_4 (List.mem_of_getElem? (i := 112) rfl) rfl
theorem u_4_113 : (Jvm.Cond.methodLink "CountTrianglesLaw" (28 : Nat) ({ cls := "CountTrianglesModel", name := "fault", desc := "()I" } : Jvm.MethodName)) ∈ UW := ut_4 (List.mem_of_getElem? (i := 113) rfl) rfl
theorem u_4_114 : (Jvm.Cond.instanceMethod ({ cls := "CountTrianglesModel", name := "fault", desc := "()I" } : Jvm.MethodName)) ∈ UW := ut_4 (List.mem_of_getElem? (i := 114) rfl) rfl
theorem u_4_115 : (Jvm.Cond.selects "CountTrianglesModel" ({ cls := "CountTrianglesModel", name := "fault", desc := "()I" } : Jvm.MethodName) ({ cls := "CountTrianglesModel", name := "fault", desc := "()I" } : Jvm.MethodName)) ∈ UW := ut_4 (List.mem_of_getElem? (i := 115) rfl) rfl
theorem u_4_116 : (Jvm.Cond.code ({ cls := "CountTrianglesModel", name := "fault", desc := "()I" } : Jvm.MethodName) prog_14_method_9_code (1 : Nat) (Option.some Jvm.ClassFile.FieldType.int)) ∈ UW := ut_4 (List.mem_of_getElem? (i := 116) rfl) rfl
theorem u_4_117 : (Jvm.Cond.methodLink "CountTrianglesModel" (95 : Nat) ({ cls := "CountTrianglesModel", name := "isRead", desc := "()Z" } : Jvm.MethodName)) ∈ UW := ut_4 (List.mem_of_getElem? (i := 117) rfl) rfl
theorem u_4_119 : (Jvm.Cond.instanceMethod ({ cls := "CountTrianglesModel", name := "isRead", desc := "()Z" } : Jvm.MethodName)) ∈ UW := ut_4 (List.mem_of_getElem? (i := 119) rfl) rfl
theorem u_4_120 : (Jvm.Cond.code ({ cls := "CountTrianglesModel", name := "isRead", desc := "()Z" } : Jvm.MethodName) prog_14_method_8_code (2 : Nat) (Option.some Jvm.ClassFile.FieldType.boolean)) ∈ UW := ut_4 (List.mem_of_getElem? (i := 120) rfl) rfl
theorem u_4_121 : (Jvm.Cond.methodLink "CountTrianglesModel" (91 : Nat) ({ cls := "CountTrianglesModel", name := "isItem", desc := "()Z" } : Jvm.MethodName)) ∈ UW := ut_4 (List.mem_of_getElem? (i := 121) rfl) rfl
theorem u_4_123 : (Jvm.Cond.instanceMethod ({ cls := "CountTrianglesModel", name := "isItem", desc := "()Z" } : Jvm.MethodName)) ∈ UW := ut_4 (List.mem_of_getElem? (i := 123) rfl) rfl
theorem u_4_124 : (Jvm.Cond.code ({ cls := "CountTrianglesModel", name := "isItem", desc := "()Z" } : Jvm.MethodName) prog_14_method_7_code (3 : Nat) (Option.some Jvm.ClassFile.FieldType.boolean)) ∈ UW := ut_4 (List.mem_of_getElem? (i := 124) rfl) rfl
theorem u_4_125 : (Jvm.Cond.methodLink "CountTrianglesModel" (75 : Nat) ({ cls := "CountTrianglesModel", name := "byteNow", desc := "()I" } : Jvm.MethodName)) ∈ UW := ut_4 (List.mem_of_getElem? (i := 125) rfl) rfl
theorem u_4_127 : (Jvm.Cond.instanceMethod ({ cls := "CountTrianglesModel", name := "byteNow", desc := "()I" } : Jvm.MethodName)) ∈ UW := ut_4 (List.mem_of_getElem? (i := 127) rfl) rfl
theorem u_4_128 : (Jvm.Cond.code ({ cls := "CountTrianglesModel", name := "byteNow", desc := "()I" } : Jvm.MethodName) prog_14_method_5_code (1 : Nat) (Option.some Jvm.ClassFile.FieldType.int)) ∈ UW := ut_4 (List.mem_of_getElem? (i := 128) rfl) rfl
theorem u_4_129 : (Jvm.Cond.methodLink "CountTrianglesModel" (81 : Nat) ({ cls := "CountTrianglesModel", name := "isNumber", desc := "(II)Z" } : Jvm.MethodName)) ∈ UW := ut_4 (List.mem_of_getElem? (i := 129) rfl) rfl
theorem u_4_131 : (Jvm.Cond.instanceMethod ({ cls := "CountTrianglesModel", name := "isNumber", desc := "(II)Z" } : Jvm.MethodName)) ∈ UW := ut_4 (List.mem_of_getElem? (i := 131) rfl) rfl
theorem u_4_132 : (Jvm.Cond.code ({ cls := "CountTrianglesModel", name := "isNumber", desc := "(II)Z" } : Jvm.MethodName) prog_14_method_6_code (5 : Nat) (Option.some Jvm.ClassFile.FieldType.boolean)) ∈ UW := ut_4 (List.mem_of_getElem? (i := 132) rfl) rfl
theorem u_4_133 : (Jvm.Cond.constantLong "CountTrianglesModel" (79 : Nat) (9 : Int64)) ∈ UW := ut_4 (List.mem_of_getElem? (i := 133) rfl) rfl
theorem u_4_134 : (Jvm.Cond.methodLink "CountTrianglesLaw" (33 : Nat) ({ cls := "CountTrianglesModel", name := "lay", desc := "(I)I" } : Jvm.MethodName)) ∈ UW := ut_4 (List.mem_of_getElem? (i := 134) rfl) rfl
theorem u_4_135 : (Jvm.Cond.instanceMethod ({ cls := "CountTrianglesModel", name := "lay", desc := "(I)I" } : Jvm.MethodName)) ∈ UW := ut_4 (List.mem_of_getElem? (i := 135) rfl) rfl
theorem u_4_136 : (Jvm.Cond.selects "CountTrianglesModel" ({ cls := "CountTrianglesModel", name := "lay", desc := "(I)I" } : Jvm.MethodName) ({ cls := "CountTrianglesModel", name := "lay", desc := "(I)I" } : Jvm.MethodName)) ∈ UW := ut_4 (List.mem_of_getElem? (i := 136) rfl) rfl
theorem u_4_137 : (Jvm.Cond.code ({ cls := "CountTrianglesModel", name := "lay", desc := "(I)I" } : Jvm.MethodName) prog_14_method_11_code (3 : Nat) (Option.some Jvm.ClassFile.FieldType.int)) ∈ UW := ut_4 (List.mem_of_getElem? (i := 137) rfl) rfl
theorem u_4_138 : (Jvm.Cond.methodLink "CountTrianglesModel" (100 : Nat) ({ cls := "CountTrianglesModel", name := "isLaw", desc := "(I)Z" } : Jvm.MethodName)) ∈ UW := ut_4 (List.mem_of_getElem? (i := 138) rfl) rfl
theorem u_4_139 : (Jvm.Cond.static ({ cls := "CountTrianglesModel", name := "isLaw", desc := "(I)Z" } : Jvm.MethodName)) ∈ UW := ut_4 (List.mem_of_getElem? (i := 139) rfl) rfl
theorem u_4_140 : (Jvm.Cond.code ({ cls := "CountTrianglesModel", name := "isLaw", desc := "(I)Z" } : Jvm.MethodName) prog_14_method_10_code (1 : Nat) (Option.some Jvm.ClassFile.FieldType.boolean)) ∈ UW := ut_4 (List.mem_of_getElem? (i := 140) rfl) rfl
theorem u_4_141 : (Jvm.Cond.constantLong "CountTrianglesModel" (98 : Nat) (3 : Int64)) ∈ UW := ut_4 (List.mem_of_getElem? (i := 141) rfl) rfl
theorem u_4_142 : (Jvm.Cond.methodLink "CountTrianglesLaw" (38 : Nat) ({ cls := "CountTrianglesModel", name := "number", desc := "(III)J" } : Jvm.MethodName)) ∈ UW := ut_4 (List.mem_of_getElem? (i := 142) rfl) rfl
theorem u_4_143 : (Jvm.Cond.instanceMethod ({ cls := "CountTrianglesModel", name := "number", desc := "(III)J" } : Jvm.MethodName)) ∈ UW := ut_4 (List.mem_of_getElem? (i := 143) rfl) rfl
theorem u_4_144 : (Jvm.Cond.selects "CountTrianglesModel" ({ cls := "CountTrianglesModel", name := "number", desc := "(III)J" } : Jvm.MethodName) ({ cls := "CountTrianglesModel", name := "number", desc := "(III)J" } : Jvm.MethodName)) ∈ UW := ut_4 (List.mem_of_getElem? (i := 144) rfl) rfl
theorem u_4_145 : (Jvm.Cond.code ({ cls := "CountTrianglesModel", name := "number", desc := "(III)J" } : Jvm.MethodName) prog_14_method_18_code (4 : Nat) (Option.some Jvm.ClassFile.FieldType.long)) ∈ UW := ut_4 (List.mem_of_getElem? (i := 145) rfl) rfl
theorem u_4_146 : (Jvm.Cond.constantLong "CountTrianglesModel" (128 : Nat) (24 : Int64)) ∈ UW := ut_4 (List.mem_of_getElem? (i := 146) rfl) rfl
theorem u_4_147 : (Jvm.Cond.constantLong "CountTrianglesModel" (130 : Nat) (-1000000000000000001 : Int64)) ∈ UW := ut_4 (List.mem_of_getElem? (i := 147) rfl) rfl
theorem u_4_148 : (Jvm.Cond.methodLink "CountTrianglesModel" (132 : Nat) ({ cls := "CountTrianglesModel", name := "findRows", desc := "(III)V" } : Jvm.MethodName)) ∈ UW := ut_4 (List.mem_of_getElem? (i := 148) rfl) rfl
theorem u_4_150 : (Jvm.Cond.instanceMethod ({ cls := "CountTrianglesModel", name := "findRows", desc := "(III)V" } : Jvm.MethodName)) ∈ UW := ut_4 (List.mem_of_getElem? (i := 150) rfl) rfl
theorem u_4_151 : (Jvm.Cond.code ({ cls := "CountTrianglesModel", name := "findRows", desc := "(III)V" } : Jvm.MethodName) prog_14_method_17_code (13 : Nat) (Option.none : Option Jvm.ClassFile.FieldType)) ∈ UW := ut_4 (List.mem_of_getElem? (i := 151) rfl) rfl
theorem u_4_152 : (Jvm.Cond.methodLink "CountTrianglesModel" (112 : Nat) ({ cls := "CountTrianglesModel", name := "at", desc := "(III)I" } : Jvm.MethodName)) ∈ UW := ut_4 (List.mem_of_getElem? (i := 152) rfl) rfl
theorem u_4_153 : (Jvm.Cond.static ({ cls := "CountTrianglesModel", name := "at", desc := "(III)I" } : Jvm.MethodName)) ∈ UW := ut_4 (List.mem_of_getElem? (i := 153) rfl) rfl
theorem u_4_154 : (Jvm.Cond.code ({ cls := "CountTrianglesModel", name := "at", desc := "(III)I" } : Jvm.MethodName) prog_14_method_12_code (3 : Nat) (Option.some Jvm.ClassFile.FieldType.int)) ∈ UW := ut_4 (List.mem_of_getElem? (i := 154) rfl) rfl
theorem u_4_155 : (Jvm.Cond.methodLink "CountTrianglesModel" (116 : Nat) ({ cls := "CountTrianglesModel", name := "comes", desc := "(IIII)I" } : Jvm.MethodName)) ∈ UW := ut_4 (List.mem_of_getElem? (i := 155) rfl) rfl
theorem u_4_157 : (Jvm.Cond.instanceMethod ({ cls := "CountTrianglesModel", name := "comes", desc := "(IIII)I" } : Jvm.MethodName)) ∈ UW := ut_4 (List.mem_of_getElem? (i := 157) rfl) rfl
theorem u_4_158 : (Jvm.Cond.code ({ cls := "CountTrianglesModel", name := "comes", desc := "(IIII)I" } : Jvm.MethodName) prog_14_method_13_code (5 : Nat) (Option.some Jvm.ClassFile.FieldType.int)) ∈ UW := ut_4 (List.mem_of_getElem? (i := 158) rfl) rfl
theorem u_4_159 : (Jvm.Cond.methodLink "CountTrianglesModel" (120 : Nat) ({ cls := "CountTrianglesModel", name := "isTooMuch", desc := "(JJ)Z" } : Jvm.MethodName)) ∈ UW := ut_4 (List.mem_of_getElem? (i := 159) rfl) rfl
theorem u_4_160 : (Jvm.Cond.static ({ cls := "CountTrianglesModel", name := "isTooMuch", desc := "(JJ)Z" } : Jvm.MethodName)) ∈ UW := ut_4 (List.mem_of_getElem? (i := 160) rfl) rfl
theorem u_4_161 : (Jvm.Cond.code ({ cls := "CountTrianglesModel", name := "isTooMuch", desc := "(JJ)Z" } : Jvm.MethodName) prog_14_method_16_code (4 : Nat) (Option.some Jvm.ClassFile.FieldType.boolean)) ∈ UW := ut_4 (List.mem_of_getElem? (i := 161) rfl) rfl
theorem u_4_162 : (Jvm.Cond.methodLink "CountTrianglesModel" (108 : Nat) ({ cls := "CountTrianglesModel", name := "size", desc := "(J)J" } : Jvm.MethodName)) ∈ UW := ut_4 (List.mem_of_getElem? (i := 162) rfl) rfl
theorem u_4_163 : (Jvm.Cond.static ({ cls := "CountTrianglesModel", name := "size", desc := "(J)J" } : Jvm.MethodName)) ∈ UW := ut_4 (List.mem_of_getElem? (i := 163) rfl) rfl
theorem u_4_164 : (Jvm.Cond.code ({ cls := "CountTrianglesModel", name := "size", desc := "(J)J" } : Jvm.MethodName) prog_14_method_15_code (2 : Nat) (Option.some Jvm.ClassFile.FieldType.long)) ∈ UW := ut_4 (List.mem_of_getElem? (i := 164) rfl) rfl
theorem u_4_165 : (Jvm.Cond.constantLong "CountTrianglesModel" (104 : Nat) (100000000000000000 : Int64)) ∈ UW := ut_4 (List.mem_of_getElem? (i := 165) rfl) rfl
theorem u_4_166 : (Jvm.Cond.methodLink "CountTrianglesModel" (124 : Nat) ({ cls := "CountTrianglesModel", name := "isBeyond", desc := "(J)Z" } : Jvm.MethodName)) ∈ UW := ut_4 (List.mem_of_getElem? (i := 166) rfl) rfl
theorem u_4_167 : (Jvm.Cond.static ({ cls := "CountTrianglesModel", name := "isBeyond", desc := "(J)Z" } : Jvm.MethodName)) ∈ UW := ut_4 (List.mem_of_getElem? (i := 167) rfl) rfl
theorem u_4_168 : (Jvm.Cond.code ({ cls := "CountTrianglesModel", name := "isBeyond", desc := "(J)Z" } : Jvm.MethodName) prog_14_method_14_code (2 : Nat) (Option.some Jvm.ClassFile.FieldType.boolean)) ∈ UW := ut_4 (List.mem_of_getElem? (i := 168) rfl) rfl
theorem u_4_169 : (Jvm.Cond.constantLong "CountTrianglesModel" (106 : Nat) (-100000000000000000 : Int64)) ∈ UW := ut_4 (List.mem_of_getElem? (i := 169) rfl) rfl
theorem u_4_170 : (Jvm.Cond.constantLong "CountTrianglesModel" (136 : Nat) (-1000000000000000002 : Int64)) ∈ UW := ut_4 (List.mem_of_getElem? (i := 170) rfl) rfl
theorem u_4_171 : (Jvm.Cond.methodLink "CountTrianglesLaw" (42 : Nat) ({ cls := "CountTrianglesModel", name := "sum", desc := "(III)J" } : Jvm.MethodName)) ∈ UW := ut_4 (List.mem_of_getElem? (i := 171) rfl) rfl
theorem u_4_172 : (Jvm.Cond.instanceMethod ({ cls := "CountTrianglesModel", name := "sum", desc := "(III)J" } : Jvm.MethodName)) ∈ UW := ut_4 (List.mem_of_getElem? (i := 172) rfl) rfl
theorem u_4_173 : (Jvm.Cond.selects "CountTrianglesModel" ({ cls := "CountTrianglesModel", name := "sum", desc := "(III)J" } : Jvm.MethodName) ({ cls := "CountTrianglesModel", name := "sum", desc := "(III)J" } : Jvm.MethodName)) ∈ UW := ut_4 (List.mem_of_getElem? (i := 173) rfl) rfl
theorem u_4_174 : (Jvm.Cond.code ({ cls := "CountTrianglesModel", name := "sum", desc := "(III)J" } : Jvm.MethodName) prog_14_method_19_code (11 : Nat) (Option.some Jvm.ClassFile.FieldType.long)) ∈ UW := ut_4 (List.mem_of_getElem? (i := 174) rfl) rfl
theorem u_4_175 : (Jvm.Cond.constantLong "CountTrianglesModel" (138 : Nat) (100000000 : Int64)) ∈ UW := ut_4 (List.mem_of_getElem? (i := 175) rfl) rfl
theorem u_4_176 : (Jvm.Cond.methodLink "CountTrianglesLaw" (47 : Nat) ({ cls := "CountTrianglesModel", name := "shape", desc := "(III)I" } : Jvm.MethodName)) ∈ UW := ut_4 (List.mem_of_getElem? (i := 176) rfl) rfl
theorem u_4_177 : (Jvm.Cond.instanceMethod ({ cls := "CountTrianglesModel", name := "shape", desc := "(III)I" } : Jvm.MethodName)) ∈ UW := ut_4 (List.mem_of_getElem? (i := 177) rfl) rfl
theorem u_4_178 : (Jvm.Cond.selects "CountTrianglesModel" ({ cls := "CountTrianglesModel", name := "shape", desc := "(III)I" } : Jvm.MethodName) ({ cls := "CountTrianglesModel", name := "shape", desc := "(III)I" } : Jvm.MethodName)) ∈ UW := ut_4 (List.mem_of_getElem? (i := 178) rfl) rfl
theorem u_4_179 : (Jvm.Cond.code ({ cls := "CountTrianglesModel", name := "shape", desc := "(III)I" } : Jvm.MethodName) prog_14_method_20_code (14 : Nat) (Option.some Jvm.ClassFile.FieldType.int)) ∈ UW := ut_4 (List.mem_of_getElem? (i := 179) rfl) rfl
theorem u_4_180 : (Jvm.Cond.constantLong "CountTrianglesModel" (140 : Nat) (2 : Int64)) ∈ UW := ut_4 (List.mem_of_getElem? (i := 180) rfl) rfl
theorem u_4_181 : (Jvm.Cond.methodLink "CountTrianglesLaw" (52 : Nat) ({ cls := "CountTrianglesModel", name := "rest", desc := "(IIII)I" } : Jvm.MethodName)) ∈ UW := ut_4 (List.mem_of_getElem? (i := 181) rfl) rfl
theorem u_4_182 : (Jvm.Cond.instanceMethod ({ cls := "CountTrianglesModel", name := "rest", desc := "(IIII)I" } : Jvm.MethodName)) ∈ UW := ut_4 (List.mem_of_getElem? (i := 182) rfl) rfl
theorem u_4_183 : (Jvm.Cond.selects "CountTrianglesModel" ({ cls := "CountTrianglesModel", name := "rest", desc := "(IIII)I" } : Jvm.MethodName) ({ cls := "CountTrianglesModel", name := "rest", desc := "(IIII)I" } : Jvm.MethodName)) ∈ UW := ut_4 (List.mem_of_getElem? (i := 183) rfl) rfl
theorem u_4_184 : (Jvm.Cond.code ({ cls := "CountTrianglesModel", name := "rest", desc := "(IIII)I" } : Jvm.MethodName) prog_14_method_21_code (10 : Nat) (Option.some Jvm.ClassFile.FieldType.int)) ∈ UW := ut_4 (List.mem_of_getElem? (i := 184) rfl) rfl
theorem u_4_185 : (Jvm.Cond.constantLong "CountTrianglesModel" (142 : Nat) (60 : Int64)) ∈ UW := ut_4 (List.mem_of_getElem? (i := 185) rfl) rfl
theorem u_4_186 : (Jvm.Cond.constantLong "CountTrianglesModel" (144 : Nat) (10000 : Int64)) ∈ UW := ut_4 (List.mem_of_getElem? (i := 186) rfl) rfl
theorem u_4_187 : (Jvm.Cond.methodLink "CountTrianglesLaw" (57 : Nat) ({ cls := "CountTrianglesModel", name := "times", desc := "(IIII)J" } : Jvm.MethodName)) ∈ UW := ut_4 (List.mem_of_getElem? (i := 187) rfl) rfl
theorem u_4_188 : (Jvm.Cond.instanceMethod ({ cls := "CountTrianglesModel", name := "times", desc := "(IIII)J" } : Jvm.MethodName)) ∈ UW := ut_4 (List.mem_of_getElem? (i := 188) rfl) rfl
theorem u_4_189 : (Jvm.Cond.selects "CountTrianglesModel" ({ cls := "CountTrianglesModel", name := "times", desc := "(IIII)J" } : Jvm.MethodName) ({ cls := "CountTrianglesModel", name := "times", desc := "(IIII)J" } : Jvm.MethodName)) ∈ UW := ut_4 (List.mem_of_getElem? (i := 189) rfl) rfl
theorem u_4_190 : (Jvm.Cond.code ({ cls := "CountTrianglesModel", name := "times", desc := "(IIII)J" } : Jvm.MethodName) prog_14_method_23_code (7 : Nat) (Option.some Jvm.ClassFile.FieldType.long)) ∈ UW := ut_4 (List.mem_of_getElem? (i := 190) rfl) rfl
theorem u_4_191 : (Jvm.Cond.methodLink "CountTrianglesModel" (150 : Nat) ({ cls := "CountTrianglesModel", name := "product", desc := "(II)J" } : Jvm.MethodName)) ∈ UW := ut_4 (List.mem_of_getElem? (i := 191) rfl) rfl
theorem u_4_193 : (Jvm.Cond.instanceMethod ({ cls := "CountTrianglesModel", name := "product", desc := "(II)J" } : Jvm.MethodName)) ∈ UW := ut_4 (List.mem_of_getElem? (i := 193) rfl) rfl
theorem u_4_194 : (Jvm.Cond.code ({ cls := "CountTrianglesModel", name := "product", desc := "(II)J" } : Jvm.MethodName) prog_14_method_22_code (8 : Nat) (Option.some Jvm.ClassFile.FieldType.long)) ∈ UW := ut_4 (List.mem_of_getElem? (i := 194) rfl) rfl
theorem u_4_195 : (Jvm.Cond.methodLink "CountTrianglesLaw" (61 : Nat) ({ cls := "CountTrianglesModel", name := "undoes", desc := "(III)I" } : Jvm.MethodName)) ∈ UW := ut_4 (List.mem_of_getElem? (i := 195) rfl) rfl
theorem u_4_196 : (Jvm.Cond.instanceMethod ({ cls := "CountTrianglesModel", name := "undoes", desc := "(III)I" } : Jvm.MethodName)) ∈ UW := ut_4 (List.mem_of_getElem? (i := 196) rfl) rfl
theorem u_4_197 : (Jvm.Cond.selects "CountTrianglesModel" ({ cls := "CountTrianglesModel", name := "undoes", desc := "(III)I" } : Jvm.MethodName) ({ cls := "CountTrianglesModel", name := "undoes", desc := "(III)I" } : Jvm.MethodName)) ∈ UW := ut_4 (List.mem_of_getElem? (i := 197) rfl) rfl
theorem u_4_198 : (Jvm.Cond.code ({ cls := "CountTrianglesModel", name := "undoes", desc := "(III)I" } : Jvm.MethodName) prog_14_method_24_code (8 : Nat) (Option.some Jvm.ClassFile.FieldType.int)) ∈ UW := ut_4 (List.mem_of_getElem? (i := 198) rfl) rfl
theorem u_4_199 : (Jvm.Cond.methodLink "CountTrianglesLaw" (65 : Nat) ({ cls := "CountTrianglesModel", name := "back", desc := "(III)J" } : Jvm.MethodName)) ∈ UW := ut_4 (List.mem_of_getElem? (i := 199) rfl) rfl
theorem u_4_200 : (Jvm.Cond.instanceMethod ({ cls := "CountTrianglesModel", name := "back", desc := "(III)J" } : Jvm.MethodName)) ∈ UW := ut_4 (List.mem_of_getElem? (i := 200) rfl) rfl
theorem u_4_201 : (Jvm.Cond.selects "CountTrianglesModel" ({ cls := "CountTrianglesModel", name := "back", desc := "(III)J" } : Jvm.MethodName) ({ cls := "CountTrianglesModel", name := "back", desc := "(III)J" } : Jvm.MethodName)) ∈ UW := ut_4 (List.mem_of_getElem? (i := 201) rfl) rfl
theorem u_4_202 : (Jvm.Cond.code ({ cls := "CountTrianglesModel", name := "back", desc := "(III)J" } : Jvm.MethodName) prog_14_method_25_code (9 : Nat) (Option.some Jvm.ClassFile.FieldType.long)) ∈ UW := ut_4 (List.mem_of_getElem? (i := 202) rfl) rfl
theorem u_4_203 : (Jvm.Cond.methodLink "CountTrianglesLaw" (69 : Nat) ({ cls := "CountTrianglesModel", name := "parting", desc := "(III)I" } : Jvm.MethodName)) ∈ UW := ut_4 (List.mem_of_getElem? (i := 203) rfl) rfl
theorem u_4_204 : (Jvm.Cond.instanceMethod ({ cls := "CountTrianglesModel", name := "parting", desc := "(III)I" } : Jvm.MethodName)) ∈ UW := ut_4 (List.mem_of_getElem? (i := 204) rfl) rfl
theorem u_4_205 : (Jvm.Cond.selects "CountTrianglesModel" ({ cls := "CountTrianglesModel", name := "parting", desc := "(III)I" } : Jvm.MethodName) ({ cls := "CountTrianglesModel", name := "parting", desc := "(III)I" } : Jvm.MethodName)) ∈ UW := ut_4 (List.mem_of_getElem? (i := 205) rfl) rfl
theorem u_4_206 : (Jvm.Cond.code ({ cls := "CountTrianglesModel", name := "parting", desc := "(III)I" } : Jvm.MethodName) prog_14_method_31_code (6 : Nat) (Option.some Jvm.ClassFile.FieldType.int)) ∈ UW := ut_4 (List.mem_of_getElem? (i := 206) rfl) rfl
theorem u_4_207 : (Jvm.Cond.methodLink "CountTrianglesModel" (158 : Nat) ({ cls := "CountTrianglesModel", name := "isSize", desc := "(I)Z" } : Jvm.MethodName)) ∈ UW := ut_4 (List.mem_of_getElem? (i := 207) rfl) rfl
theorem u_4_208 : (Jvm.Cond.static ({ cls := "CountTrianglesModel", name := "isSize", desc := "(I)Z" } : Jvm.MethodName)) ∈ UW := ut_4 (List.mem_of_getElem? (i := 208) rfl) rfl
theorem u_4_209 : (Jvm.Cond.code ({ cls := "CountTrianglesModel", name := "isSize", desc := "(I)Z" } : Jvm.MethodName) prog_14_method_26_code (1 : Nat) (Option.some Jvm.ClassFile.FieldType.boolean)) ∈ UW := ut_4 (List.mem_of_getElem? (i := 209) rfl) rfl
theorem u_4_210 : (Jvm.Cond.methodLink "CountTrianglesModel" (161 : Nat) ({ cls := "CountTrianglesModel", name := "partsOf", desc := "(I)I" } : Jvm.MethodName)) ∈ UW := ut_4 (List.mem_of_getElem? (i := 210) rfl) rfl
theorem u_4_212 : (Jvm.Cond.instanceMethod ({ cls := "CountTrianglesModel", name := "partsOf", desc := "(I)I" } : Jvm.MethodName)) ∈ UW := ut_4 (List.mem_of_getElem? (i := 212) rfl) rfl
theorem u_4_213 : (Jvm.Cond.code ({ cls := "CountTrianglesModel", name := "partsOf", desc := "(I)I" } : Jvm.MethodName) prog_14_method_29_code (5 : Nat) (Option.some Jvm.ClassFile.FieldType.int)) ∈ UW := ut_4 (List.mem_of_getElem? (i := 213) rfl) rfl
theorem u_4_214 : (Jvm.Cond.methodLink "CountTrianglesModel" (154 : Nat) ({ cls := "CountTrianglesModel", name := "packed", desc := "(I)I" } : Jvm.MethodName)) ∈ UW := ut_4 (List.mem_of_getElem? (i := 214) rfl) rfl
theorem u_4_216 : (Jvm.Cond.instanceMethod ({ cls := "CountTrianglesModel", name := "packed", desc := "(I)I" } : Jvm.MethodName)) ∈ UW := ut_4 (List.mem_of_getElem? (i := 216) rfl) rfl
theorem u_4_217 : (Jvm.Cond.code ({ cls := "CountTrianglesModel", name := "packed", desc := "(I)I" } : Jvm.MethodName) prog_14_method_27_code (4 : Nat) (Option.some Jvm.ClassFile.FieldType.int)) ∈ UW := ut_4 (List.mem_of_getElem? (i := 217) rfl) rfl
theorem u_4_218 : (Jvm.Cond.methodLink "CountTrianglesModel" (164 : Nat) ({ cls := "CountTrianglesModel", name := "turnParting", desc := "(I)Z" } : Jvm.MethodName)) ∈ UW := ut_4 (List.mem_of_getElem? (i := 218) rfl) rfl
theorem u_4_220 : (Jvm.Cond.instanceMethod ({ cls := "CountTrianglesModel", name := "turnParting", desc := "(I)Z" } : Jvm.MethodName)) ∈ UW := ut_4 (List.mem_of_getElem? (i := 220) rfl) rfl
theorem u_4_221 : (Jvm.Cond.code ({ cls := "CountTrianglesModel", name := "turnParting", desc := "(I)Z" } : Jvm.MethodName) prog_14_method_30_code (5 : Nat) (Option.some Jvm.ClassFile.FieldType.boolean)) ∈ UW := ut_4 (List.mem_of_getElem? (i := 221) rfl) rfl
theorem u_4_222 : (Jvm.Cond.methodLink "CountTrianglesLaw" (74 : Nat) ({ cls := "CountTrianglesModel", name := "partRank", desc := "(II)I" } : Jvm.MethodName)) ∈ UW := ut_4 (List.mem_of_getElem? (i := 222) rfl) rfl
theorem u_4_223 : (Jvm.Cond.instanceMethod ({ cls := "CountTrianglesModel", name := "partRank", desc := "(II)I" } : Jvm.MethodName)) ∈ UW := ut_4 (List.mem_of_getElem? (i := 223) rfl) rfl
theorem u_4_224 : (Jvm.Cond.selects "CountTrianglesModel" ({ cls := "CountTrianglesModel", name := "partRank", desc := "(II)I" } : Jvm.MethodName) ({ cls := "CountTrianglesModel", name := "partRank", desc := "(II)I" } : Jvm.MethodName)) ∈ UW := ut_4 (List.mem_of_getElem? (i := 224) rfl) rfl
theorem u_4_225 : (Jvm.Cond.code ({ cls := "CountTrianglesModel", name := "partRank", desc := "(II)I" } : Jvm.MethodName) prog_14_method_32_code (6 : Nat) (Option.some Jvm.ClassFile.FieldType.int)) ∈ UW := ut_4 (List.mem_of_getElem? (i := 225) rfl) rfl
theorem u_4_226 : (Jvm.Cond.methodLink "CountTrianglesModel" (167 : Nat) ({ cls := "CountTrianglesModel", name := "unpack", desc := "(II)Z" } : Jvm.MethodName)) ∈ UW := ut_4 (List.mem_of_getElem? (i := 226) rfl) rfl
theorem u_4_228 : (Jvm.Cond.instanceMethod ({ cls := "CountTrianglesModel", name := "unpack", desc := "(II)Z" } : Jvm.MethodName)) ∈ UW := ut_4 (List.mem_of_getElem? (i := 228) rfl) rfl
theorem u_4_229 : (Jvm.Cond.code ({ cls := "CountTrianglesModel", name := "unpack", desc := "(II)Z" } : Jvm.MethodName) prog_14_method_28_code (4 : Nat) (Option.some Jvm.ClassFile.FieldType.boolean)) ∈ UW := ut_4 (List.mem_of_getElem? (i := 229) rfl) rfl
theorem u_4_230 : (Jvm.Cond.methodLink "CountTrianglesLaw" (78 : Nat) ({ cls := "CountTrianglesModel", name := "orders", desc := "(IIII)I" } : Jvm.MethodName)) ∈ UW := ut_4 (List.mem_of_getElem? (i := 230) rfl) rfl
theorem u_4_231 : (Jvm.Cond.instanceMethod ({ cls := "CountTrianglesModel", name := "orders", desc := "(IIII)I" } : Jvm.MethodName)) ∈ UW := ut_4 (List.mem_of_getElem? (i := 231) rfl) rfl
theorem u_4_232 : (Jvm.Cond.selects "CountTrianglesModel" ({ cls := "CountTrianglesModel", name := "orders", desc := "(IIII)I" } : Jvm.MethodName) ({ cls := "CountTrianglesModel", name := "orders", desc := "(IIII)I" } : Jvm.MethodName)) ∈ UW := ut_4 (List.mem_of_getElem? (i := 232) rfl) rfl
theorem u_4_233 : (Jvm.Cond.code ({ cls := "CountTrianglesModel", name := "orders", desc := "(IIII)I" } : Jvm.MethodName) prog_14_method_39_code (7 : Nat) (Option.some Jvm.ClassFile.FieldType.int)) ∈ UW := ut_4 (List.mem_of_getElem? (i := 233) rfl) rfl
theorem u_4_234 : (Jvm.Cond.constantLong "CountTrianglesModel" (176 : Nat) (4 : Int64)) ∈ UW := ut_4 (List.mem_of_getElem? (i := 234) rfl) rfl
theorem u_4_235 : (Jvm.Cond.constantLong "CountTrianglesModel" (178 : Nat) (28 : Int64)) ∈ UW := ut_4 (List.mem_of_getElem? (i := 235) rfl) rfl
theorem u_4_236 : (Jvm.Cond.methodLink "CountTrianglesModel" (180 : Nat) ({ cls := "CountTrianglesModel", name := "beginOrder", desc := "(I)V" } : Jvm.MethodName)) ∈ UW := ut_4 (List.mem_of_getElem? (i := 236) rfl) rfl
theorem u_4_238 : (Jvm.Cond.instanceMethod ({ cls := "CountTrianglesModel", name := "beginOrder", desc := "(I)V" } : Jvm.MethodName)) ∈ UW := ut_4 (List.mem_of_getElem? (i := 238) rfl) rfl
theorem u_4_239 : (Jvm.Cond.code ({ cls := "CountTrianglesModel", name := "beginOrder", desc := "(I)V" } : Jvm.MethodName) prog_14_method_35_code (3 : Nat) (Option.none : Option Jvm.ClassFile.FieldType)) ∈ UW := ut_4 (List.mem_of_getElem? (i := 239) rfl) rfl
theorem u_5_0 : (Jvm.Cond.methodLink "CountTrianglesModel" (184 : Nat) ({ cls := "CountTrianglesModel", name := "markOf", desc := "(II)I" } : Jvm.MethodName)) ∈ UW := ut_5 (List.mem_of_getElem? (i := 0) rfl) rfl
theorem u_5_2 : (Jvm.Cond.instanceMethod ({ cls := "CountTrianglesModel", name := "markOf", desc := "(II)I" } : Jvm.MethodName)) ∈ UW := ut_5 (List.mem_of_getElem? (i := 2) rfl) rfl
theorem u_5_3 : (Jvm.Cond.code ({ cls := "CountTrianglesModel", name := "markOf", desc := "(II)I" } : Jvm.MethodName) prog_14_method_38_code (10 : Nat) (Option.some Jvm.ClassFile.FieldType.int)) ∈ UW := ut_5 (List.mem_of_getElem? (i := 3) rfl) rfl
theorem u_5_4 : (Jvm.Cond.methodLink "CountTrianglesModel" (173 : Nat) ({ cls := "CountTrianglesModel", name := "rings", desc := "(I)I" } : Jvm.MethodName)) ∈ UW := ut_5 (List.mem_of_getElem? (i := 4) rfl) rfl
theorem u_5_6 : (Jvm.Cond.instanceMethod ({ cls := "CountTrianglesModel", name := "rings", desc := "(I)I" } : Jvm.MethodName)) ∈ UW := ut_5 (List.mem_of_getElem? (i := 6) rfl) rfl
theorem u_5_7 : (Jvm.Cond.code ({ cls := "CountTrianglesModel", name := "rings", desc := "(I)I" } : Jvm.MethodName) prog_14_method_37_code (6 : Nat) (Option.some Jvm.ClassFile.FieldType.int)) ∈ UW := ut_5 (List.mem_of_getElem? (i := 7) rfl) rfl
theorem u_5_8 : (Jvm.Cond.methodLink "CountTrianglesModel" (188 : Nat) ({ cls := "CountTrianglesModel", name := "turnOrder", desc := "(I)Z" } : Jvm.MethodName)) ∈ UW := ut_5 (List.mem_of_getElem? (i := 8) rfl) rfl
theorem u_5_10 : (Jvm.Cond.instanceMethod ({ cls := "CountTrianglesModel", name := "turnOrder", desc := "(I)Z" } : Jvm.MethodName)) ∈ UW := ut_5 (List.mem_of_getElem? (i := 10) rfl) rfl
theorem u_5_11 : (Jvm.Cond.code ({ cls := "CountTrianglesModel", name := "turnOrder", desc := "(I)Z" } : Jvm.MethodName) prog_14_method_36_code (7 : Nat) (Option.some Jvm.ClassFile.FieldType.boolean)) ∈ UW := ut_5 (List.mem_of_getElem? (i := 11) rfl) rfl
theorem u_5_12 : (Jvm.Cond.methodLink "CountTrianglesLaw" (82 : Nat) ({ cls := "CountTrianglesModel", name := "mark", desc := "(III)I" } : Jvm.MethodName)) ∈ UW := ut_5 (List.mem_of_getElem? (i := 12) rfl) rfl
theorem u_5_13 : (Jvm.Cond.instanceMethod ({ cls := "CountTrianglesModel", name := "mark", desc := "(III)I" } : Jvm.MethodName)) ∈ UW := ut_5 (List.mem_of_getElem? (i := 13) rfl) rfl
theorem u_5_14 : (Jvm.Cond.selects "CountTrianglesModel" ({ cls := "CountTrianglesModel", name := "mark", desc := "(III)I" } : Jvm.MethodName) ({ cls := "CountTrianglesModel", name := "mark", desc := "(III)I" } : Jvm.MethodName)) ∈ UW := ut_5 (List.mem_of_getElem? (i := 14) rfl) rfl
theorem u_5_15 : (Jvm.Cond.code ({ cls := "CountTrianglesModel", name := "mark", desc := "(III)I" } : Jvm.MethodName) prog_14_method_40_code (4 : Nat) (Option.some Jvm.ClassFile.FieldType.int)) ∈ UW := ut_5 (List.mem_of_getElem? (i := 15) rfl) rfl
theorem u_5_16 : (Jvm.Cond.methodLink "CountTrianglesModel" (191 : Nat) ({ cls := "CountTrianglesModel", name := "takeOrder", desc := "(II)Z" } : Jvm.MethodName)) ∈ UW := ut_5 (List.mem_of_getElem? (i := 16) rfl) rfl
theorem u_5_18 : (Jvm.Cond.instanceMethod ({ cls := "CountTrianglesModel", name := "takeOrder", desc := "(II)Z" } : Jvm.MethodName)) ∈ UW := ut_5 (List.mem_of_getElem? (i := 18) rfl) rfl
theorem u_5_19 : (Jvm.Cond.code ({ cls := "CountTrianglesModel", name := "takeOrder", desc := "(II)Z" } : Jvm.MethodName) prog_14_method_34_code (3 : Nat) (Option.some Jvm.ClassFile.FieldType.boolean)) ∈ UW := ut_5 (List.mem_of_getElem? (i := 19) rfl) rfl
theorem u_5_20 : (Jvm.Cond.methodLink "CountTrianglesModel" (170 : Nat) ({ cls := "CountTrianglesModel", name := "isOrder", desc := "(I)Z" } : Jvm.MethodName)) ∈ UW := ut_5 (List.mem_of_getElem? (i := 20) rfl) rfl
theorem u_5_22 : (Jvm.Cond.instanceMethod ({ cls := "CountTrianglesModel", name := "isOrder", desc := "(I)Z" } : Jvm.MethodName)) ∈ UW := ut_5 (List.mem_of_getElem? (i := 22) rfl) rfl
theorem u_5_23 : (Jvm.Cond.code ({ cls := "CountTrianglesModel", name := "isOrder", desc := "(I)Z" } : Jvm.MethodName) prog_14_method_33_code (4 : Nat) (Option.some Jvm.ClassFile.FieldType.boolean)) ∈ UW := ut_5 (List.mem_of_getElem? (i := 23) rfl) rfl
theorem u_5_24 : (Jvm.Cond.methodLink "CountTrianglesLaw" (86 : Nat) ({ cls := "CountTrianglesModel", name := "rank", desc := "(II)I" } : Jvm.MethodName)) ∈ UW := ut_5 (List.mem_of_getElem? (i := 24) rfl) rfl
theorem u_5_25 : (Jvm.Cond.instanceMethod ({ cls := "CountTrianglesModel", name := "rank", desc := "(II)I" } : Jvm.MethodName)) ∈ UW := ut_5 (List.mem_of_getElem? (i := 25) rfl) rfl
theorem u_5_26 : (Jvm.Cond.selects "CountTrianglesModel" ({ cls := "CountTrianglesModel", name := "rank", desc := "(II)I" } : Jvm.MethodName) ({ cls := "CountTrianglesModel", name := "rank", desc := "(II)I" } : Jvm.MethodName)) ∈ UW := ut_5 (List.mem_of_getElem? (i := 26) rfl) rfl
theorem u_5_27 : (Jvm.Cond.code ({ cls := "CountTrianglesModel", name := "rank", desc := "(II)I" } : Jvm.MethodName) prog_14_method_41_code (7 : Nat) (Option.some Jvm.ClassFile.FieldType.int)) ∈ UW := ut_5 (List.mem_of_getElem? (i := 27) rfl) rfl
theorem u_5_28 : (Jvm.Cond.methodLink "CountTrianglesLaw" (90 : Nat) ({ cls := "CountTrianglesModel", name := "over", desc := "(II)I" } : Jvm.MethodName)) ∈ UW := ut_5 (List.mem_of_getElem? (i := 28) rfl) rfl
theorem u_5_29 : (Jvm.Cond.instanceMethod ({ cls := "CountTrianglesModel", name := "over", desc := "(II)I" } : Jvm.MethodName)) ∈ UW := ut_5 (List.mem_of_getElem? (i := 29) rfl) rfl
theorem u_5_30 : (Jvm.Cond.selects "CountTrianglesModel" ({ cls := "CountTrianglesModel", name := "over", desc := "(II)I" } : Jvm.MethodName) ({ cls := "CountTrianglesModel", name := "over", desc := "(II)I" } : Jvm.MethodName)) ∈ UW := ut_5 (List.mem_of_getElem? (i := 30) rfl) rfl
theorem u_5_31 : (Jvm.Cond.code ({ cls := "CountTrianglesModel", name := "over", desc := "(II)I" } : Jvm.MethodName) prog_14_method_42_code (4 : Nat) (Option.some Jvm.ClassFile.FieldType.int)) ∈ UW := ut_5 (List.mem_of_getElem? (i := 31) rfl) rfl
theorem u_5_32 : (Jvm.Cond.methodLink "CountTrianglesLaw" (94 : Nat) ({ cls := "CountTrianglesModel", name := "behind", desc := "(III)I" } : Jvm.MethodName)) ∈ UW := ut_5 (List.mem_of_getElem? (i := 32) rfl) rfl
theorem u_5_33 : (Jvm.Cond.instanceMethod ({ cls := "CountTrianglesModel", name := "behind", desc := "(III)I" } : Jvm.MethodName)) ∈ UW := ut_5 (List.mem_of_getElem? (i := 33) rfl) rfl
theorem u_5_34 : (Jvm.Cond.selects "CountTrianglesModel" ({ cls := "CountTrianglesModel", name := "behind", desc := "(III)I" } : Jvm.MethodName) ({ cls := "CountTrianglesModel", name := "behind", desc := "(III)I" } : Jvm.MethodName)) ∈ UW := ut_5 (List.mem_of_getElem? (i := 34) rfl) rfl
theorem u_5_35 : (Jvm.Cond.code ({ cls := "CountTrianglesModel", name := "behind", desc := "(III)I" } : Jvm.MethodName) prog_14_method_43_code (5 : Nat) (Option.some Jvm.ClassFile.FieldType.int)) ∈ UW := ut_5 (List.mem_of_getElem? (i := 35) rfl) rfl
theorem u_5_36 : (Jvm.Cond.methodLink "CountTrianglesLaw" (98 : Nat) ({ cls := "CountTrianglesModel", name := "base", desc := "(II)I" } : Jvm.MethodName)) ∈ UW := ut_5 (List.mem_of_getElem? (i := 36) rfl) rfl
theorem u_5_37 : (Jvm.Cond.instanceMethod ({ cls := "CountTrianglesModel", name := "base", desc := "(II)I" } : Jvm.MethodName)) ∈ UW := ut_5 (List.mem_of_getElem? (i := 37) rfl) rfl
theorem u_5_38 : (Jvm.Cond.selects "CountTrianglesModel" ({ cls := "CountTrianglesModel", name := "base", desc := "(II)I" } : Jvm.MethodName) ({ cls := "CountTrianglesModel", name := "base", desc := "(II)I" } : Jvm.MethodName)) ∈ UW := ut_5 (List.mem_of_getElem? (i := 38) rfl) rfl
theorem u_5_39 : (Jvm.Cond.code ({ cls := "CountTrianglesModel", name := "base", desc := "(II)I" } : Jvm.MethodName) prog_14_method_45_code (5 : Nat) (Option.some Jvm.ClassFile.FieldType.int)) ∈ UW := ut_5 (List.mem_of_getElem? (i := 39) rfl) rfl
theorem u_5_40 : (Jvm.Cond.methodLink "CountTrianglesModel" (194 : Nat) ({ cls := "CountTrianglesModel", name := "isPolynomial", desc := "(I)Z" } : Jvm.MethodName)) ∈ UW := ut_5 (List.mem_of_getElem? (i := 40) rfl) rfl
theorem u_5_41 : (Jvm.Cond.static ({ cls := "CountTrianglesModel", name := "isPolynomial", desc := "(I)Z" } : Jvm.MethodName)) ∈ UW := ut_5 (List.mem_of_getElem? (i := 41) rfl) rfl
theorem u_5_42 : (Jvm.Cond.code ({ cls := "CountTrianglesModel", name := "isPolynomial", desc := "(I)Z" } : Jvm.MethodName) prog_14_method_44_code (1 : Nat) (Option.some Jvm.ClassFile.FieldType.boolean)) ∈ UW := ut_5 (List.mem_of_getElem? (i := 42) rfl) rfl
theorem u_5_43 : (Jvm.Cond.methodLink "CountTrianglesLaw" (103 : Nat) ({ cls := "CountTrianglesModel", name := "set", desc := "(IIJ)J" } : Jvm.MethodName)) ∈ UW := ut_5 (List.mem_of_getElem? (i := 43) rfl) rfl
theorem u_5_44 : (Jvm.Cond.instanceMethod ({ cls := "CountTrianglesModel", name := "set", desc := "(IIJ)J" } : Jvm.MethodName)) ∈ UW := ut_5 (List.mem_of_getElem? (i := 44) rfl) rfl
theorem u_5_45 : (Jvm.Cond.selects "CountTrianglesModel" ({ cls := "CountTrianglesModel", name := "set", desc := "(IIJ)J" } : Jvm.MethodName) ({ cls := "CountTrianglesModel", name := "set", desc := "(IIJ)J" } : Jvm.MethodName)) ∈ UW := ut_5 (List.mem_of_getElem? (i := 45) rfl) rfl
theorem u_5_46 : (Jvm.Cond.code ({ cls := "CountTrianglesModel", name := "set", desc := "(IIJ)J" } : Jvm.MethodName) prog_14_method_46_code (7 : Nat) (Option.some Jvm.ClassFile.FieldType.long)) ∈ UW := ut_5 (List.mem_of_getElem? (i := 46) rfl) rfl
theorem u_5_47 : (Jvm.Cond.constantLong "CountTrianglesModel" (197 : Nat) (-1000000 : Int64)) ∈ UW := ut_5 (List.mem_of_getElem? (i := 47) rfl) rfl
theorem u_5_48 : (Jvm.Cond.constantLong "CountTrianglesModel" (199 : Nat) (1000000 : Int64)) ∈ UW := ut_5 (List.mem_of_getElem? (i := 48) rfl) rfl
theorem u_5_49 : (Jvm.Cond.methodLink "CountTrianglesLaw" (108 : Nat) ({ cls := "CountTrianglesModel", name := "coefficient", desc := "(II)J" } : Jvm.MethodName)) ∈ UW := ut_5 (List.mem_of_getElem? (i := 49) rfl) rfl
theorem u_5_50 : (Jvm.Cond.instanceMethod ({ cls := "CountTrianglesModel", name := "coefficient", desc := "(II)J" } : Jvm.MethodName)) ∈ UW := ut_5 (List.mem_of_getElem? (i := 50) rfl) rfl
theorem u_5_51 : (Jvm.Cond.selects "CountTrianglesModel" ({ cls := "CountTrianglesModel", name := "coefficient", desc := "(II)J" } : Jvm.MethodName) ({ cls := "CountTrianglesModel", name := "coefficient", desc := "(II)J" } : Jvm.MethodName)) ∈ UW := ut_5 (List.mem_of_getElem? (i := 51) rfl) rfl
theorem u_5_52 : (Jvm.Cond.code ({ cls := "CountTrianglesModel", name := "coefficient", desc := "(II)J" } : Jvm.MethodName) prog_14_method_47_code (3 : Nat) (Option.some Jvm.ClassFile.FieldType.long)) ∈ UW := ut_5 (List.mem_of_getElem? (i := 52) rfl) rfl
theorem u_5_53 : (Jvm.Cond.methodLink "CountTrianglesLaw" (112 : Nat) ({ cls := "CountTrianglesModel", name := "told", desc := "(II)I" } : Jvm.MethodName)) ∈ UW := ut_5 (List.mem_of_getElem? (i := 53) rfl) rfl
theorem u_5_54 : (Jvm.Cond.instanceMethod ({ cls := "CountTrianglesModel", name := "told", desc := "(II)I" } : Jvm.MethodName)) ∈ UW := ut_5 (List.mem_of_getElem? (i := 54) rfl) rfl
theorem u_5_55 : (Jvm.Cond.selects "CountTrianglesModel" ({ cls := "CountTrianglesModel", name := "told", desc := "(II)I" } : Jvm.MethodName) ({ cls := "CountTrianglesModel", name := "told", desc := "(II)I" } : Jvm.MethodName)) ∈ UW := ut_5 (List.mem_of_getElem? (i := 55) rfl) rfl
theorem u_5_56 : (Jvm.Cond.code ({ cls := "CountTrianglesModel", name := "told", desc := "(II)I" } : Jvm.MethodName) prog_14_method_49_code (3 : Nat) (Option.some Jvm.ClassFile.FieldType.int)) ∈ UW := ut_5 (List.mem_of_getElem? (i := 56) rfl) rfl
theorem u_5_57 : (Jvm.Cond.methodLink "CountTrianglesModel" (201 : Nat) ({ cls := "CountTrianglesModel", name := "degree", desc := "(I)I" } : Jvm.MethodName)) ∈ UW := ut_5 (List.mem_of_getElem? (i := 57) rfl) rfl
theorem u_5_59 : (Jvm.Cond.instanceMethod ({ cls := "CountTrianglesModel", name := "degree", desc := "(I)I" } : Jvm.MethodName)) ∈ UW := ut_5 (List.mem_of_getElem? (i := 59) rfl) rfl
theorem u_5_60 : (Jvm.Cond.code ({ cls := "CountTrianglesModel", name := "degree", desc := "(I)I" } : Jvm.MethodName) prog_14_method_48_code (4 : Nat) (Option.some Jvm.ClassFile.FieldType.int)) ∈ UW := ut_5 (List.mem_of_getElem? (i := 60) rfl) rfl
theorem u_5_61 : (Jvm.Cond.methodLink "CountTrianglesLaw" (116 : Nat) ({ cls := "CountTrianglesModel", name := "turn", desc := "(II)I" } : Jvm.MethodName)) ∈ UW := ut_5 (List.mem_of_getElem? (i := 61) rfl) rfl
theorem u_5_62 : (Jvm.Cond.instanceMethod ({ cls := "CountTrianglesModel", name := "turn", desc := "(II)I" } : Jvm.MethodName)) ∈ UW := ut_5 (List.mem_of_getElem? (i := 62) rfl) rfl
theorem u_5_63 : (Jvm.Cond.selects "CountTrianglesModel" ({ cls := "CountTrianglesModel", name := "turn", desc := "(II)I" } : Jvm.MethodName) ({ cls := "CountTrianglesModel", name := "turn", desc := "(II)I" } : Jvm.MethodName)) ∈ UW := ut_5 (List.mem_of_getElem? (i := 63) rfl) rfl
theorem u_5_64 : (Jvm.Cond.code ({ cls := "CountTrianglesModel", name := "turn", desc := "(II)I" } : Jvm.MethodName) prog_14_method_56_code (4 : Nat) (Option.some Jvm.ClassFile.FieldType.int)) ∈ UW := ut_5 (List.mem_of_getElem? (i := 64) rfl) rfl
theorem u_5_65 : (Jvm.Cond.methodLink "CountTrianglesModel" (224 : Nat) ({ cls := "CountTrianglesModel", name := "areMade", desc := "(II)Z" } : Jvm.MethodName)) ∈ UW := ut_5 (List.mem_of_getElem? (i := 65) rfl) rfl
theorem u_5_67 : (Jvm.Cond.instanceMethod ({ cls := "CountTrianglesModel", name := "areMade", desc := "(II)Z" } : Jvm.MethodName)) ∈ UW := ut_5 (List.mem_of_getElem? (i := 67) rfl) rfl
theorem u_5_68 : (Jvm.Cond.code ({ cls := "CountTrianglesModel", name := "areMade", desc := "(II)Z" } : Jvm.MethodName) prog_14_method_55_code (7 : Nat) (Option.some Jvm.ClassFile.FieldType.boolean)) ∈ UW := ut_5 (List.mem_of_getElem? (i := 68) rfl) rfl
theorem u_5_69 : (Jvm.Cond.methodLink "CountTrianglesModel" (217 : Nat) ({ cls := "CountTrianglesModel", name := "findFalling", desc := "(I)V" } : Jvm.MethodName)) ∈ UW := ut_5 (List.mem_of_getElem? (i := 69) rfl) rfl
theorem u_5_71 : (Jvm.Cond.instanceMethod ({ cls := "CountTrianglesModel", name := "findFalling", desc := "(I)V" } : Jvm.MethodName)) ∈ UW := ut_5 (List.mem_of_getElem? (i := 71) rfl) rfl
theorem u_5_72 : (Jvm.Cond.code ({ cls := "CountTrianglesModel", name := "findFalling", desc := "(I)V" } : Jvm.MethodName) prog_14_method_54_code (3 : Nat) (Option.none : Option Jvm.ClassFile.FieldType)) ∈ UW := ut_5 (List.mem_of_getElem? (i := 72) rfl) rfl
theorem u_5_73 : (Jvm.Cond.constantLong "CountTrianglesModel" (204 : Nat) (40320 : Int64)) ∈ UW := ut_5 (List.mem_of_getElem? (i := 73) rfl) rfl
theorem u_5_74 : (Jvm.Cond.methodLink "CountTrianglesModel" (206 : Nat) ({ cls := "CountTrianglesModel", name := "steps", desc := "(I)J" } : Jvm.MethodName)) ∈ UW := ut_5 (List.mem_of_getElem? (i := 74) rfl) rfl
theorem u_5_75 : (Jvm.Cond.static ({ cls := "CountTrianglesModel", name := "steps", desc := "(I)J" } : Jvm.MethodName)) ∈ UW := ut_5 (List.mem_of_getElem? (i := 75) rfl) rfl
theorem u_5_76 : (Jvm.Cond.code ({ cls := "CountTrianglesModel", name := "steps", desc := "(I)J" } : Jvm.MethodName) prog_14_method_50_code (4 : Nat) (Option.some Jvm.ClassFile.FieldType.long)) ∈ UW := ut_5 (List.mem_of_getElem? (i := 76) rfl) rfl
theorem u_5_77 : (Jvm.Cond.methodLink "CountTrianglesModel" (210 : Nat) ({ cls := "CountTrianglesModel", name := "clearMade", desc := "()V" } : Jvm.MethodName)) ∈ UW := ut_5 (List.mem_of_getElem? (i := 77) rfl) rfl
theorem u_5_79 : (Jvm.Cond.instanceMethod ({ cls := "CountTrianglesModel", name := "clearMade", desc := "()V" } : Jvm.MethodName)) ∈ UW := ut_5 (List.mem_of_getElem? (i := 79) rfl) rfl
theorem u_5_80 : (Jvm.Cond.code ({ cls := "CountTrianglesModel", name := "clearMade", desc := "()V" } : Jvm.MethodName) prog_14_method_53_code (2 : Nat) (Option.none : Option Jvm.ClassFile.FieldType)) ∈ UW := ut_5 (List.mem_of_getElem? (i := 80) rfl) rfl
theorem u_5_81 : (Jvm.Cond.methodLink "CountTrianglesModel" (213 : Nat) ({ cls := "CountTrianglesModel", name := "timesInFalling", desc := "(J)V" } : Jvm.MethodName)) ∈ UW := ut_5 (List.mem_of_getElem? (i := 81) rfl) rfl
theorem u_5_83 : (Jvm.Cond.instanceMethod ({ cls := "CountTrianglesModel", name := "timesInFalling", desc := "(J)V" } : Jvm.MethodName)) ∈ UW := ut_5 (List.mem_of_getElem? (i := 83) rfl) rfl
theorem u_5_84 : (Jvm.Cond.code ({ cls := "CountTrianglesModel", name := "timesInFalling", desc := "(J)V" } : Jvm.MethodName) prog_14_method_51_code (4 : Nat) (Option.none : Option Jvm.ClassFile.FieldType)) ∈ UW := ut_5 (List.mem_of_getElem? (i := 84) rfl) rfl
theorem u_5_85 : (Jvm.Cond.methodLink "CountTrianglesModel" (220 : Nat) ({ cls := "CountTrianglesModel", name := "timesIn", desc := "(IJ)V" } : Jvm.MethodName)) ∈ UW := ut_5 (List.mem_of_getElem? (i := 85) rfl) rfl
theorem u_5_87 : (Jvm.Cond.instanceMethod ({ cls := "CountTrianglesModel", name := "timesIn", desc := "(IJ)V" } : Jvm.MethodName)) ∈ UW := ut_5 (List.mem_of_getElem? (i := 87) rfl) rfl
theorem u_5_88 : (Jvm.Cond.code ({ cls := "CountTrianglesModel", name := "timesIn", desc := "(IJ)V" } : Jvm.MethodName) prog_14_method_52_code (7 : Nat) (Option.none : Option Jvm.ClassFile.FieldType)) ∈ UW := ut_5 (List.mem_of_getElem? (i := 88) rfl) rfl
theorem u_5_89 : (Jvm.Cond.methodLink "CountTrianglesLaw" (120 : Nat) ({ cls := "CountTrianglesModel", name := "value", desc := "(III)J" } : Jvm.MethodName)) ∈ UW := ut_5 (List.mem_of_getElem? (i := 89) rfl) rfl
theorem u_5_90 : (Jvm.Cond.instanceMethod ({ cls := "CountTrianglesModel", name := "value", desc := "(III)J" } : Jvm.MethodName)) ∈ UW := ut_5 (List.mem_of_getElem? (i := 90) rfl) rfl
theorem u_5_91 : (Jvm.Cond.selects "CountTrianglesModel" ({ cls := "CountTrianglesModel", name := "value", desc := "(III)J" } : Jvm.MethodName) ({ cls := "CountTrianglesModel", name := "value", desc := "(III)J" } : Jvm.MethodName)) ∈ UW := ut_5 (List.mem_of_getElem? (i := 91) rfl) rfl
theorem u_5_92 : (Jvm.Cond.code ({ cls := "CountTrianglesModel", name := "value", desc := "(III)J" } : Jvm.MethodName) prog_14_method_58_code (6 : Nat) (Option.some Jvm.ClassFile.FieldType.long)) ∈ UW := ut_5 (List.mem_of_getElem? (i := 92) rfl) rfl
theorem u_5_93 : (Jvm.Cond.constantLong "CountTrianglesModel" (227 : Nat) (-20 : Int64)) ∈ UW := ut_5 (List.mem_of_getElem? (i := 93) rfl) rfl
theorem u_5_94 : (Jvm.Cond.constantLong "CountTrianglesModel" (229 : Nat) (20 : Int64)) ∈ UW := ut_5 (List.mem_of_getElem? (i := 94) rfl) rfl
theorem u_5_95 : (Jvm.Cond.methodLink "CountTrianglesModel" (231 : Nat) ({ cls := "CountTrianglesModel", name := "valueAt", desc := "(IJ)J" } : Jvm.MethodName)) ∈ UW := ut_5 (List.mem_of_getElem? (i := 95) rfl) rfl
theorem u_5_97 : (Jvm.Cond.instanceMethod ({ cls := "CountTrianglesModel", name := "valueAt", desc := "(IJ)J" } : Jvm.MethodName)) ∈ UW := ut_5 (List.mem_of_getElem? (i := 97) rfl) rfl
theorem u_5_98 : (Jvm.Cond.code ({ cls := "CountTrianglesModel", name := "valueAt", desc := "(IJ)J" } : Jvm.MethodName) prog_14_method_57_code (9 : Nat) (Option.some Jvm.ClassFile.FieldType.long)) ∈ UW := ut_5 (List.mem_of_getElem? (i := 98) rfl) rfl
theorem u_5_99 : (Jvm.Cond.methodLink "CountTrianglesLaw" (124 : Nat) ({ cls := "CountTrianglesModel", name := "sumUp", desc := "(I)I" } : Jvm.MethodName)) ∈ UW := ut_5 (List.mem_of_getElem? (i := 99) rfl) rfl
theorem u_5_100 : (Jvm.Cond.instanceMethod ({ cls := "CountTrianglesModel", name := "sumUp", desc := "(I)I" } : Jvm.MethodName)) ∈ UW := ut_5 (List.mem_of_getElem? (i := 100) rfl) rfl
theorem u_5_101 : (Jvm.Cond.selects "CountTrianglesModel" ({ cls := "CountTrianglesModel", name := "sumUp", desc := "(I)I" } : Jvm.MethodName) ({ cls := "CountTrianglesModel", name := "sumUp", desc := "(I)I" } : Jvm.MethodName)) ∈ UW := ut_5 (List.mem_of_getElem? (i := 101) rfl) rfl
theorem u_5_102 : (Jvm.Cond.code ({ cls := "CountTrianglesModel", name := "sumUp", desc := "(I)I" } : Jvm.MethodName) prog_14_method_59_code (3 : Nat) (Option.some Jvm.ClassFile.FieldType.int)) ∈ UW := ut_5 (List.mem_of_getElem? (i := 102) rfl) rfl
theorem u_5_103 : (Jvm.Cond.methodLink "CountTrianglesLaw" (128 : Nat) ({ cls := "CountTrianglesModel", name := "root", desc := "(II)I" } : Jvm.MethodName)) ∈ UW := ut_5 (List.mem_of_getElem? (i := 103) rfl) rfl
theorem u_5_104 : (Jvm.Cond.instanceMethod ({ cls := "CountTrianglesModel", name := "root", desc := "(II)I" } : Jvm.MethodName)) ∈ UW := ut_5 (List.mem_of_getElem? (i := 104) rfl) rfl
theorem u_5_105 : (Jvm.Cond.selects "CountTrianglesModel" ({ cls := "CountTrianglesModel", name := "root", desc := "(II)I" } : Jvm.MethodName) ({ cls := "CountTrianglesModel", name := "root", desc := "(II)I" } : Jvm.MethodName)) ∈ UW := ut_5 (List.mem_of_getElem? (i := 105) rfl) rfl
theorem u_5_106 : (Jvm.Cond.code ({ cls := "CountTrianglesModel", name := "root", desc := "(II)I" } : Jvm.MethodName) prog_14_method_60_code (5 : Nat) (Option.some Jvm.ClassFile.FieldType.int)) ∈ UW := ut_5 (List.mem_of_getElem? (i := 106) rfl) rfl
theorem u_5_107 : (Jvm.Cond.methodLink "CountTrianglesLaw" (132 : Nat) ({ cls := "CountTrianglesModel", name := "count", desc := "(I)I" } : Jvm.MethodName)) ∈ UW := ut_5 (List.mem_of_getElem? (i := 107) rfl) rfl
theorem u_5_108 : (Jvm.Cond.instanceMethod ({ cls := "CountTrianglesModel", name := "count", desc := "(I)I" } : Jvm.MethodName)) ∈ UW := ut_5 (List.mem_of_getElem? (i := 108) rfl) rfl
theorem u_5_109 : (Jvm.Cond.selects "CountTrianglesModel" ({ cls := "CountTrianglesModel", name := "count", desc := "(I)I" } : Jvm.MethodName) ({ cls := "CountTrianglesModel", name := "count", desc := "(I)I" } : Jvm.MethodName)) ∈ UW := ut_5 (List.mem_of_getElem? (i := 109) rfl) rfl
theorem u_5_110 : (Jvm.Cond.code ({ cls := "CountTrianglesModel", name := "count", desc := "(I)I" } : Jvm.MethodName) prog_14_method_61_code (4 : Nat) (Option.some Jvm.ClassFile.FieldType.int)) ∈ UW := ut_5 (List.mem_of_getElem? (i := 110) rfl) rfl
theorem u_5_111 : (Jvm.Cond.constantLong "CountTrianglesLaw" (13 : Nat) (4294967295 : Int64)) ∈ UW := ut_5 (List.mem_of_getElem? (i := 111) rfl) rfl
theorem ut_p {w : Cond} (h : w ∈ k2_sels lw_privs) (g : goodWord w = true) : w ∈ UW := List.mem_filter.mpr ⟨List.mem_append_left _ h, g⟩
theorem u_p_0 : Cond.selects "CountTriangles$Falls" ⟨"CountTriangles$Falls", "waysByNext", "(III)I"⟩ ⟨"CountTriangles$Falls", "waysByNext", "(III)I"⟩ ∈ UW := ut_p (List.mem_of_getElem? (i := 0) rfl) rfl
theorem u_p_1 : Cond.selects "CountTriangles$LesserPairs" ⟨"CountTriangles$LesserPairs", "waysByNext", "(II)I"⟩ ⟨"CountTriangles$LesserPairs", "waysByNext", "(II)I"⟩ ∈ UW := ut_p (List.mem_of_getElem? (i := 1) rfl) rfl
theorem u_p_2 : Cond.selects "CountTriangles$Text" ⟨"CountTriangles$Text", "numberEnd", "(I)I"⟩ ⟨"CountTriangles$Text", "numberEnd", "(I)I"⟩ ∈ UW := ut_p (List.mem_of_getElem? (i := 2) rfl) rfl
theorem u_p_3 : Cond.selects "CountTriangles$Law" ⟨"CountTriangles$Law", "takeItem", "(LCountTriangles$Text;I)V"⟩ ⟨"CountTriangles$Law", "takeItem", "(LCountTriangles$Text;I)V"⟩ ∈ UW := ut_p (List.mem_of_getElem? (i := 3) rfl) rfl
theorem u_p_4 : Cond.selects "CountTriangles$Law" ⟨"CountTriangles$Law", "fillNumbers", "()V"⟩ ⟨"CountTriangles$Law", "fillNumbers", "()V"⟩ ∈ UW := ut_p (List.mem_of_getElem? (i := 4) rfl) rfl
theorem u_p_5 : Cond.selects "CountTriangles$Law" ⟨"CountTriangles$Law", "madeOfAbove", "(II)J"⟩ ⟨"CountTriangles$Law", "madeOfAbove", "(II)J"⟩ ∈ UW := ut_p (List.mem_of_getElem? (i := 5) rfl) rfl
theorem u_p_6 : Cond.selects "CountTriangles$Law" ⟨"CountTriangles$Law", "endsInOnes", "(I)Z"⟩ ⟨"CountTriangles$Law", "endsInOnes", "(I)Z"⟩ ∈ UW := ut_p (List.mem_of_getElem? (i := 6) rfl) rfl
theorem u_p_7 : Cond.selects "CountTriangles$Law" ⟨"CountTriangles$Law", "columnSum", "(II)J"⟩ ⟨"CountTriangles$Law", "columnSum", "(II)J"⟩ ∈ UW := ut_p (List.mem_of_getElem? (i := 7) rfl) rfl
theorem u_p_8 : Cond.selects "CountTriangles$Partings" ⟨"CountTriangles$Partings", "waysFrom", "(II)I"⟩ ⟨"CountTriangles$Partings", "waysFrom", "(II)I"⟩ ∈ UW := ut_p (List.mem_of_getElem? (i := 8) rfl) rfl
theorem u_p_9 : Cond.selects "CountTriangles$LongestRise" ⟨"CountTriangles$LongestRise", "fillTable", "()V"⟩ ⟨"CountTriangles$LongestRise", "fillTable", "()V"⟩ ∈ UW := ut_p (List.mem_of_getElem? (i := 9) rfl) rfl
theorem u_p_10 : Cond.selects "CountTriangles$LongestRise" ⟨"CountTriangles$LongestRise", "waysByNext", "(II)I"⟩ ⟨"CountTriangles$LongestRise", "waysByNext", "(II)I"⟩ ∈ UW := ut_p (List.mem_of_getElem? (i := 10) rfl) rfl
theorem u_p_11 : Cond.selects "CountTriangles$Orders" ⟨"CountTriangles$Orders", "packed", "(I)I"⟩ ⟨"CountTriangles$Orders", "packed", "(I)I"⟩ ∈ UW := ut_p (List.mem_of_getElem? (i := 11) rfl) rfl
theorem u_p_12 : Cond.selects "CountTriangles" ⟨"CountTriangles", "isOrder", "(II)Z"⟩ ⟨"CountTriangles", "isOrder", "(II)Z"⟩ ∈ UW := ut_p (List.mem_of_getElem? (i := 12) rfl) rfl
theorem u_p_13 : Cond.selects "CountTriangles$Orders" ⟨"CountTriangles$Orders", "lesserLater", "(II)I"⟩ ⟨"CountTriangles$Orders", "lesserLater", "(II)I"⟩ ∈ UW := ut_p (List.mem_of_getElem? (i := 13) rfl) rfl
theorem u_p_14 : Cond.selects "CountTriangles$Polynomial" ⟨"CountTriangles$Polynomial", "findTurned", "(I)Z"⟩ ⟨"CountTriangles$Polynomial", "findTurned", "(I)Z"⟩ ∈ UW := ut_p (List.mem_of_getElem? (i := 14) rfl) rfl
theorem u_p_15 : Cond.selects "CountTriangles$Polynomial" ⟨"CountTriangles$Polynomial", "choicesAreWholeFalling", "()Z"⟩ ⟨"CountTriangles$Polynomial", "choicesAreWholeFalling", "()Z"⟩ ∈ UW := ut_p (List.mem_of_getElem? (i := 15) rfl) rfl
theorem u_p_16 : Cond.selects "CountTriangles$Polynomial" ⟨"CountTriangles$Polynomial", "multiplyRoom", "(II)V"⟩ ⟨"CountTriangles$Polynomial", "multiplyRoom", "(II)V"⟩ ∈ UW := ut_p (List.mem_of_getElem? (i := 16) rfl) rfl
theorem u_p_17 : Cond.selects "CountTriangles$Polynomial" ⟨"CountTriangles$Polynomial", "roomMayStand", "(I)Z"⟩ ⟨"CountTriangles$Polynomial", "roomMayStand", "(I)Z"⟩ ∈ UW := ut_p (List.mem_of_getElem? (i := 17) rfl) rfl
theorem u_p_18 : Cond.selects "CountTriangles" ⟨"CountTriangles", "itemsOfLaws", "()I"⟩ ⟨"CountTriangles", "itemsOfLaws", "()I"⟩ ∈ UW := ut_p (List.mem_of_getElem? (i := 18) rfl) rfl
theorem u_p_19 : Cond.selects "CountTriangles" ⟨"CountTriangles", "coefficientsInUse", "()I"⟩ ⟨"CountTriangles", "coefficientsInUse", "()I"⟩ ∈ UW := ut_p (List.mem_of_getElem? (i := 19) rfl) rfl
theorem u_p_20 : Cond.selects "CountTrianglesModel" ⟨"CountTrianglesModel", "isRead", "()Z"⟩ ⟨"CountTrianglesModel", "isRead", "()Z"⟩ ∈ UW := ut_p (List.mem_of_getElem? (i := 20) rfl) rfl
theorem u_p_21 : Cond.selects "CountTrianglesModel" ⟨"CountTrianglesModel", "isItem", "()Z"⟩ ⟨"CountTrianglesModel", "isItem", "()Z"⟩ ∈ UW := ut_p (List.mem_of_getElem? (i := 21) rfl) rfl
theorem u_p_22 : Cond.selects "CountTrianglesModel" ⟨"CountTrianglesModel", "byteNow", "()I"⟩ ⟨"CountTrianglesModel", "byteNow", "()I"⟩ ∈ UW := ut_p (List.mem_of_getElem? (i := 22) rfl) rfl
theorem u_p_23 : Cond.selects "CountTrianglesModel" ⟨"CountTrianglesModel", "isNumber", "(II)Z"⟩ ⟨"CountTrianglesModel", "isNumber", "(II)Z"⟩ ∈ UW := ut_p (List.mem_of_getElem? (i := 23) rfl) rfl
theorem u_p_24 : Cond.selects "CountTrianglesModel" ⟨"CountTrianglesModel", "findRows", "(III)V"⟩ ⟨"CountTrianglesModel", "findRows", "(III)V"⟩ ∈ UW := ut_p (List.mem_of_getElem? (i := 24) rfl) rfl
theorem u_p_25 : Cond.selects "CountTrianglesModel" ⟨"CountTrianglesModel", "comes", "(IIII)I"⟩ ⟨"CountTrianglesModel", "comes", "(IIII)I"⟩ ∈ UW := ut_p (List.mem_of_getElem? (i := 25) rfl) rfl
theorem u_p_26 : Cond.selects "CountTrianglesModel" ⟨"CountTrianglesModel", "product", "(II)J"⟩ ⟨"CountTrianglesModel", "product", "(II)J"⟩ ∈ UW := ut_p (List.mem_of_getElem? (i := 26) rfl) rfl
theorem u_p_27 : Cond.selects "CountTrianglesModel" ⟨"CountTrianglesModel", "partsOf", "(I)I"⟩ ⟨"CountTrianglesModel", "partsOf", "(I)I"⟩ ∈ UW := ut_p (List.mem_of_getElem? (i := 27) rfl) rfl
theorem u_p_28 : Cond.selects "CountTrianglesModel" ⟨"CountTrianglesModel", "packed", "(I)I"⟩ ⟨"CountTrianglesModel", "packed", "(I)I"⟩ ∈ UW := ut_p (List.mem_of_getElem? (i := 28) rfl) rfl
theorem u_p_29 : Cond.selects "CountTrianglesModel" ⟨"CountTrianglesModel", "turnParting", "(I)Z"⟩ ⟨"CountTrianglesModel", "turnParting", "(I)Z"⟩ ∈ UW := ut_p (List.mem_of_getElem? (i := 29) rfl) rfl
theorem u_p_30 : Cond.selects "CountTrianglesModel" ⟨"CountTrianglesModel", "unpack", "(II)Z"⟩ ⟨"CountTrianglesModel", "unpack", "(II)Z"⟩ ∈ UW := ut_p (List.mem_of_getElem? (i := 30) rfl) rfl
theorem u_p_31 : Cond.selects "CountTrianglesModel" ⟨"CountTrianglesModel", "beginOrder", "(I)V"⟩ ⟨"CountTrianglesModel", "beginOrder", "(I)V"⟩ ∈ UW := ut_p (List.mem_of_getElem? (i := 31) rfl) rfl
theorem u_p_32 : Cond.selects "CountTrianglesModel" ⟨"CountTrianglesModel", "markOf", "(II)I"⟩ ⟨"CountTrianglesModel", "markOf", "(II)I"⟩ ∈ UW := ut_p (List.mem_of_getElem? (i := 32) rfl) rfl
theorem u_p_33 : Cond.selects "CountTrianglesModel" ⟨"CountTrianglesModel", "rings", "(I)I"⟩ ⟨"CountTrianglesModel", "rings", "(I)I"⟩ ∈ UW := ut_p (List.mem_of_getElem? (i := 33) rfl) rfl
theorem u_p_34 : Cond.selects "CountTrianglesModel" ⟨"CountTrianglesModel", "turnOrder", "(I)Z"⟩ ⟨"CountTrianglesModel", "turnOrder", "(I)Z"⟩ ∈ UW := ut_p (List.mem_of_getElem? (i := 34) rfl) rfl
theorem u_p_35 : Cond.selects "CountTrianglesModel" ⟨"CountTrianglesModel", "takeOrder", "(II)Z"⟩ ⟨"CountTrianglesModel", "takeOrder", "(II)Z"⟩ ∈ UW := ut_p (List.mem_of_getElem? (i := 35) rfl) rfl
theorem u_p_36 : Cond.selects "CountTrianglesModel" ⟨"CountTrianglesModel", "isOrder", "(I)Z"⟩ ⟨"CountTrianglesModel", "isOrder", "(I)Z"⟩ ∈ UW := ut_p (List.mem_of_getElem? (i := 36) rfl) rfl
theorem u_p_37 : Cond.selects "CountTrianglesModel" ⟨"CountTrianglesModel", "degree", "(I)I"⟩ ⟨"CountTrianglesModel", "degree", "(I)I"⟩ ∈ UW := ut_p (List.mem_of_getElem? (i := 37) rfl) rfl
theorem u_p_38 : Cond.selects "CountTrianglesModel" ⟨"CountTrianglesModel", "areMade", "(II)Z"⟩ ⟨"CountTrianglesModel", "areMade", "(II)Z"⟩ ∈ UW := ut_p (List.mem_of_getElem? (i := 38) rfl) rfl
theorem u_p_39 : Cond.selects "CountTrianglesModel" ⟨"CountTrianglesModel", "findFalling", "(I)V"⟩ ⟨"CountTrianglesModel", "findFalling", "(I)V"⟩ ∈ UW := ut_p (List.mem_of_getElem? (i := 39) rfl) rfl
theorem u_p_40 : Cond.selects "CountTrianglesModel" ⟨"CountTrianglesModel", "clearMade", "()V"⟩ ⟨"CountTrianglesModel", "clearMade", "()V"⟩ ∈ UW := ut_p (List.mem_of_getElem? (i := 40) rfl) rfl
theorem u_p_41 : Cond.selects "CountTrianglesModel" ⟨"CountTrianglesModel", "timesInFalling", "(J)V"⟩ ⟨"CountTrianglesModel", "timesInFalling", "(J)V"⟩ ∈ UW := ut_p (List.mem_of_getElem? (i := 41) rfl) rfl
theorem u_p_42 : Cond.selects "CountTrianglesModel" ⟨"CountTrianglesModel", "timesIn", "(IJ)V"⟩ ⟨"CountTrianglesModel", "timesIn", "(IJ)V"⟩ ∈ UW := ut_p (List.mem_of_getElem? (i := 42) rfl) rfl
theorem u_p_43 : Cond.selects "CountTrianglesModel" ⟨"CountTrianglesModel", "valueAt", "(IJ)J"⟩ ⟨"CountTrianglesModel", "valueAt", "(IJ)J"⟩ ∈ UW := ut_p (List.mem_of_getElem? (i := 43) rfl) rfl
end
section
theorem dX0_init_0 : decode cX0_init 0 = .ok (.aload_n 0, 1) := by decide +kernel
theorem dX0_init_1 : decode cX0_init 1 = .ok (.invokespecial 3, 3) := by decide +kernel
theorem dX0_init_4 : decode cX0_init 4 = .ok (.aload_n 0, 1) := by decide +kernel
theorem dX0_init_5 : decode cX0_init 5 = .ok (.sipush 729, 3) := by decide +kernel
theorem dX0_init_8 : decode cX0_init 8 = .ok (.newarray .int, 2) := by decide +kernel
theorem dX0_init_10 : decode cX0_init 10 = .ok (.putfield 9, 3) := by decide +kernel
theorem dX0_init_13 : decode cX0_init 13 = .ok (.aload_n 0, 1) := by decide +kernel
theorem dX0_init_14 : decode cX0_init 14 = .ok (.getfield 9, 3) := by decide +kernel
theorem dX0_init_17 : decode cX0_init 17 = .ok (.iconst 0, 1) := by decide +kernel
theorem dX0_init_18 : decode cX0_init 18 = .ok (.iconst 1, 1) := by decide +kernel
theorem dX0_init_19 : decode cX0_init 19 = .ok (.iastore, 1) := by decide +kernel
theorem dX0_init_20 : decode cX0_init 20 = .ok (.iconst 1, 1) := by decide +kernel
theorem dX0_init_21 : decode cX0_init 21 = .ok (.istore_n 1, 1) := by decide +kernel
theorem dX0_init_22 : decode cX0_init 22 = .ok (.iload_n 1, 1) := by decide +kernel
theorem dX0_init_23 : decode cX0_init 23 = .ok (.bipush 9, 2) := by decide +kernel
theorem dX0_init_25 : decode cX0_init 25 = .ok (.if_icmp .ge 59, 3) := by decide +kernel
theorem dX0_init_28 : decode cX0_init 28 = .ok (.iconst 0, 1) := by decide +kernel
theorem dX0_init_29 : decode cX0_init 29 = .ok (.istore_n 2, 1) := by decide +kernel
theorem dX0_init_30 : decode cX0_init 30 = .ok (.iload_n 2, 1) := by decide +kernel
theorem dX0_init_31 : decode cX0_init 31 = .ok (.iload_n 1, 1) := by decide +kernel
theorem dX0_init_32 : decode cX0_init 32 = .ok (.if_icmp .gt 46, 3) := by decide +kernel
theorem dX0_init_35 : decode cX0_init 35 = .ok (.iconst 0, 1) := by decide +kernel
theorem dX0_init_36 : decode cX0_init 36 = .ok (.istore_n 3, 1) := by decide +kernel
theorem dX0_init_37 : decode cX0_init 37 = .ok (.iload_n 3, 1) := by decide +kernel
theorem dX0_init_38 : decode cX0_init 38 = .ok (.bipush 9, 2) := by decide +kernel
theorem dX0_init_40 : decode cX0_init 40 = .ok (.if_icmp .ge 32, 3) := by decide +kernel
theorem dX0_init_43 : decode cX0_init 43 = .ok (.aload_n 0, 1) := by decide +kernel
theorem dX0_init_44 : decode cX0_init 44 = .ok (.getfield 9, 3) := by decide +kernel
theorem dX0_init_47 : decode cX0_init 47 = .ok (.iload_n 1, 1) := by decide +kernel
theorem dX0_init_48 : decode cX0_init 48 = .ok (.bipush 9, 2) := by decide +kernel
theorem dX0_init_50 : decode cX0_init 50 = .ok (.imul, 1) := by decide +kernel
theorem dX0_init_51 : decode cX0_init 51 = .ok (.iload_n 2, 1) := by decide +kernel
theorem dX0_init_52 : decode cX0_init 52 = .ok (.iadd, 1) := by decide +kernel
theorem dX0_init_53 : decode cX0_init 53 = .ok (.bipush 9, 2) := by decide +kernel
theorem dX0_init_55 : decode cX0_init 55 = .ok (.imul, 1) := by decide +kernel
theorem dX0_init_56 : decode cX0_init 56 = .ok (.iload_n 3, 1) := by decide +kernel
theorem dX0_init_57 : decode cX0_init 57 = .ok (.iadd, 1) := by decide +kernel
theorem dX0_init_58 : decode cX0_init 58 = .ok (.aload_n 0, 1) := by decide +kernel
theorem dX0_init_59 : decode cX0_init 59 = .ok (.iload_n 2, 1) := by decide +kernel
theorem dX0_init_60 : decode cX0_init 60 = .ok (.iload_n 1, 1) := by decide +kernel
theorem dX0_init_61 : decode cX0_init 61 = .ok (.iload_n 3, 1) := by decide +kernel
theorem dX0_init_62 : decode cX0_init 62 = .ok (.invokevirtual 15, 3) := by decide +kernel
theorem dX0_init_65 : decode cX0_init 65 = .ok (.iastore, 1) := by decide +kernel
theorem dX0_init_66 : decode cX0_init 66 = .ok (.iinc 3 1, 3) := by decide +kernel
theorem dX0_init_69 : decode cX0_init 69 = .ok (.goto (-32), 3) := by decide +kernel
theorem dX0_init_72 : decode cX0_init 72 = .ok (.iinc 2 1, 3) := by decide +kernel
theorem dX0_init_75 : decode cX0_init 75 = .ok (.goto (-45), 3) := by decide +kernel
theorem dX0_init_78 : decode cX0_init 78 = .ok (.iinc 1 1, 3) := by decide +kernel
theorem dX0_init_81 : decode cX0_init 81 = .ok (.goto (-59), 3) := by decide +kernel
theorem dX0_init_84 : decode cX0_init 84 = .ok (.return_, 1) := by decide +kernel
theorem dX0_waysByNext_0 : decode cX0_waysByNext 0 = .ok (.iconst 0, 1) := by decide +kernel
theorem dX0_waysByNext_1 : decode cX0_waysByNext 1 = .ok (.istore 4, 2) := by decide +kernel
theorem dX0_waysByNext_3 : decode cX0_waysByNext 3 = .ok (.iconst 0, 1) := by decide +kernel
theorem dX0_waysByNext_4 : decode cX0_waysByNext 4 = .ok (.istore 5, 2) := by decide +kernel
theorem dX0_waysByNext_6 : decode cX0_waysByNext 6 = .ok (.iload 5, 2) := by decide +kernel
theorem dX0_waysByNext_8 : decode cX0_waysByNext 8 = .ok (.iload_n 2, 1) := by decide +kernel
theorem dX0_waysByNext_9 : decode cX0_waysByNext 9 = .ok (.if_icmp .ge 36, 3) := by decide +kernel
theorem dX0_waysByNext_12 : decode cX0_waysByNext 12 = .ok (.iload 4, 2) := by decide +kernel
theorem dX0_waysByNext_14 : decode cX0_waysByNext 14 = .ok (.aload_n 0, 1) := by decide +kernel
theorem dX0_waysByNext_15 : decode cX0_waysByNext 15 = .ok (.iload 5, 2) := by decide +kernel
theorem dX0_waysByNext_17 : decode cX0_waysByNext 17 = .ok (.iload_n 2, 1) := by decide +kernel
theorem dX0_waysByNext_18 : decode cX0_waysByNext 18 = .ok (.iconst 1, 1) := by decide +kernel
theorem dX0_waysByNext_19 : decode cX0_waysByNext 19 = .ok (.isub, 1) := by decide +kernel
theorem dX0_waysByNext_20 : decode cX0_waysByNext 20 = .ok (.iload 5, 2) := by decide +kernel
theorem dX0_waysByNext_22 : decode cX0_waysByNext 22 = .ok (.iload_n 1, 1) := by decide +kernel
theorem dX0_waysByNext_23 : decode cX0_waysByNext 23 = .ok (.if_icmp .ge 9, 3) := by decide +kernel
theorem dX0_waysByNext_26 : decode cX0_waysByNext 26 = .ok (.iload_n 3, 1) := by decide +kernel
theorem dX0_waysByNext_27 : decode cX0_waysByNext 27 = .ok (.iconst 1, 1) := by decide +kernel
theorem dX0_waysByNext_28 : decode cX0_waysByNext 28 = .ok (.isub, 1) := by decide +kernel
theorem dX0_waysByNext_29 : decode cX0_waysByNext 29 = .ok (.goto 4, 3) := by decide +kernel
theorem dX0_waysByNext_32 : decode cX0_waysByNext 32 = .ok (.iload_n 3, 1) := by decide +kernel
theorem dX0_waysByNext_33 : decode cX0_waysByNext 33 = .ok (.invokevirtual 19, 3) := by decide +kernel
theorem dX0_waysByNext_36 : decode cX0_waysByNext 36 = .ok (.iadd, 1) := by decide +kernel
theorem dX0_waysByNext_37 : decode cX0_waysByNext 37 = .ok (.istore 4, 2) := by decide +kernel
theorem dX0_waysByNext_39 : decode cX0_waysByNext 39 = .ok (.iinc 5 1, 3) := by decide +kernel
theorem dX0_waysByNext_42 : decode cX0_waysByNext 42 = .ok (.goto (-36), 3) := by decide +kernel
theorem dX0_waysByNext_45 : decode cX0_waysByNext 45 = .ok (.iload 4, 2) := by decide +kernel
theorem dX0_waysByNext_47 : decode cX0_waysByNext 47 = .ok (.ireturn, 1) := by decide +kernel
theorem dX0_start_0 : decode cX0_start 0 = .ok (.iconst 0, 1) := by decide +kernel
theorem dX0_start_1 : decode cX0_start 1 = .ok (.ireturn, 1) := by decide +kernel
theorem dX0_growth_0 : decode cX0_growth 0 = .ok (.iload_n 3, 1) := by decide +kernel
theorem dX0_growth_1 : decode cX0_growth 1 = .ok (.iload_n 1, 1) := by decide +kernel
theorem dX0_growth_2 : decode cX0_growth 2 = .ok (.if_icmp .ge 7, 3) := by decide +kernel
theorem dX0_growth_5 : decode cX0_growth 5 = .ok (.iconst 1, 1) := by decide +kernel
theorem dX0_growth_6 : decode cX0_growth 6 = .ok (.goto 4, 3) := by decide +kernel
theorem dX0_growth_9 : decode cX0_growth 9 = .ok (.iconst 0, 1) := by decide +kernel
theorem dX0_growth_10 : decode cX0_growth 10 = .ok (.ireturn, 1) := by decide +kernel
theorem dX0_next_0 : decode cX0_next 0 = .ok (.iload_n 3, 1) := by decide +kernel
theorem dX0_next_1 : decode cX0_next 1 = .ok (.ireturn, 1) := by decide +kernel
theorem dX0_ways_0 : decode cX0_ways 0 = .ok (.iload_n 2, 1) := by decide +kernel
theorem dX0_ways_1 : decode cX0_ways 1 = .ok (.iconst 0, 1) := by decide +kernel
theorem dX0_ways_2 : decode cX0_ways 2 = .ok (.bipush 8, 2) := by decide +kernel
theorem dX0_ways_4 : decode cX0_ways 4 = .ok (.invokestatic 22, 3) := by decide +kernel
theorem dX0_ways_7 : decode cX0_ways 7 = .ok (.ifCond .eq 22, 3) := by decide +kernel
theorem dX0_ways_10 : decode cX0_ways 10 = .ok (.iload_n 1, 1) := by decide +kernel
theorem dX0_ways_11 : decode cX0_ways 11 = .ok (.iconst 0, 1) := by decide +kernel
theorem dX0_ways_12 : decode cX0_ways 12 = .ok (.iload_n 2, 1) := by decide +kernel
theorem dX0_ways_13 : decode cX0_ways 13 = .ok (.invokestatic 22, 3) := by decide +kernel
theorem dX0_ways_16 : decode cX0_ways 16 = .ok (.ifCond .eq 13, 3) := by decide +kernel
theorem dX0_ways_19 : decode cX0_ways 19 = .ok (.iload_n 3, 1) := by decide +kernel
theorem dX0_ways_20 : decode cX0_ways 20 = .ok (.iconst 0, 1) := by decide +kernel
theorem dX0_ways_21 : decode cX0_ways 21 = .ok (.bipush 8, 2) := by decide +kernel
theorem dX0_ways_23 : decode cX0_ways 23 = .ok (.invokestatic 22, 3) := by decide +kernel
theorem dX0_ways_26 : decode cX0_ways 26 = .ok (.ifCond .ne 5, 3) := by decide +kernel
theorem dX0_ways_29 : decode cX0_ways 29 = .ok (.iconst 0, 1) := by decide +kernel
theorem dX0_ways_30 : decode cX0_ways 30 = .ok (.ireturn, 1) := by decide +kernel
theorem dX0_ways_31 : decode cX0_ways 31 = .ok (.aload_n 0, 1) := by decide +kernel
theorem dX0_ways_32 : decode cX0_ways 32 = .ok (.getfield 9, 3) := by decide +kernel
theorem dX0_ways_35 : decode cX0_ways 35 = .ok (.iload_n 2, 1) := by decide +kernel
theorem dX0_ways_36 : decode cX0_ways 36 = .ok (.bipush 9, 2) := by decide +kernel
theorem dX0_ways_38 : decode cX0_ways 38 = .ok (.imul, 1) := by decide +kernel
theorem dX0_ways_39 : decode cX0_ways 39 = .ok (.iload_n 1, 1) := by decide +kernel
theorem dX0_ways_40 : decode cX0_ways 40 = .ok (.iadd, 1) := by decide +kernel
theorem dX0_ways_41 : decode cX0_ways 41 = .ok (.bipush 9, 2) := by decide +kernel
theorem dX0_ways_43 : decode cX0_ways 43 = .ok (.imul, 1) := by decide +kernel
theorem dX0_ways_44 : decode cX0_ways 44 = .ok (.iload_n 3, 1) := by decide +kernel
theorem dX0_ways_45 : decode cX0_ways 45 = .ok (.iadd, 1) := by decide +kernel
theorem dX0_ways_46 : decode cX0_ways 46 = .ok (.iaload, 1) := by decide +kernel
theorem dX0_ways_47 : decode cX0_ways 47 = .ok (.ireturn, 1) := by decide +kernel
theorem dX1_init_0 : decode cX1_init 0 = .ok (.aload_n 0, 1) := by decide +kernel
theorem dX1_init_1 : decode cX1_init 1 = .ok (.invokespecial 3, 3) := by decide +kernel
theorem dX1_init_4 : decode cX1_init 4 = .ok (.aload_n 0, 1) := by decide +kernel
theorem dX1_init_5 : decode cX1_init 5 = .ok (.aload_n 1, 1) := by decide +kernel
theorem dX1_init_6 : decode cX1_init 6 = .ok (.putfield 9, 3) := by decide +kernel
theorem dX1_init_9 : decode cX1_init 9 = .ok (.return_, 1) := by decide +kernel
theorem dX1_start_0 : decode cX1_start 0 = .ok (.iload_n 1, 1) := by decide +kernel
theorem dX1_start_1 : decode cX1_start 1 = .ok (.ireturn, 1) := by decide +kernel
theorem dX1_growth_0 : decode cX1_growth 0 = .ok (.iload_n 3, 1) := by decide +kernel
theorem dX1_growth_1 : decode cX1_growth 1 = .ok (.iload_n 2, 1) := by decide +kernel
theorem dX1_growth_2 : decode cX1_growth 2 = .ok (.iload_n 1, 1) := by decide +kernel
theorem dX1_growth_3 : decode cX1_growth 3 = .ok (.isub, 1) := by decide +kernel
theorem dX1_growth_4 : decode cX1_growth 4 = .ok (.if_icmp .lt 7, 3) := by decide +kernel
theorem dX1_growth_7 : decode cX1_growth 7 = .ok (.iconst 1, 1) := by decide +kernel
theorem dX1_growth_8 : decode cX1_growth 8 = .ok (.goto 4, 3) := by decide +kernel
theorem dX1_growth_11 : decode cX1_growth 11 = .ok (.iconst 0, 1) := by decide +kernel
theorem dX1_growth_12 : decode cX1_growth 12 = .ok (.ireturn, 1) := by decide +kernel
theorem dX1_next_0 : decode cX1_next 0 = .ok (.iload_n 1, 1) := by decide +kernel
theorem dX1_next_1 : decode cX1_next 1 = .ok (.iload_n 2, 1) := by decide +kernel
theorem dX1_next_2 : decode cX1_next 2 = .ok (.iconst 1, 1) := by decide +kernel
theorem dX1_next_3 : decode cX1_next 3 = .ok (.isub, 1) := by decide +kernel
theorem dX1_next_4 : decode cX1_next 4 = .ok (.iload_n 3, 1) := by decide +kernel
theorem dX1_next_5 : decode cX1_next 5 = .ok (.isub, 1) := by decide +kernel
theorem dX1_next_6 : decode cX1_next 6 = .ok (.invokestatic 15, 3) := by decide +kernel
theorem dX1_next_9 : decode cX1_next 9 = .ok (.ireturn, 1) := by decide +kernel
theorem dX1_ways_0 : decode cX1_ways 0 = .ok (.iload_n 2, 1) := by decide +kernel
theorem dX1_ways_1 : decode cX1_ways 1 = .ok (.iconst 0, 1) := by decide +kernel
theorem dX1_ways_2 : decode cX1_ways 2 = .ok (.bipush 8, 2) := by decide +kernel
theorem dX1_ways_4 : decode cX1_ways 4 = .ok (.invokestatic 21, 3) := by decide +kernel
theorem dX1_ways_7 : decode cX1_ways 7 = .ok (.ifCond .eq 12, 3) := by decide +kernel
theorem dX1_ways_10 : decode cX1_ways 10 = .ok (.iload_n 1, 1) := by decide +kernel
theorem dX1_ways_11 : decode cX1_ways 11 = .ok (.iconst 0, 1) := by decide +kernel
theorem dX1_ways_12 : decode cX1_ways 12 = .ok (.iload_n 2, 1) := by decide +kernel
theorem dX1_ways_13 : decode cX1_ways 13 = .ok (.invokestatic 21, 3) := by decide +kernel
theorem dX1_ways_16 : decode cX1_ways 16 = .ok (.ifCond .ne 5, 3) := by decide +kernel
theorem dX1_ways_19 : decode cX1_ways 19 = .ok (.iconst 0, 1) := by decide +kernel
theorem dX1_ways_20 : decode cX1_ways 20 = .ok (.ireturn, 1) := by decide +kernel
theorem dX1_ways_21 : decode cX1_ways 21 = .ok (.getstatic 25, 3) := by decide +kernel
theorem dX1_ways_24 : decode cX1_ways 24 = .ok (.iload_n 2, 1) := by decide +kernel
theorem dX1_ways_25 : decode cX1_ways 25 = .ok (.iaload, 1) := by decide +kernel
theorem dX1_ways_26 : decode cX1_ways 26 = .ok (.getstatic 25, 3) := by decide +kernel
theorem dX1_ways_29 : decode cX1_ways 29 = .ok (.iload_n 1, 1) := by decide +kernel
theorem dX1_ways_30 : decode cX1_ways 30 = .ok (.iaload, 1) := by decide +kernel
theorem dX1_ways_31 : decode cX1_ways 31 = .ok (.idiv, 1) := by decide +kernel
theorem dX1_ways_32 : decode cX1_ways 32 = .ok (.aload_n 0, 1) := by decide +kernel
theorem dX1_ways_33 : decode cX1_ways 33 = .ok (.getfield 9, 3) := by decide +kernel
theorem dX1_ways_36 : decode cX1_ways 36 = .ok (.iconst 0, 1) := by decide +kernel
theorem dX1_ways_37 : decode cX1_ways 37 = .ok (.iload_n 1, 1) := by decide +kernel
theorem dX1_ways_38 : decode cX1_ways 38 = .ok (.iload_n 3, 1) := by decide +kernel
theorem dX1_ways_39 : decode cX1_ways 39 = .ok (.invokevirtual 29, 3) := by decide +kernel
theorem dX1_ways_42 : decode cX1_ways 42 = .ok (.imul, 1) := by decide +kernel
theorem dX1_ways_43 : decode cX1_ways 43 = .ok (.ireturn, 1) := by decide +kernel
theorem dX2_init_0 : decode cX2_init 0 = .ok (.aload_n 0, 1) := by decide +kernel
theorem dX2_init_1 : decode cX2_init 1 = .ok (.invokespecial 5, 3) := by decide +kernel
theorem dX2_init_4 : decode cX2_init 4 = .ok (.aload_n 0, 1) := by decide +kernel
theorem dX2_init_5 : decode cX2_init 5 = .ok (.iconst 3, 1) := by decide +kernel
theorem dX2_init_6 : decode cX2_init 6 = .ok (.newarray .int, 2) := by decide +kernel
theorem dX2_init_8 : decode cX2_init 8 = .ok (.putfield 11, 3) := by decide +kernel
theorem dX2_init_11 : decode cX2_init 11 = .ok (.aload_n 0, 1) := by decide +kernel
theorem dX2_init_12 : decode cX2_init 12 = .ok (.iconst 3, 1) := by decide +kernel
theorem dX2_init_13 : decode cX2_init 13 = .ok (.newarray .int, 2) := by decide +kernel
theorem dX2_init_15 : decode cX2_init 15 = .ok (.putfield 17, 3) := by decide +kernel
theorem dX2_init_18 : decode cX2_init 18 = .ok (.aload_n 0, 1) := by decide +kernel
theorem dX2_init_19 : decode cX2_init 19 = .ok (.sipush 325, 3) := by decide +kernel
theorem dX2_init_22 : decode cX2_init 22 = .ok (.newarray .long, 2) := by decide +kernel
theorem dX2_init_24 : decode cX2_init 24 = .ok (.putfield 20, 3) := by decide +kernel
theorem dX2_init_27 : decode cX2_init 27 = .ok (.aload_n 0, 1) := by decide +kernel
theorem dX2_init_28 : decode cX2_init 28 = .ok (.bipush 25, 2) := by decide +kernel
theorem dX2_init_30 : decode cX2_init 30 = .ok (.newarray .long, 2) := by decide +kernel
theorem dX2_init_32 : decode cX2_init 32 = .ok (.putfield 24, 3) := by decide +kernel
theorem dX2_init_35 : decode cX2_init 35 = .ok (.aload_n 0, 1) := by decide +kernel
theorem dX2_init_36 : decode cX2_init 36 = .ok (.bipush 61, 2) := by decide +kernel
theorem dX2_init_38 : decode cX2_init 38 = .ok (.newarray .int, 2) := by decide +kernel
theorem dX2_init_40 : decode cX2_init 40 = .ok (.putfield 27, 3) := by decide +kernel
theorem dX2_init_43 : decode cX2_init 43 = .ok (.aload_n 0, 1) := by decide +kernel
theorem dX2_init_44 : decode cX2_init 44 = .ok (.iconst 1, 1) := by decide +kernel
theorem dX2_init_45 : decode cX2_init 45 = .ok (.putfield 30, 3) := by decide +kernel
theorem dX2_init_48 : decode cX2_init 48 = .ok (.aload_n 0, 1) := by decide +kernel
theorem dX2_init_49 : decode cX2_init 49 = .ok (.iconst 0, 1) := by decide +kernel
theorem dX2_init_50 : decode cX2_init 50 = .ok (.putfield 34, 3) := by decide +kernel
theorem dX2_init_53 : decode cX2_init 53 = .ok (.aload_n 0, 1) := by decide +kernel
theorem dX2_init_54 : decode cX2_init 54 = .ok (.getfield 20, 3) := by decide +kernel
theorem dX2_init_57 : decode cX2_init 57 = .ok (.iconst 0, 1) := by decide +kernel
theorem dX2_init_58 : decode cX2_init 58 = .ok (.aload_n 0, 1) := by decide +kernel
theorem dX2_init_59 : decode cX2_init 59 = .ok (.getfield 30, 3) := by decide +kernel
theorem dX2_init_62 : decode cX2_init 62 = .ok (.i2l, 1) := by decide +kernel
theorem dX2_init_63 : decode cX2_init 63 = .ok (.lastore, 1) := by decide +kernel
theorem dX2_init_64 : decode cX2_init 64 = .ok (.return_, 1) := by decide +kernel
theorem dX2_items_0 : decode cX2_items 0 = .ok (.aload_n 0, 1) := by decide +kernel
theorem dX2_items_1 : decode cX2_items 1 = .ok (.getfield 34, 3) := by decide +kernel
theorem dX2_items_4 : decode cX2_items 4 = .ok (.ireturn, 1) := by decide +kernel
theorem dX2_layFrom_0 : decode cX2_layFrom 0 = .ok (.aload_n 0, 1) := by decide +kernel
theorem dX2_layFrom_1 : decode cX2_layFrom 1 = .ok (.getfield 11, 3) := by decide +kernel
theorem dX2_layFrom_4 : decode cX2_layFrom 4 = .ok (.iconst 0, 1) := by decide +kernel
theorem dX2_layFrom_5 : decode cX2_layFrom 5 = .ok (.invokestatic 37, 3) := by decide +kernel
theorem dX2_layFrom_8 : decode cX2_layFrom 8 = .ok (.aload_n 0, 1) := by decide +kernel
theorem dX2_layFrom_9 : decode cX2_layFrom 9 = .ok (.getfield 17, 3) := by decide +kernel
theorem dX2_layFrom_12 : decode cX2_layFrom 12 = .ok (.iconst 0, 1) := by decide +kernel
theorem dX2_layFrom_13 : decode cX2_layFrom 13 = .ok (.invokestatic 37, 3) := by decide +kernel
theorem dX2_layFrom_16 : decode cX2_layFrom 16 = .ok (.aload_n 0, 1) := by decide +kernel
theorem dX2_layFrom_17 : decode cX2_layFrom 17 = .ok (.iconst 1, 1) := by decide +kernel
theorem dX2_layFrom_18 : decode cX2_layFrom 18 = .ok (.putfield 30, 3) := by decide +kernel
theorem dX2_layFrom_21 : decode cX2_layFrom 21 = .ok (.aload_n 0, 1) := by decide +kernel
theorem dX2_layFrom_22 : decode cX2_layFrom 22 = .ok (.iconst 0, 1) := by decide +kernel
theorem dX2_layFrom_23 : decode cX2_layFrom 23 = .ok (.putfield 34, 3) := by decide +kernel
theorem dX2_layFrom_26 : decode cX2_layFrom 26 = .ok (.iconst 0, 1) := by decide +kernel
theorem dX2_layFrom_27 : decode cX2_layFrom 27 = .ok (.istore_n 2, 1) := by decide +kernel
theorem dX2_layFrom_28 : decode cX2_layFrom 28 = .ok (.iconst 0, 1) := by decide +kernel
theorem dX2_layFrom_29 : decode cX2_layFrom 29 = .ok (.istore_n 3, 1) := by decide +kernel
theorem dX2_layFrom_30 : decode cX2_layFrom 30 = .ok (.iload_n 3, 1) := by decide +kernel
theorem dX2_layFrom_31 : decode cX2_layFrom 31 = .ok (.bipush 120, 2) := by decide +kernel
theorem dX2_layFrom_33 : decode cX2_layFrom 33 = .ok (.if_icmp .ge 52, 3) := by decide +kernel
theorem dX2_layFrom_36 : decode cX2_layFrom 36 = .ok (.iload_n 2, 1) := by decide +kernel
theorem dX2_layFrom_37 : decode cX2_layFrom 37 = .ok (.aload_n 1, 1) := by decide +kernel
theorem dX2_layFrom_38 : decode cX2_layFrom 38 = .ok (.invokevirtual 45, 3) := by decide +kernel
theorem dX2_layFrom_41 : decode cX2_layFrom 41 = .ok (.if_icmp .ge 44, 3) := by decide +kernel
theorem dX2_layFrom_44 : decode cX2_layFrom 44 = .ok (.aload_n 1, 1) := by decide +kernel
theorem dX2_layFrom_45 : decode cX2_layFrom 45 = .ok (.iload_n 2, 1) := by decide +kernel
theorem dX2_layFrom_46 : decode cX2_layFrom 46 = .ok (.invokevirtual 49, 3) := by decide +kernel
theorem dX2_layFrom_49 : decode cX2_layFrom 49 = .ok (.istore 4, 2) := by decide +kernel
theorem dX2_layFrom_51 : decode cX2_layFrom 51 = .ok (.iload 4, 2) := by decide +kernel
theorem dX2_layFrom_53 : decode cX2_layFrom 53 = .ok (.iconst (-1), 1) := by decide +kernel
theorem dX2_layFrom_54 : decode cX2_layFrom 54 = .ok (.if_icmp .ne 6, 3) := by decide +kernel
theorem dX2_layFrom_57 : decode cX2_layFrom 57 = .ok (.goto 28, 3) := by decide +kernel
theorem dX2_layFrom_60 : decode cX2_layFrom 60 = .ok (.aload_n 0, 1) := by decide +kernel
theorem dX2_layFrom_61 : decode cX2_layFrom 61 = .ok (.aload_n 1, 1) := by decide +kernel
theorem dX2_layFrom_62 : decode cX2_layFrom 62 = .ok (.iload_n 2, 1) := by decide +kernel
theorem dX2_layFrom_63 : decode cX2_layFrom 63 = .ok (.invokevirtual 53, 3) := by decide +kernel
theorem dX2_layFrom_66 : decode cX2_layFrom 66 = .ok (.aload_n 0, 1) := by decide +kernel
theorem dX2_layFrom_67 : decode cX2_layFrom 67 = .ok (.dup, 1) := by decide +kernel
theorem dX2_layFrom_68 : decode cX2_layFrom 68 = .ok (.getfield 34, 3) := by decide +kernel
theorem dX2_layFrom_71 : decode cX2_layFrom 71 = .ok (.iconst 1, 1) := by decide +kernel
theorem dX2_layFrom_72 : decode cX2_layFrom 72 = .ok (.iadd, 1) := by decide +kernel
theorem dX2_layFrom_73 : decode cX2_layFrom 73 = .ok (.putfield 34, 3) := by decide +kernel
theorem dX2_layFrom_76 : decode cX2_layFrom 76 = .ok (.iload 4, 2) := by decide +kernel
theorem dX2_layFrom_78 : decode cX2_layFrom 78 = .ok (.istore_n 2, 1) := by decide +kernel
theorem dX2_layFrom_79 : decode cX2_layFrom 79 = .ok (.iinc 3 1, 3) := by decide +kernel
theorem dX2_layFrom_82 : decode cX2_layFrom 82 = .ok (.goto (-52), 3) := by decide +kernel
theorem dX2_layFrom_85 : decode cX2_layFrom 85 = .ok (.aload_n 0, 1) := by decide +kernel
theorem dX2_layFrom_86 : decode cX2_layFrom 86 = .ok (.invokevirtual 57, 3) := by decide +kernel
theorem dX2_layFrom_89 : decode cX2_layFrom 89 = .ok (.return_, 1) := by decide +kernel
theorem dX2_takeItem_0 : decode cX2_takeItem 0 = .ok (.aload_n 1, 1) := by decide +kernel
theorem dX2_takeItem_1 : decode cX2_takeItem 1 = .ok (.iload_n 2, 1) := by decide +kernel
theorem dX2_takeItem_2 : decode cX2_takeItem 2 = .ok (.invokevirtual 60, 3) := by decide +kernel
theorem dX2_takeItem_5 : decode cX2_takeItem 5 = .ok (.istore_n 3, 1) := by decide +kernel
theorem dX2_takeItem_6 : decode cX2_takeItem 6 = .ok (.iload_n 3, 1) := by decide +kernel
theorem dX2_takeItem_7 : decode cX2_takeItem 7 = .ok (.bipush 115, 2) := by decide +kernel
theorem dX2_takeItem_9 : decode cX2_takeItem 9 = .ok (.if_icmp .ne 15, 3) := by decide +kernel
theorem dX2_takeItem_12 : decode cX2_takeItem 12 = .ok (.aload_n 0, 1) := by decide +kernel
theorem dX2_takeItem_13 : decode cX2_takeItem 13 = .ok (.aload_n 1, 1) := by decide +kernel
theorem dX2_takeItem_14 : decode cX2_takeItem 14 = .ok (.iload_n 2, 1) := by decide +kernel
theorem dX2_takeItem_15 : decode cX2_takeItem 15 = .ok (.iconst 1, 1) := by decide +kernel
theorem dX2_takeItem_16 : decode cX2_takeItem 16 = .ok (.iadd, 1) := by decide +kernel
theorem dX2_takeItem_17 : decode cX2_takeItem 17 = .ok (.invokevirtual 63, 3) := by decide +kernel
theorem dX2_takeItem_20 : decode cX2_takeItem 20 = .ok (.putfield 30, 3) := by decide +kernel
theorem dX2_takeItem_23 : decode cX2_takeItem 23 = .ok (.return_, 1) := by decide +kernel
theorem dX2_takeItem_24 : decode cX2_takeItem 24 = .ok (.iload_n 3, 1) := by decide +kernel
theorem dX2_takeItem_25 : decode cX2_takeItem 25 = .ok (.bipush 97, 2) := by decide +kernel
theorem dX2_takeItem_27 : decode cX2_takeItem 27 = .ok (.if_icmp .ne 10, 3) := by decide +kernel
theorem dX2_takeItem_30 : decode cX2_takeItem 30 = .ok (.aload_n 0, 1) := by decide +kernel
theorem dX2_takeItem_31 : decode cX2_takeItem 31 = .ok (.getfield 11, 3) := by decide +kernel
theorem dX2_takeItem_34 : decode cX2_takeItem 34 = .ok (.goto 7, 3) := by decide +kernel
theorem dX2_takeItem_37 : decode cX2_takeItem 37 = .ok (.aload_n 0, 1) := by decide +kernel
theorem dX2_takeItem_38 : decode cX2_takeItem 38 = .ok (.getfield 17, 3) := by decide +kernel
theorem dX2_takeItem_41 : decode cX2_takeItem 41 = .ok (.astore 4, 2) := by decide +kernel
theorem dX2_takeItem_43 : decode cX2_takeItem 43 = .ok (.iload_n 2, 1) := by decide +kernel
theorem dX2_takeItem_44 : decode cX2_takeItem 44 = .ok (.iconst 1, 1) := by decide +kernel
theorem dX2_takeItem_45 : decode cX2_takeItem 45 = .ok (.iadd, 1) := by decide +kernel
theorem dX2_takeItem_46 : decode cX2_takeItem 46 = .ok (.istore 5, 2) := by decide +kernel
theorem dX2_takeItem_48 : decode cX2_takeItem 48 = .ok (.iconst 0, 1) := by decide +kernel
theorem dX2_takeItem_49 : decode cX2_takeItem 49 = .ok (.istore 6, 2) := by decide +kernel
theorem dX2_takeItem_51 : decode cX2_takeItem 51 = .ok (.iload 6, 2) := by decide +kernel
theorem dX2_takeItem_53 : decode cX2_takeItem 53 = .ok (.iconst 3, 1) := by decide +kernel
theorem dX2_takeItem_54 : decode cX2_takeItem 54 = .ok (.if_icmp .ge 28, 3) := by decide +kernel
theorem dX2_takeItem_57 : decode cX2_takeItem 57 = .ok (.aload 4, 2) := by decide +kernel
theorem dX2_takeItem_59 : decode cX2_takeItem 59 = .ok (.iload 6, 2) := by decide +kernel
theorem dX2_takeItem_61 : decode cX2_takeItem 61 = .ok (.aload_n 1, 1) := by decide +kernel
theorem dX2_takeItem_62 : decode cX2_takeItem 62 = .ok (.iload 5, 2) := by decide +kernel
theorem dX2_takeItem_64 : decode cX2_takeItem 64 = .ok (.invokevirtual 63, 3) := by decide +kernel
theorem dX2_takeItem_67 : decode cX2_takeItem 67 = .ok (.iastore, 1) := by decide +kernel
theorem dX2_takeItem_68 : decode cX2_takeItem 68 = .ok (.aload_n 1, 1) := by decide +kernel
theorem dX2_takeItem_69 : decode cX2_takeItem 69 = .ok (.iload 5, 2) := by decide +kernel
theorem dX2_takeItem_71 : decode cX2_takeItem 71 = .ok (.invokevirtual 66, 3) := by decide +kernel
theorem dX2_takeItem_74 : decode cX2_takeItem 74 = .ok (.istore 5, 2) := by decide +kernel
theorem dX2_takeItem_76 : decode cX2_takeItem 76 = .ok (.iinc 6 1, 3) := by decide +kernel
theorem dX2_takeItem_79 : decode cX2_takeItem 79 = .ok (.goto (-28), 3) := by decide +kernel
theorem dX2_takeItem_82 : decode cX2_takeItem 82 = .ok (.return_, 1) := by decide +kernel
theorem dX2_fillNumbers_0 : decode cX2_fillNumbers 0 = .ok (.aload_n 0, 1) := by decide +kernel
theorem dX2_fillNumbers_1 : decode cX2_fillNumbers 1 = .ok (.getfield 20, 3) := by decide +kernel
theorem dX2_fillNumbers_4 : decode cX2_fillNumbers 4 = .ok (.iconst 0, 1) := by decide +kernel
theorem dX2_fillNumbers_5 : decode cX2_fillNumbers 5 = .ok (.aload_n 0, 1) := by decide +kernel
theorem dX2_fillNumbers_6 : decode cX2_fillNumbers 6 = .ok (.getfield 30, 3) := by decide +kernel
theorem dX2_fillNumbers_9 : decode cX2_fillNumbers 9 = .ok (.i2l, 1) := by decide +kernel
theorem dX2_fillNumbers_10 : decode cX2_fillNumbers 10 = .ok (.lastore, 1) := by decide +kernel
theorem dX2_fillNumbers_11 : decode cX2_fillNumbers 11 = .ok (.iconst 1, 1) := by decide +kernel
theorem dX2_fillNumbers_12 : decode cX2_fillNumbers 12 = .ok (.istore_n 1, 1) := by decide +kernel
theorem dX2_fillNumbers_13 : decode cX2_fillNumbers 13 = .ok (.iconst 1, 1) := by decide +kernel
theorem dX2_fillNumbers_14 : decode cX2_fillNumbers 14 = .ok (.istore_n 2, 1) := by decide +kernel
theorem dX2_fillNumbers_15 : decode cX2_fillNumbers 15 = .ok (.iload_n 2, 1) := by decide +kernel
theorem dX2_fillNumbers_16 : decode cX2_fillNumbers 16 = .ok (.bipush 24, 2) := by decide +kernel
theorem dX2_fillNumbers_18 : decode cX2_fillNumbers 18 = .ok (.if_icmp .gt 46, 3) := by decide +kernel
theorem dX2_fillNumbers_21 : decode cX2_fillNumbers 21 = .ok (.iconst 0, 1) := by decide +kernel
theorem dX2_fillNumbers_22 : decode cX2_fillNumbers 22 = .ok (.istore_n 3, 1) := by decide +kernel
theorem dX2_fillNumbers_23 : decode cX2_fillNumbers 23 = .ok (.iload_n 3, 1) := by decide +kernel
theorem dX2_fillNumbers_24 : decode cX2_fillNumbers 24 = .ok (.iload_n 2, 1) := by decide +kernel
theorem dX2_fillNumbers_25 : decode cX2_fillNumbers 25 = .ok (.if_icmp .gt 33, 3) := by decide +kernel
theorem dX2_fillNumbers_28 : decode cX2_fillNumbers 28 = .ok (.iload_n 1, 1) := by decide +kernel
theorem dX2_fillNumbers_29 : decode cX2_fillNumbers 29 = .ok (.aload_n 0, 1) := by decide +kernel
theorem dX2_fillNumbers_30 : decode cX2_fillNumbers 30 = .ok (.getfield 20, 3) := by decide +kernel
theorem dX2_fillNumbers_33 : decode cX2_fillNumbers 33 = .ok (.arraylength, 1) := by decide +kernel
theorem dX2_fillNumbers_34 : decode cX2_fillNumbers 34 = .ok (.if_icmp .ge 24, 3) := by decide +kernel
theorem dX2_fillNumbers_37 : decode cX2_fillNumbers 37 = .ok (.aload_n 0, 1) := by decide +kernel
theorem dX2_fillNumbers_38 : decode cX2_fillNumbers 38 = .ok (.getfield 20, 3) := by decide +kernel
theorem dX2_fillNumbers_41 : decode cX2_fillNumbers 41 = .ok (.iload_n 1, 1) := by decide +kernel
theorem dX2_fillNumbers_42 : decode cX2_fillNumbers 42 = .ok (.aload_n 0, 1) := by decide +kernel
theorem dX2_fillNumbers_43 : decode cX2_fillNumbers 43 = .ok (.iload_n 2, 1) := by decide +kernel
theorem dX2_fillNumbers_44 : decode cX2_fillNumbers 44 = .ok (.iload_n 3, 1) := by decide +kernel
theorem dX2_fillNumbers_45 : decode cX2_fillNumbers 45 = .ok (.invokevirtual 69, 3) := by decide +kernel
theorem dX2_fillNumbers_48 : decode cX2_fillNumbers 48 = .ok (.lastore, 1) := by decide +kernel
theorem dX2_fillNumbers_49 : decode cX2_fillNumbers 49 = .ok (.iinc 1 1, 3) := by decide +kernel
theorem dX2_fillNumbers_52 : decode cX2_fillNumbers 52 = .ok (.iinc 3 1, 3) := by decide +kernel
theorem dX2_fillNumbers_55 : decode cX2_fillNumbers 55 = .ok (.goto (-32), 3) := by decide +kernel
theorem dX2_fillNumbers_58 : decode cX2_fillNumbers 58 = .ok (.iinc 2 1, 3) := by decide +kernel
theorem dX2_fillNumbers_61 : decode cX2_fillNumbers 61 = .ok (.goto (-46), 3) := by decide +kernel
theorem dX2_fillNumbers_64 : decode cX2_fillNumbers 64 = .ok (.return_, 1) := by decide +kernel
theorem dX2_madeOfAbove_0 : decode cX2_madeOfAbove 0 = .ok (.aload_n 0, 1) := by decide +kernel
theorem dX2_madeOfAbove_1 : decode cX2_madeOfAbove 1 = .ok (.getfield 11, 3) := by decide +kernel
theorem dX2_madeOfAbove_4 : decode cX2_madeOfAbove 4 = .ok (.iload_n 1, 1) := by decide +kernel
theorem dX2_madeOfAbove_5 : decode cX2_madeOfAbove 5 = .ok (.iload_n 2, 1) := by decide +kernel
theorem dX2_madeOfAbove_6 : decode cX2_madeOfAbove 6 = .ok (.invokestatic 73, 3) := by decide +kernel
theorem dX2_madeOfAbove_9 : decode cX2_madeOfAbove 9 = .ok (.aload_n 0, 1) := by decide +kernel
theorem dX2_madeOfAbove_10 : decode cX2_madeOfAbove 10 = .ok (.iload_n 1, 1) := by decide +kernel
theorem dX2_madeOfAbove_11 : decode cX2_madeOfAbove 11 = .ok (.iconst 1, 1) := by decide +kernel
theorem dX2_madeOfAbove_12 : decode cX2_madeOfAbove 12 = .ok (.isub, 1) := by decide +kernel
theorem dX2_madeOfAbove_13 : decode cX2_madeOfAbove 13 = .ok (.iload_n 2, 1) := by decide +kernel
theorem dX2_madeOfAbove_14 : decode cX2_madeOfAbove 14 = .ok (.iconst 1, 1) := by decide +kernel
theorem dX2_madeOfAbove_15 : decode cX2_madeOfAbove 15 = .ok (.isub, 1) := by decide +kernel
theorem dX2_madeOfAbove_16 : decode cX2_madeOfAbove 16 = .ok (.invokevirtual 77, 3) := by decide +kernel
theorem dX2_madeOfAbove_19 : decode cX2_madeOfAbove 19 = .ok (.invokestatic 80, 3) := by decide +kernel
theorem dX2_madeOfAbove_22 : decode cX2_madeOfAbove 22 = .ok (.lstore_n 3, 1) := by decide +kernel
theorem dX2_madeOfAbove_23 : decode cX2_madeOfAbove 23 = .ok (.aload_n 0, 1) := by decide +kernel
theorem dX2_madeOfAbove_24 : decode cX2_madeOfAbove 24 = .ok (.getfield 17, 3) := by decide +kernel
theorem dX2_madeOfAbove_27 : decode cX2_madeOfAbove 27 = .ok (.iload_n 1, 1) := by decide +kernel
theorem dX2_madeOfAbove_28 : decode cX2_madeOfAbove 28 = .ok (.iload_n 2, 1) := by decide +kernel
theorem dX2_madeOfAbove_29 : decode cX2_madeOfAbove 29 = .ok (.invokestatic 73, 3) := by decide +kernel
theorem dX2_madeOfAbove_32 : decode cX2_madeOfAbove 32 = .ok (.aload_n 0, 1) := by decide +kernel
theorem dX2_madeOfAbove_33 : decode cX2_madeOfAbove 33 = .ok (.iload_n 1, 1) := by decide +kernel
theorem dX2_madeOfAbove_34 : decode cX2_madeOfAbove 34 = .ok (.iconst 1, 1) := by decide +kernel
theorem dX2_madeOfAbove_35 : decode cX2_madeOfAbove 35 = .ok (.isub, 1) := by decide +kernel
theorem dX2_madeOfAbove_36 : decode cX2_madeOfAbove 36 = .ok (.iload_n 2, 1) := by decide +kernel
theorem dX2_madeOfAbove_37 : decode cX2_madeOfAbove 37 = .ok (.invokevirtual 77, 3) := by decide +kernel
theorem dX2_madeOfAbove_40 : decode cX2_madeOfAbove 40 = .ok (.invokestatic 80, 3) := by decide +kernel
theorem dX2_madeOfAbove_43 : decode cX2_madeOfAbove 43 = .ok (.lstore 5, 2) := by decide +kernel
theorem dX2_madeOfAbove_45 : decode cX2_madeOfAbove 45 = .ok (.lload_n 3, 1) := by decide +kernel
theorem dX2_madeOfAbove_46 : decode cX2_madeOfAbove 46 = .ok (.ldc2_w 84, 3) := by decide +kernel
theorem dX2_madeOfAbove_49 : decode cX2_madeOfAbove 49 = .ok (.lcmp, 1) := by decide +kernel
theorem dX2_madeOfAbove_50 : decode cX2_madeOfAbove 50 = .ok (.ifCond .eq 12, 3) := by decide +kernel
theorem dX2_madeOfAbove_53 : decode cX2_madeOfAbove 53 = .ok (.lload 5, 2) := by decide +kernel
theorem dX2_madeOfAbove_55 : decode cX2_madeOfAbove 55 = .ok (.ldc2_w 84, 3) := by decide +kernel
theorem dX2_madeOfAbove_58 : decode cX2_madeOfAbove 58 = .ok (.lcmp, 1) := by decide +kernel
theorem dX2_madeOfAbove_59 : decode cX2_madeOfAbove 59 = .ok (.ifCond .ne 7, 3) := by decide +kernel
theorem dX2_madeOfAbove_62 : decode cX2_madeOfAbove 62 = .ok (.ldc2_w 84, 3) := by decide +kernel
theorem dX2_madeOfAbove_65 : decode cX2_madeOfAbove 65 = .ok (.lreturn, 1) := by decide +kernel
theorem dX2_madeOfAbove_66 : decode cX2_madeOfAbove 66 = .ok (.lload_n 3, 1) := by decide +kernel
theorem dX2_madeOfAbove_67 : decode cX2_madeOfAbove 67 = .ok (.lload 5, 2) := by decide +kernel
theorem dX2_madeOfAbove_69 : decode cX2_madeOfAbove 69 = .ok (.ladd, 1) := by decide +kernel
theorem dX2_madeOfAbove_70 : decode cX2_madeOfAbove 70 = .ok (.invokestatic 86, 3) := by decide +kernel
theorem dX2_madeOfAbove_73 : decode cX2_madeOfAbove 73 = .ok (.lreturn, 1) := by decide +kernel
theorem dX2_factor_0 : decode cX2_factor 0 = .ok (.aload_n 0, 1) := by decide +kernel
theorem dX2_factor_1 : decode cX2_factor 1 = .ok (.iconst 0, 1) := by decide +kernel
theorem dX2_factor_2 : decode cX2_factor 2 = .ok (.iaload, 1) := by decide +kernel
theorem dX2_factor_3 : decode cX2_factor 3 = .ok (.aload_n 0, 1) := by decide +kernel
theorem dX2_factor_4 : decode cX2_factor 4 = .ok (.iconst 1, 1) := by decide +kernel
theorem dX2_factor_5 : decode cX2_factor 5 = .ok (.iaload, 1) := by decide +kernel
theorem dX2_factor_6 : decode cX2_factor 6 = .ok (.iload_n 1, 1) := by decide +kernel
theorem dX2_factor_7 : decode cX2_factor 7 = .ok (.imul, 1) := by decide +kernel
theorem dX2_factor_8 : decode cX2_factor 8 = .ok (.iadd, 1) := by decide +kernel
theorem dX2_factor_9 : decode cX2_factor 9 = .ok (.aload_n 0, 1) := by decide +kernel
theorem dX2_factor_10 : decode cX2_factor 10 = .ok (.iconst 2, 1) := by decide +kernel
theorem dX2_factor_11 : decode cX2_factor 11 = .ok (.iaload, 1) := by decide +kernel
theorem dX2_factor_12 : decode cX2_factor 12 = .ok (.iload_n 2, 1) := by decide +kernel
theorem dX2_factor_13 : decode cX2_factor 13 = .ok (.imul, 1) := by decide +kernel
theorem dX2_factor_14 : decode cX2_factor 14 = .ok (.iadd, 1) := by decide +kernel
theorem dX2_factor_15 : decode cX2_factor 15 = .ok (.ireturn, 1) := by decide +kernel
theorem dX2_part_0 : decode cX2_part 0 = .ok (.iload_n 0, 1) := by decide +kernel
theorem dX2_part_1 : decode cX2_part 1 = .ok (.ifCond .ne 7, 3) := by decide +kernel
theorem dX2_part_4 : decode cX2_part 4 = .ok (.lconst 0, 1) := by decide +kernel
theorem dX2_part_5 : decode cX2_part 5 = .ok (.goto 9, 3) := by decide +kernel
theorem dX2_part_8 : decode cX2_part 8 = .ok (.iload_n 0, 1) := by decide +kernel
theorem dX2_part_9 : decode cX2_part 9 = .ok (.i2l, 1) := by decide +kernel
theorem dX2_part_10 : decode cX2_part 10 = .ok (.lload_n 1, 1) := by decide +kernel
theorem dX2_part_11 : decode cX2_part 11 = .ok (.invokestatic 90, 3) := by decide +kernel
theorem dX2_part_14 : decode cX2_part 14 = .ok (.lreturn, 1) := by decide +kernel
theorem dX2_limited_0 : decode cX2_limited 0 = .ok (.lload_n 0, 1) := by decide +kernel
theorem dX2_limited_1 : decode cX2_limited 1 = .ok (.ldc2_w 94, 3) := by decide +kernel
theorem dX2_limited_4 : decode cX2_limited 4 = .ok (.invokestatic 96, 3) := by decide +kernel
theorem dX2_limited_7 : decode cX2_limited 7 = .ok (.ifCond .eq 9, 3) := by decide +kernel
theorem dX2_limited_10 : decode cX2_limited 10 = .ok (.ldc2_w 84, 3) := by decide +kernel
theorem dX2_limited_13 : decode cX2_limited 13 = .ok (.goto 4, 3) := by decide +kernel
theorem dX2_limited_16 : decode cX2_limited 16 = .ok (.lload_n 0, 1) := by decide +kernel
theorem dX2_limited_17 : decode cX2_limited 17 = .ok (.lreturn, 1) := by decide +kernel
theorem dX2_product_0 : decode cX2_product 0 = .ok (.lload_n 0, 1) := by decide +kernel
theorem dX2_product_1 : decode cX2_product 1 = .ok (.ldc2_w 84, 3) := by decide +kernel
theorem dX2_product_4 : decode cX2_product 4 = .ok (.lcmp, 1) := by decide +kernel
theorem dX2_product_5 : decode cX2_product 5 = .ok (.ifCond .eq 11, 3) := by decide +kernel
theorem dX2_product_8 : decode cX2_product 8 = .ok (.lload_n 2, 1) := by decide +kernel
theorem dX2_product_9 : decode cX2_product 9 = .ok (.ldc2_w 84, 3) := by decide +kernel
theorem dX2_product_12 : decode cX2_product 12 = .ok (.lcmp, 1) := by decide +kernel
theorem dX2_product_13 : decode cX2_product 13 = .ok (.ifCond .ne 7, 3) := by decide +kernel
theorem dX2_product_16 : decode cX2_product 16 = .ok (.ldc2_w 84, 3) := by decide +kernel
theorem dX2_product_19 : decode cX2_product 19 = .ok (.lreturn, 1) := by decide +kernel
theorem dX2_product_20 : decode cX2_product 20 = .ok (.lload_n 2, 1) := by decide +kernel
theorem dX2_product_21 : decode cX2_product 21 = .ok (.lconst 0, 1) := by decide +kernel
theorem dX2_product_22 : decode cX2_product 22 = .ok (.lcmp, 1) := by decide +kernel
theorem dX2_product_23 : decode cX2_product 23 = .ok (.ifCond .eq 23, 3) := by decide +kernel
theorem dX2_product_26 : decode cX2_product 26 = .ok (.lload_n 0, 1) := by decide +kernel
theorem dX2_product_27 : decode cX2_product 27 = .ok (.invokestatic 100, 3) := by decide +kernel
theorem dX2_product_30 : decode cX2_product 30 = .ok (.ldc2_w 94, 3) := by decide +kernel
theorem dX2_product_33 : decode cX2_product 33 = .ok (.lload_n 2, 1) := by decide +kernel
theorem dX2_product_34 : decode cX2_product 34 = .ok (.invokestatic 100, 3) := by decide +kernel
theorem dX2_product_37 : decode cX2_product 37 = .ok (.ldiv, 1) := by decide +kernel
theorem dX2_product_38 : decode cX2_product 38 = .ok (.lcmp, 1) := by decide +kernel
theorem dX2_product_39 : decode cX2_product 39 = .ok (.ifCond .le 7, 3) := by decide +kernel
theorem dX2_product_42 : decode cX2_product 42 = .ok (.ldc2_w 84, 3) := by decide +kernel
theorem dX2_product_45 : decode cX2_product 45 = .ok (.lreturn, 1) := by decide +kernel
theorem dX2_product_46 : decode cX2_product 46 = .ok (.lload_n 0, 1) := by decide +kernel
theorem dX2_product_47 : decode cX2_product 47 = .ok (.lload_n 2, 1) := by decide +kernel
theorem dX2_product_48 : decode cX2_product 48 = .ok (.lmul, 1) := by decide +kernel
theorem dX2_product_49 : decode cX2_product 49 = .ok (.lreturn, 1) := by decide +kernel
theorem dX2_numberAt_0 : decode cX2_numberAt 0 = .ok (.iload_n 1, 1) := by decide +kernel
theorem dX2_numberAt_1 : decode cX2_numberAt 1 = .ok (.iload_n 2, 1) := by decide +kernel
theorem dX2_numberAt_2 : decode cX2_numberAt 2 = .ok (.bipush 24, 2) := by decide +kernel
theorem dX2_numberAt_4 : decode cX2_numberAt 4 = .ok (.invokestatic 105, 3) := by decide +kernel
theorem dX2_numberAt_7 : decode cX2_numberAt 7 = .ok (.ifCond .eq 20, 3) := by decide +kernel
theorem dX2_numberAt_10 : decode cX2_numberAt 10 = .ok (.aload_n 0, 1) := by decide +kernel
theorem dX2_numberAt_11 : decode cX2_numberAt 11 = .ok (.getfield 20, 3) := by decide +kernel
theorem dX2_numberAt_14 : decode cX2_numberAt 14 = .ok (.iload_n 1, 1) := by decide +kernel
theorem dX2_numberAt_15 : decode cX2_numberAt 15 = .ok (.iload_n 1, 1) := by decide +kernel
theorem dX2_numberAt_16 : decode cX2_numberAt 16 = .ok (.iconst 1, 1) := by decide +kernel
theorem dX2_numberAt_17 : decode cX2_numberAt 17 = .ok (.iadd, 1) := by decide +kernel
theorem dX2_numberAt_18 : decode cX2_numberAt 18 = .ok (.imul, 1) := by decide +kernel
theorem dX2_numberAt_19 : decode cX2_numberAt 19 = .ok (.iconst 2, 1) := by decide +kernel
theorem dX2_numberAt_20 : decode cX2_numberAt 20 = .ok (.idiv, 1) := by decide +kernel
theorem dX2_numberAt_21 : decode cX2_numberAt 21 = .ok (.iload_n 2, 1) := by decide +kernel
theorem dX2_numberAt_22 : decode cX2_numberAt 22 = .ok (.iadd, 1) := by decide +kernel
theorem dX2_numberAt_23 : decode cX2_numberAt 23 = .ok (.laload, 1) := by decide +kernel
theorem dX2_numberAt_24 : decode cX2_numberAt 24 = .ok (.goto 4, 3) := by decide +kernel
theorem dX2_numberAt_27 : decode cX2_numberAt 27 = .ok (.lconst 0, 1) := by decide +kernel
theorem dX2_numberAt_28 : decode cX2_numberAt 28 = .ok (.lreturn, 1) := by decide +kernel
theorem dX2_rowKeepsTo_0 : decode cX2_rowKeepsTo 0 = .ok (.iconst 0, 1) := by decide +kernel
theorem dX2_rowKeepsTo_1 : decode cX2_rowKeepsTo 1 = .ok (.istore 4, 2) := by decide +kernel
theorem dX2_rowKeepsTo_3 : decode cX2_rowKeepsTo 3 = .ok (.iload 4, 2) := by decide +kernel
theorem dX2_rowKeepsTo_5 : decode cX2_rowKeepsTo 5 = .ok (.iload_n 1, 1) := by decide +kernel
theorem dX2_rowKeepsTo_6 : decode cX2_rowKeepsTo 6 = .ok (.if_icmp .gt 25, 3) := by decide +kernel
theorem dX2_rowKeepsTo_9 : decode cX2_rowKeepsTo 9 = .ok (.aload_n 0, 1) := by decide +kernel
theorem dX2_rowKeepsTo_10 : decode cX2_rowKeepsTo 10 = .ok (.iload_n 1, 1) := by decide +kernel
theorem dX2_rowKeepsTo_11 : decode cX2_rowKeepsTo 11 = .ok (.iload 4, 2) := by decide +kernel
theorem dX2_rowKeepsTo_13 : decode cX2_rowKeepsTo 13 = .ok (.invokevirtual 77, 3) := by decide +kernel
theorem dX2_rowKeepsTo_16 : decode cX2_rowKeepsTo 16 = .ok (.lload_n 2, 1) := by decide +kernel
theorem dX2_rowKeepsTo_17 : decode cX2_rowKeepsTo 17 = .ok (.invokestatic 96, 3) := by decide +kernel
theorem dX2_rowKeepsTo_20 : decode cX2_rowKeepsTo 20 = .ok (.ifCond .eq 5, 3) := by decide +kernel
theorem dX2_rowKeepsTo_23 : decode cX2_rowKeepsTo 23 = .ok (.iconst 0, 1) := by decide +kernel
theorem dX2_rowKeepsTo_24 : decode cX2_rowKeepsTo 24 = .ok (.ireturn, 1) := by decide +kernel
theorem dX2_rowKeepsTo_25 : decode cX2_rowKeepsTo 25 = .ok (.iinc 4 1, 3) := by decide +kernel
theorem dX2_rowKeepsTo_28 : decode cX2_rowKeepsTo 28 = .ok (.goto (-25), 3) := by decide +kernel
theorem dX2_rowKeepsTo_31 : decode cX2_rowKeepsTo 31 = .ok (.iconst 1, 1) := by decide +kernel
theorem dX2_rowKeepsTo_32 : decode cX2_rowKeepsTo 32 = .ok (.ireturn, 1) := by decide +kernel
theorem dX2_rowSum_0 : decode cX2_rowSum 0 = .ok (.aload_n 0, 1) := by decide +kernel
theorem dX2_rowSum_1 : decode cX2_rowSum 1 = .ok (.iload_n 1, 1) := by decide +kernel
theorem dX2_rowSum_2 : decode cX2_rowSum 2 = .ok (.ldc2_w 94, 3) := by decide +kernel
theorem dX2_rowSum_5 : decode cX2_rowSum 5 = .ok (.invokevirtual 109, 3) := by decide +kernel
theorem dX2_rowSum_8 : decode cX2_rowSum 8 = .ok (.ifCond .ne 7, 3) := by decide +kernel
theorem dX2_rowSum_11 : decode cX2_rowSum 11 = .ok (.ldc2_w 84, 3) := by decide +kernel
theorem dX2_rowSum_14 : decode cX2_rowSum 14 = .ok (.lreturn, 1) := by decide +kernel
theorem dX2_rowSum_15 : decode cX2_rowSum 15 = .ok (.lconst 0, 1) := by decide +kernel
theorem dX2_rowSum_16 : decode cX2_rowSum 16 = .ok (.lstore_n 3, 1) := by decide +kernel
theorem dX2_rowSum_17 : decode cX2_rowSum 17 = .ok (.iconst 0, 1) := by decide +kernel
theorem dX2_rowSum_18 : decode cX2_rowSum 18 = .ok (.istore 5, 2) := by decide +kernel
theorem dX2_rowSum_20 : decode cX2_rowSum 20 = .ok (.iload 5, 2) := by decide +kernel
theorem dX2_rowSum_22 : decode cX2_rowSum 22 = .ok (.iload_n 1, 1) := by decide +kernel
theorem dX2_rowSum_23 : decode cX2_rowSum 23 = .ok (.if_icmp .gt 42, 3) := by decide +kernel
theorem dX2_rowSum_26 : decode cX2_rowSum 26 = .ok (.lload_n 3, 1) := by decide +kernel
theorem dX2_rowSum_27 : decode cX2_rowSum 27 = .ok (.iload_n 2, 1) := by decide +kernel
theorem dX2_rowSum_28 : decode cX2_rowSum 28 = .ok (.ifCond .eq 22, 3) := by decide +kernel
theorem dX2_rowSum_31 : decode cX2_rowSum 31 = .ok (.iload 5, 2) := by decide +kernel
theorem dX2_rowSum_33 : decode cX2_rowSum 33 = .ok (.iconst 2, 1) := by decide +kernel
theorem dX2_rowSum_34 : decode cX2_rowSum 34 = .ok (.irem, 1) := by decide +kernel
theorem dX2_rowSum_35 : decode cX2_rowSum 35 = .ok (.iconst 1, 1) := by decide +kernel
theorem dX2_rowSum_36 : decode cX2_rowSum 36 = .ok (.if_icmp .ne 14, 3) := by decide +kernel
theorem dX2_rowSum_39 : decode cX2_rowSum 39 = .ok (.aload_n 0, 1) := by decide +kernel
theorem dX2_rowSum_40 : decode cX2_rowSum 40 = .ok (.iload_n 1, 1) := by decide +kernel
theorem dX2_rowSum_41 : decode cX2_rowSum 41 = .ok (.iload 5, 2) := by decide +kernel
theorem dX2_rowSum_43 : decode cX2_rowSum 43 = .ok (.invokevirtual 77, 3) := by decide +kernel
theorem dX2_rowSum_46 : decode cX2_rowSum 46 = .ok (.lneg, 1) := by decide +kernel
theorem dX2_rowSum_47 : decode cX2_rowSum 47 = .ok (.goto 10, 3) := by decide +kernel
theorem dX2_rowSum_50 : decode cX2_rowSum 50 = .ok (.aload_n 0, 1) := by decide +kernel
theorem dX2_rowSum_51 : decode cX2_rowSum 51 = .ok (.iload_n 1, 1) := by decide +kernel
theorem dX2_rowSum_52 : decode cX2_rowSum 52 = .ok (.iload 5, 2) := by decide +kernel
theorem dX2_rowSum_54 : decode cX2_rowSum 54 = .ok (.invokevirtual 77, 3) := by decide +kernel
theorem dX2_rowSum_57 : decode cX2_rowSum 57 = .ok (.ladd, 1) := by decide +kernel
theorem dX2_rowSum_58 : decode cX2_rowSum 58 = .ok (.lstore_n 3, 1) := by decide +kernel
theorem dX2_rowSum_59 : decode cX2_rowSum 59 = .ok (.iinc 5 1, 3) := by decide +kernel
theorem dX2_rowSum_62 : decode cX2_rowSum 62 = .ok (.goto (-42), 3) := by decide +kernel
theorem dX2_rowSum_65 : decode cX2_rowSum 65 = .ok (.lload_n 3, 1) := by decide +kernel
theorem dX2_rowSum_66 : decode cX2_rowSum 66 = .ok (.lreturn, 1) := by decide +kernel
theorem dX2_slantSum_0 : decode cX2_slantSum 0 = .ok (.lconst 0, 1) := by decide +kernel
theorem dX2_slantSum_1 : decode cX2_slantSum 1 = .ok (.lstore_n 2, 1) := by decide +kernel
theorem dX2_slantSum_2 : decode cX2_slantSum 2 = .ok (.iconst 0, 1) := by decide +kernel
theorem dX2_slantSum_3 : decode cX2_slantSum 3 = .ok (.istore 4, 2) := by decide +kernel
theorem dX2_slantSum_5 : decode cX2_slantSum 5 = .ok (.iload 4, 2) := by decide +kernel
theorem dX2_slantSum_7 : decode cX2_slantSum 7 = .ok (.iload_n 1, 1) := by decide +kernel
theorem dX2_slantSum_8 : decode cX2_slantSum 8 = .ok (.iload 4, 2) := by decide +kernel
theorem dX2_slantSum_10 : decode cX2_slantSum 10 = .ok (.isub, 1) := by decide +kernel
theorem dX2_slantSum_11 : decode cX2_slantSum 11 = .ok (.if_icmp .gt 39, 3) := by decide +kernel
theorem dX2_slantSum_14 : decode cX2_slantSum 14 = .ok (.aload_n 0, 1) := by decide +kernel
theorem dX2_slantSum_15 : decode cX2_slantSum 15 = .ok (.iload_n 1, 1) := by decide +kernel
theorem dX2_slantSum_16 : decode cX2_slantSum 16 = .ok (.iload 4, 2) := by decide +kernel
theorem dX2_slantSum_18 : decode cX2_slantSum 18 = .ok (.isub, 1) := by decide +kernel
theorem dX2_slantSum_19 : decode cX2_slantSum 19 = .ok (.iload 4, 2) := by decide +kernel
theorem dX2_slantSum_21 : decode cX2_slantSum 21 = .ok (.invokevirtual 77, 3) := by decide +kernel
theorem dX2_slantSum_24 : decode cX2_slantSum 24 = .ok (.lstore 5, 2) := by decide +kernel
theorem dX2_slantSum_26 : decode cX2_slantSum 26 = .ok (.lload 5, 2) := by decide +kernel
theorem dX2_slantSum_28 : decode cX2_slantSum 28 = .ok (.ldc2_w 84, 3) := by decide +kernel
theorem dX2_slantSum_31 : decode cX2_slantSum 31 = .ok (.lcmp, 1) := by decide +kernel
theorem dX2_slantSum_32 : decode cX2_slantSum 32 = .ok (.ifCond .ne 7, 3) := by decide +kernel
theorem dX2_slantSum_35 : decode cX2_slantSum 35 = .ok (.ldc2_w 84, 3) := by decide +kernel
theorem dX2_slantSum_38 : decode cX2_slantSum 38 = .ok (.lreturn, 1) := by decide +kernel
theorem dX2_slantSum_39 : decode cX2_slantSum 39 = .ok (.lload_n 2, 1) := by decide +kernel
theorem dX2_slantSum_40 : decode cX2_slantSum 40 = .ok (.lload 5, 2) := by decide +kernel
theorem dX2_slantSum_42 : decode cX2_slantSum 42 = .ok (.ladd, 1) := by decide +kernel
theorem dX2_slantSum_43 : decode cX2_slantSum 43 = .ok (.lstore_n 2, 1) := by decide +kernel
theorem dX2_slantSum_44 : decode cX2_slantSum 44 = .ok (.iinc 4 1, 3) := by decide +kernel
theorem dX2_slantSum_47 : decode cX2_slantSum 47 = .ok (.goto (-42), 3) := by decide +kernel
theorem dX2_slantSum_50 : decode cX2_slantSum 50 = .ok (.lload_n 2, 1) := by decide +kernel
theorem dX2_slantSum_51 : decode cX2_slantSum 51 = .ok (.lreturn, 1) := by decide +kernel
theorem dX2_squareSum_0 : decode cX2_squareSum 0 = .ok (.aload_n 0, 1) := by decide +kernel
theorem dX2_squareSum_1 : decode cX2_squareSum 1 = .ok (.iload_n 1, 1) := by decide +kernel
theorem dX2_squareSum_2 : decode cX2_squareSum 2 = .ok (.ldc2_w 113, 3) := by decide +kernel
theorem dX2_squareSum_5 : decode cX2_squareSum 5 = .ok (.invokevirtual 109, 3) := by decide +kernel
theorem dX2_squareSum_8 : decode cX2_squareSum 8 = .ok (.ifCond .ne 7, 3) := by decide +kernel
theorem dX2_squareSum_11 : decode cX2_squareSum 11 = .ok (.ldc2_w 84, 3) := by decide +kernel
theorem dX2_squareSum_14 : decode cX2_squareSum 14 = .ok (.lreturn, 1) := by decide +kernel
theorem dX2_squareSum_15 : decode cX2_squareSum 15 = .ok (.lconst 0, 1) := by decide +kernel
theorem dX2_squareSum_16 : decode cX2_squareSum 16 = .ok (.lstore_n 2, 1) := by decide +kernel
theorem dX2_squareSum_17 : decode cX2_squareSum 17 = .ok (.iconst 0, 1) := by decide +kernel
theorem dX2_squareSum_18 : decode cX2_squareSum 18 = .ok (.istore 4, 2) := by decide +kernel
theorem dX2_squareSum_20 : decode cX2_squareSum 20 = .ok (.iload 4, 2) := by decide +kernel
theorem dX2_squareSum_22 : decode cX2_squareSum 22 = .ok (.iload_n 1, 1) := by decide +kernel
theorem dX2_squareSum_23 : decode cX2_squareSum 23 = .ok (.if_icmp .gt 27, 3) := by decide +kernel
theorem dX2_squareSum_26 : decode cX2_squareSum 26 = .ok (.lload_n 2, 1) := by decide +kernel
theorem dX2_squareSum_27 : decode cX2_squareSum 27 = .ok (.aload_n 0, 1) := by decide +kernel
theorem dX2_squareSum_28 : decode cX2_squareSum 28 = .ok (.iload_n 1, 1) := by decide +kernel
theorem dX2_squareSum_29 : decode cX2_squareSum 29 = .ok (.iload 4, 2) := by decide +kernel
theorem dX2_squareSum_31 : decode cX2_squareSum 31 = .ok (.invokevirtual 77, 3) := by decide +kernel
theorem dX2_squareSum_34 : decode cX2_squareSum 34 = .ok (.aload_n 0, 1) := by decide +kernel
theorem dX2_squareSum_35 : decode cX2_squareSum 35 = .ok (.iload_n 1, 1) := by decide +kernel
theorem dX2_squareSum_36 : decode cX2_squareSum 36 = .ok (.iload 4, 2) := by decide +kernel
theorem dX2_squareSum_38 : decode cX2_squareSum 38 = .ok (.invokevirtual 77, 3) := by decide +kernel
theorem dX2_squareSum_41 : decode cX2_squareSum 41 = .ok (.lmul, 1) := by decide +kernel
theorem dX2_squareSum_42 : decode cX2_squareSum 42 = .ok (.ladd, 1) := by decide +kernel
theorem dX2_squareSum_43 : decode cX2_squareSum 43 = .ok (.lstore_n 2, 1) := by decide +kernel
theorem dX2_squareSum_44 : decode cX2_squareSum 44 = .ok (.iinc 4 1, 3) := by decide +kernel
theorem dX2_squareSum_47 : decode cX2_squareSum 47 = .ok (.goto (-27), 3) := by decide +kernel
theorem dX2_squareSum_50 : decode cX2_squareSum 50 = .ok (.lload_n 2, 1) := by decide +kernel
theorem dX2_squareSum_51 : decode cX2_squareSum 51 = .ok (.lreturn, 1) := by decide +kernel
theorem dX2_greatestPlace_0 : decode cX2_greatestPlace 0 = .ok (.iconst 0, 1) := by decide +kernel
theorem dX2_greatestPlace_1 : decode cX2_greatestPlace 1 = .ok (.istore_n 2, 1) := by decide +kernel
theorem dX2_greatestPlace_2 : decode cX2_greatestPlace 2 = .ok (.iconst 1, 1) := by decide +kernel
theorem dX2_greatestPlace_3 : decode cX2_greatestPlace 3 = .ok (.istore_n 3, 1) := by decide +kernel
theorem dX2_greatestPlace_4 : decode cX2_greatestPlace 4 = .ok (.iload_n 3, 1) := by decide +kernel
theorem dX2_greatestPlace_5 : decode cX2_greatestPlace 5 = .ok (.iload_n 1, 1) := by decide +kernel
theorem dX2_greatestPlace_6 : decode cX2_greatestPlace 6 = .ok (.if_icmp .gt 27, 3) := by decide +kernel
theorem dX2_greatestPlace_9 : decode cX2_greatestPlace 9 = .ok (.aload_n 0, 1) := by decide +kernel
theorem dX2_greatestPlace_10 : decode cX2_greatestPlace 10 = .ok (.iload_n 1, 1) := by decide +kernel
theorem dX2_greatestPlace_11 : decode cX2_greatestPlace 11 = .ok (.iload_n 3, 1) := by decide +kernel
theorem dX2_greatestPlace_12 : decode cX2_greatestPlace 12 = .ok (.invokevirtual 77, 3) := by decide +kernel
theorem dX2_greatestPlace_15 : decode cX2_greatestPlace 15 = .ok (.aload_n 0, 1) := by decide +kernel
theorem dX2_greatestPlace_16 : decode cX2_greatestPlace 16 = .ok (.iload_n 1, 1) := by decide +kernel
theorem dX2_greatestPlace_17 : decode cX2_greatestPlace 17 = .ok (.iload_n 2, 1) := by decide +kernel
theorem dX2_greatestPlace_18 : decode cX2_greatestPlace 18 = .ok (.invokevirtual 77, 3) := by decide +kernel
theorem dX2_greatestPlace_21 : decode cX2_greatestPlace 21 = .ok (.lcmp, 1) := by decide +kernel
theorem dX2_greatestPlace_22 : decode cX2_greatestPlace 22 = .ok (.ifCond .le 5, 3) := by decide +kernel
theorem dX2_greatestPlace_25 : decode cX2_greatestPlace 25 = .ok (.iload_n 3, 1) := by decide +kernel
theorem dX2_greatestPlace_26 : decode cX2_greatestPlace 26 = .ok (.istore_n 2, 1) := by decide +kernel
theorem dX2_greatestPlace_27 : decode cX2_greatestPlace 27 = .ok (.iinc 3 1, 3) := by decide +kernel
theorem dX2_greatestPlace_30 : decode cX2_greatestPlace 30 = .ok (.goto (-26), 3) := by decide +kernel
theorem dX2_greatestPlace_33 : decode cX2_greatestPlace 33 = .ok (.iload_n 2, 1) := by decide +kernel
theorem dX2_greatestPlace_34 : decode cX2_greatestPlace 34 = .ok (.ireturn, 1) := by decide +kernel
theorem dX2_breakPlace_0 : decode cX2_breakPlace 0 = .ok (.iconst 0, 1) := by decide +kernel
theorem dX2_breakPlace_1 : decode cX2_breakPlace 1 = .ok (.istore_n 2, 1) := by decide +kernel
theorem dX2_breakPlace_2 : decode cX2_breakPlace 2 = .ok (.iconst 0, 1) := by decide +kernel
theorem dX2_breakPlace_3 : decode cX2_breakPlace 3 = .ok (.istore_n 3, 1) := by decide +kernel
theorem dX2_breakPlace_4 : decode cX2_breakPlace 4 = .ok (.iload_n 3, 1) := by decide +kernel
theorem dX2_breakPlace_5 : decode cX2_breakPlace 5 = .ok (.iload_n 1, 1) := by decide +kernel
theorem dX2_breakPlace_6 : decode cX2_breakPlace 6 = .ok (.if_icmp .ge 61, 3) := by decide +kernel
theorem dX2_breakPlace_9 : decode cX2_breakPlace 9 = .ok (.iload_n 2, 1) := by decide +kernel
theorem dX2_breakPlace_10 : decode cX2_breakPlace 10 = .ok (.ifCond .eq 23, 3) := by decide +kernel
theorem dX2_breakPlace_13 : decode cX2_breakPlace 13 = .ok (.aload_n 0, 1) := by decide +kernel
theorem dX2_breakPlace_14 : decode cX2_breakPlace 14 = .ok (.iload_n 1, 1) := by decide +kernel
theorem dX2_breakPlace_15 : decode cX2_breakPlace 15 = .ok (.iload_n 3, 1) := by decide +kernel
theorem dX2_breakPlace_16 : decode cX2_breakPlace 16 = .ok (.iconst 1, 1) := by decide +kernel
theorem dX2_breakPlace_17 : decode cX2_breakPlace 17 = .ok (.iadd, 1) := by decide +kernel
theorem dX2_breakPlace_18 : decode cX2_breakPlace 18 = .ok (.invokevirtual 77, 3) := by decide +kernel
theorem dX2_breakPlace_21 : decode cX2_breakPlace 21 = .ok (.aload_n 0, 1) := by decide +kernel
theorem dX2_breakPlace_22 : decode cX2_breakPlace 22 = .ok (.iload_n 1, 1) := by decide +kernel
theorem dX2_breakPlace_23 : decode cX2_breakPlace 23 = .ok (.iload_n 3, 1) := by decide +kernel
theorem dX2_breakPlace_24 : decode cX2_breakPlace 24 = .ok (.invokevirtual 77, 3) := by decide +kernel
theorem dX2_breakPlace_27 : decode cX2_breakPlace 27 = .ok (.lcmp, 1) := by decide +kernel
theorem dX2_breakPlace_28 : decode cX2_breakPlace 28 = .ok (.ifCond .le 5, 3) := by decide +kernel
theorem dX2_breakPlace_31 : decode cX2_breakPlace 31 = .ok (.iload_n 3, 1) := by decide +kernel
theorem dX2_breakPlace_32 : decode cX2_breakPlace 32 = .ok (.ireturn, 1) := by decide +kernel
theorem dX2_breakPlace_33 : decode cX2_breakPlace 33 = .ok (.iload_n 2, 1) := by decide +kernel
theorem dX2_breakPlace_34 : decode cX2_breakPlace 34 = .ok (.ifCond .ne 21, 3) := by decide +kernel
theorem dX2_breakPlace_37 : decode cX2_breakPlace 37 = .ok (.aload_n 0, 1) := by decide +kernel
theorem dX2_breakPlace_38 : decode cX2_breakPlace 38 = .ok (.iload_n 1, 1) := by decide +kernel
theorem dX2_breakPlace_39 : decode cX2_breakPlace 39 = .ok (.iload_n 3, 1) := by decide +kernel
theorem dX2_breakPlace_40 : decode cX2_breakPlace 40 = .ok (.iconst 1, 1) := by decide +kernel
theorem dX2_breakPlace_41 : decode cX2_breakPlace 41 = .ok (.iadd, 1) := by decide +kernel
theorem dX2_breakPlace_42 : decode cX2_breakPlace 42 = .ok (.invokevirtual 77, 3) := by decide +kernel
theorem dX2_breakPlace_45 : decode cX2_breakPlace 45 = .ok (.aload_n 0, 1) := by decide +kernel
theorem dX2_breakPlace_46 : decode cX2_breakPlace 46 = .ok (.iload_n 1, 1) := by decide +kernel
theorem dX2_breakPlace_47 : decode cX2_breakPlace 47 = .ok (.iload_n 3, 1) := by decide +kernel
theorem dX2_breakPlace_48 : decode cX2_breakPlace 48 = .ok (.invokevirtual 77, 3) := by decide +kernel
theorem dX2_breakPlace_51 : decode cX2_breakPlace 51 = .ok (.lcmp, 1) := by decide +kernel
theorem dX2_breakPlace_52 : decode cX2_breakPlace 52 = .ok (.ifCond .ge 7, 3) := by decide +kernel
theorem dX2_breakPlace_55 : decode cX2_breakPlace 55 = .ok (.iconst 1, 1) := by decide +kernel
theorem dX2_breakPlace_56 : decode cX2_breakPlace 56 = .ok (.goto 4, 3) := by decide +kernel
theorem dX2_breakPlace_59 : decode cX2_breakPlace 59 = .ok (.iconst 0, 1) := by decide +kernel
theorem dX2_breakPlace_60 : decode cX2_breakPlace 60 = .ok (.istore_n 2, 1) := by decide +kernel
theorem dX2_breakPlace_61 : decode cX2_breakPlace 61 = .ok (.iinc 3 1, 3) := by decide +kernel
theorem dX2_breakPlace_64 : decode cX2_breakPlace 64 = .ok (.goto (-60), 3) := by decide +kernel
theorem dX2_breakPlace_67 : decode cX2_breakPlace 67 = .ok (.bipush (-4), 2) := by decide +kernel
theorem dX2_breakPlace_69 : decode cX2_breakPlace 69 = .ok (.ireturn, 1) := by decide +kernel
theorem dX2_bowedPlace_0 : decode cX2_bowedPlace 0 = .ok (.iconst 1, 1) := by decide +kernel
theorem dX2_bowedPlace_1 : decode cX2_bowedPlace 1 = .ok (.istore_n 2, 1) := by decide +kernel
theorem dX2_bowedPlace_2 : decode cX2_bowedPlace 2 = .ok (.iload_n 2, 1) := by decide +kernel
theorem dX2_bowedPlace_3 : decode cX2_bowedPlace 3 = .ok (.iload_n 1, 1) := by decide +kernel
theorem dX2_bowedPlace_4 : decode cX2_bowedPlace 4 = .ok (.if_icmp .ge 47, 3) := by decide +kernel
theorem dX2_bowedPlace_7 : decode cX2_bowedPlace 7 = .ok (.aload_n 0, 1) := by decide +kernel
theorem dX2_bowedPlace_8 : decode cX2_bowedPlace 8 = .ok (.iload_n 1, 1) := by decide +kernel
theorem dX2_bowedPlace_9 : decode cX2_bowedPlace 9 = .ok (.iload_n 2, 1) := by decide +kernel
theorem dX2_bowedPlace_10 : decode cX2_bowedPlace 10 = .ok (.invokevirtual 77, 3) := by decide +kernel
theorem dX2_bowedPlace_13 : decode cX2_bowedPlace 13 = .ok (.aload_n 0, 1) := by decide +kernel
theorem dX2_bowedPlace_14 : decode cX2_bowedPlace 14 = .ok (.iload_n 1, 1) := by decide +kernel
theorem dX2_bowedPlace_15 : decode cX2_bowedPlace 15 = .ok (.iload_n 2, 1) := by decide +kernel
theorem dX2_bowedPlace_16 : decode cX2_bowedPlace 16 = .ok (.invokevirtual 77, 3) := by decide +kernel
theorem dX2_bowedPlace_19 : decode cX2_bowedPlace 19 = .ok (.lmul, 1) := by decide +kernel
theorem dX2_bowedPlace_20 : decode cX2_bowedPlace 20 = .ok (.lstore_n 3, 1) := by decide +kernel
theorem dX2_bowedPlace_21 : decode cX2_bowedPlace 21 = .ok (.lload_n 3, 1) := by decide +kernel
theorem dX2_bowedPlace_22 : decode cX2_bowedPlace 22 = .ok (.aload_n 0, 1) := by decide +kernel
theorem dX2_bowedPlace_23 : decode cX2_bowedPlace 23 = .ok (.iload_n 1, 1) := by decide +kernel
theorem dX2_bowedPlace_24 : decode cX2_bowedPlace 24 = .ok (.iload_n 2, 1) := by decide +kernel
theorem dX2_bowedPlace_25 : decode cX2_bowedPlace 25 = .ok (.iconst 1, 1) := by decide +kernel
theorem dX2_bowedPlace_26 : decode cX2_bowedPlace 26 = .ok (.isub, 1) := by decide +kernel
theorem dX2_bowedPlace_27 : decode cX2_bowedPlace 27 = .ok (.invokevirtual 77, 3) := by decide +kernel
theorem dX2_bowedPlace_30 : decode cX2_bowedPlace 30 = .ok (.aload_n 0, 1) := by decide +kernel
theorem dX2_bowedPlace_31 : decode cX2_bowedPlace 31 = .ok (.iload_n 1, 1) := by decide +kernel
theorem dX2_bowedPlace_32 : decode cX2_bowedPlace 32 = .ok (.iload_n 2, 1) := by decide +kernel
theorem dX2_bowedPlace_33 : decode cX2_bowedPlace 33 = .ok (.iconst 1, 1) := by decide +kernel
theorem dX2_bowedPlace_34 : decode cX2_bowedPlace 34 = .ok (.iadd, 1) := by decide +kernel
theorem dX2_bowedPlace_35 : decode cX2_bowedPlace 35 = .ok (.invokevirtual 77, 3) := by decide +kernel
theorem dX2_bowedPlace_38 : decode cX2_bowedPlace 38 = .ok (.lmul, 1) := by decide +kernel
theorem dX2_bowedPlace_39 : decode cX2_bowedPlace 39 = .ok (.lcmp, 1) := by decide +kernel
theorem dX2_bowedPlace_40 : decode cX2_bowedPlace 40 = .ok (.ifCond .ge 5, 3) := by decide +kernel
theorem dX2_bowedPlace_43 : decode cX2_bowedPlace 43 = .ok (.iload_n 2, 1) := by decide +kernel
theorem dX2_bowedPlace_44 : decode cX2_bowedPlace 44 = .ok (.ireturn, 1) := by decide +kernel
theorem dX2_bowedPlace_45 : decode cX2_bowedPlace 45 = .ok (.iinc 2 1, 3) := by decide +kernel
theorem dX2_bowedPlace_48 : decode cX2_bowedPlace 48 = .ok (.goto (-46), 3) := by decide +kernel
theorem dX2_bowedPlace_51 : decode cX2_bowedPlace 51 = .ok (.bipush (-4), 2) := by decide +kernel
theorem dX2_bowedPlace_53 : decode cX2_bowedPlace 53 = .ok (.ireturn, 1) := by decide +kernel
theorem dX2_restAt_0 : decode cX2_restAt 0 = .ok (.iload_n 3, 1) := by decide +kernel
theorem dX2_restAt_1 : decode cX2_restAt 1 = .ok (.iconst 1, 1) := by decide +kernel
theorem dX2_restAt_2 : decode cX2_restAt 2 = .ok (.if_icmp .lt 13, 3) := by decide +kernel
theorem dX2_restAt_5 : decode cX2_restAt 5 = .ok (.iload_n 1, 1) := by decide +kernel
theorem dX2_restAt_6 : decode cX2_restAt 6 = .ok (.iload_n 2, 1) := by decide +kernel
theorem dX2_restAt_7 : decode cX2_restAt 7 = .ok (.bipush 60, 2) := by decide +kernel
theorem dX2_restAt_9 : decode cX2_restAt 9 = .ok (.invokestatic 105, 3) := by decide +kernel
theorem dX2_restAt_12 : decode cX2_restAt 12 = .ok (.ifCond .ne 5, 3) := by decide +kernel
theorem dX2_restAt_15 : decode cX2_restAt 15 = .ok (.iconst 0, 1) := by decide +kernel
theorem dX2_restAt_16 : decode cX2_restAt 16 = .ok (.ireturn, 1) := by decide +kernel
theorem dX2_restAt_17 : decode cX2_restAt 17 = .ok (.aload_n 0, 1) := by decide +kernel
theorem dX2_restAt_18 : decode cX2_restAt 18 = .ok (.getfield 27, 3) := by decide +kernel
theorem dX2_restAt_21 : decode cX2_restAt 21 = .ok (.iconst 0, 1) := by decide +kernel
theorem dX2_restAt_22 : decode cX2_restAt 22 = .ok (.invokestatic 37, 3) := by decide +kernel
theorem dX2_restAt_25 : decode cX2_restAt 25 = .ok (.aload_n 0, 1) := by decide +kernel
theorem dX2_restAt_26 : decode cX2_restAt 26 = .ok (.getfield 27, 3) := by decide +kernel
theorem dX2_restAt_29 : decode cX2_restAt 29 = .ok (.iconst 0, 1) := by decide +kernel
theorem dX2_restAt_30 : decode cX2_restAt 30 = .ok (.aload_n 0, 1) := by decide +kernel
theorem dX2_restAt_31 : decode cX2_restAt 31 = .ok (.getfield 30, 3) := by decide +kernel
theorem dX2_restAt_34 : decode cX2_restAt 34 = .ok (.iload_n 3, 1) := by decide +kernel
theorem dX2_restAt_35 : decode cX2_restAt 35 = .ok (.invokestatic 115, 3) := by decide +kernel
theorem dX2_restAt_38 : decode cX2_restAt 38 = .ok (.iastore, 1) := by decide +kernel
theorem dX2_restAt_39 : decode cX2_restAt 39 = .ok (.iconst 1, 1) := by decide +kernel
theorem dX2_restAt_40 : decode cX2_restAt 40 = .ok (.istore 4, 2) := by decide +kernel
theorem dX2_restAt_42 : decode cX2_restAt 42 = .ok (.iload 4, 2) := by decide +kernel
theorem dX2_restAt_44 : decode cX2_restAt 44 = .ok (.iload_n 1, 1) := by decide +kernel
theorem dX2_restAt_45 : decode cX2_restAt 45 = .ok (.if_icmp .gt 111, 3) := by decide +kernel
theorem dX2_restAt_48 : decode cX2_restAt 48 = .ok (.iload 4, 2) := by decide +kernel
theorem dX2_restAt_50 : decode cX2_restAt 50 = .ok (.iload_n 2, 1) := by decide +kernel
theorem dX2_restAt_51 : decode cX2_restAt 51 = .ok (.invokestatic 119, 3) := by decide +kernel
theorem dX2_restAt_54 : decode cX2_restAt 54 = .ok (.istore 5, 2) := by decide +kernel
theorem dX2_restAt_56 : decode cX2_restAt 56 = .ok (.iload 5, 2) := by decide +kernel
theorem dX2_restAt_58 : decode cX2_restAt 58 = .ok (.ifCond .le 65, 3) := by decide +kernel
theorem dX2_restAt_61 : decode cX2_restAt 61 = .ok (.aload_n 0, 1) := by decide +kernel
theorem dX2_restAt_62 : decode cX2_restAt 62 = .ok (.getfield 11, 3) := by decide +kernel
theorem dX2_restAt_65 : decode cX2_restAt 65 = .ok (.iload 4, 2) := by decide +kernel
theorem dX2_restAt_67 : decode cX2_restAt 67 = .ok (.iload 5, 2) := by decide +kernel
theorem dX2_restAt_69 : decode cX2_restAt 69 = .ok (.invokestatic 73, 3) := by decide +kernel
theorem dX2_restAt_72 : decode cX2_restAt 72 = .ok (.aload_n 0, 1) := by decide +kernel
theorem dX2_restAt_73 : decode cX2_restAt 73 = .ok (.getfield 27, 3) := by decide +kernel
theorem dX2_restAt_76 : decode cX2_restAt 76 = .ok (.iload 5, 2) := by decide +kernel
theorem dX2_restAt_78 : decode cX2_restAt 78 = .ok (.iconst 1, 1) := by decide +kernel
theorem dX2_restAt_79 : decode cX2_restAt 79 = .ok (.isub, 1) := by decide +kernel
theorem dX2_restAt_80 : decode cX2_restAt 80 = .ok (.iaload, 1) := by decide +kernel
theorem dX2_restAt_81 : decode cX2_restAt 81 = .ok (.imul, 1) := by decide +kernel
theorem dX2_restAt_82 : decode cX2_restAt 82 = .ok (.aload_n 0, 1) := by decide +kernel
theorem dX2_restAt_83 : decode cX2_restAt 83 = .ok (.getfield 17, 3) := by decide +kernel
theorem dX2_restAt_86 : decode cX2_restAt 86 = .ok (.iload 4, 2) := by decide +kernel
theorem dX2_restAt_88 : decode cX2_restAt 88 = .ok (.iload 5, 2) := by decide +kernel
theorem dX2_restAt_90 : decode cX2_restAt 90 = .ok (.invokestatic 73, 3) := by decide +kernel
theorem dX2_restAt_93 : decode cX2_restAt 93 = .ok (.aload_n 0, 1) := by decide +kernel
theorem dX2_restAt_94 : decode cX2_restAt 94 = .ok (.getfield 27, 3) := by decide +kernel
theorem dX2_restAt_97 : decode cX2_restAt 97 = .ok (.iload 5, 2) := by decide +kernel
theorem dX2_restAt_99 : decode cX2_restAt 99 = .ok (.iaload, 1) := by decide +kernel
theorem dX2_restAt_100 : decode cX2_restAt 100 = .ok (.imul, 1) := by decide +kernel
theorem dX2_restAt_101 : decode cX2_restAt 101 = .ok (.iadd, 1) := by decide +kernel
theorem dX2_restAt_102 : decode cX2_restAt 102 = .ok (.istore 6, 2) := by decide +kernel
theorem dX2_restAt_104 : decode cX2_restAt 104 = .ok (.aload_n 0, 1) := by decide +kernel
theorem dX2_restAt_105 : decode cX2_restAt 105 = .ok (.getfield 27, 3) := by decide +kernel
theorem dX2_restAt_108 : decode cX2_restAt 108 = .ok (.iload 5, 2) := by decide +kernel
theorem dX2_restAt_110 : decode cX2_restAt 110 = .ok (.iload 6, 2) := by decide +kernel
theorem dX2_restAt_112 : decode cX2_restAt 112 = .ok (.iload_n 3, 1) := by decide +kernel
theorem dX2_restAt_113 : decode cX2_restAt 113 = .ok (.invokestatic 115, 3) := by decide +kernel
theorem dX2_restAt_116 : decode cX2_restAt 116 = .ok (.iastore, 1) := by decide +kernel
theorem dX2_restAt_117 : decode cX2_restAt 117 = .ok (.iinc 5 (-1), 3) := by decide +kernel
theorem dX2_restAt_120 : decode cX2_restAt 120 = .ok (.goto (-64), 3) := by decide +kernel
theorem dX2_restAt_123 : decode cX2_restAt 123 = .ok (.aload_n 0, 1) := by decide +kernel
theorem dX2_restAt_124 : decode cX2_restAt 124 = .ok (.getfield 27, 3) := by decide +kernel
theorem dX2_restAt_127 : decode cX2_restAt 127 = .ok (.iconst 0, 1) := by decide +kernel
theorem dX2_restAt_128 : decode cX2_restAt 128 = .ok (.aload_n 0, 1) := by decide +kernel
theorem dX2_restAt_129 : decode cX2_restAt 129 = .ok (.getfield 17, 3) := by decide +kernel
theorem dX2_restAt_132 : decode cX2_restAt 132 = .ok (.iload 4, 2) := by decide +kernel
theorem dX2_restAt_134 : decode cX2_restAt 134 = .ok (.iconst 0, 1) := by decide +kernel
theorem dX2_restAt_135 : decode cX2_restAt 135 = .ok (.invokestatic 73, 3) := by decide +kernel
theorem dX2_restAt_138 : decode cX2_restAt 138 = .ok (.aload_n 0, 1) := by decide +kernel
theorem dX2_restAt_139 : decode cX2_restAt 139 = .ok (.getfield 27, 3) := by decide +kernel
theorem dX2_restAt_142 : decode cX2_restAt 142 = .ok (.iconst 0, 1) := by decide +kernel
theorem dX2_restAt_143 : decode cX2_restAt 143 = .ok (.iaload, 1) := by decide +kernel
theorem dX2_restAt_144 : decode cX2_restAt 144 = .ok (.imul, 1) := by decide +kernel
theorem dX2_restAt_145 : decode cX2_restAt 145 = .ok (.iload_n 3, 1) := by decide +kernel
theorem dX2_restAt_146 : decode cX2_restAt 146 = .ok (.invokestatic 115, 3) := by decide +kernel
theorem dX2_restAt_149 : decode cX2_restAt 149 = .ok (.iastore, 1) := by decide +kernel
theorem dX2_restAt_150 : decode cX2_restAt 150 = .ok (.iinc 4 1, 3) := by decide +kernel
theorem dX2_restAt_153 : decode cX2_restAt 153 = .ok (.goto (-111), 3) := by decide +kernel
theorem dX2_restAt_156 : decode cX2_restAt 156 = .ok (.aload_n 0, 1) := by decide +kernel
theorem dX2_restAt_157 : decode cX2_restAt 157 = .ok (.getfield 27, 3) := by decide +kernel
theorem dX2_restAt_160 : decode cX2_restAt 160 = .ok (.iload_n 2, 1) := by decide +kernel
theorem dX2_restAt_161 : decode cX2_restAt 161 = .ok (.iaload, 1) := by decide +kernel
theorem dX2_restAt_162 : decode cX2_restAt 162 = .ok (.ireturn, 1) := by decide +kernel
theorem dX2_productAt_0 : decode cX2_productAt 0 = .ok (.lconst 0, 1) := by decide +kernel
theorem dX2_productAt_1 : decode cX2_productAt 1 = .ok (.lstore 4, 2) := by decide +kernel
theorem dX2_productAt_3 : decode cX2_productAt 3 = .ok (.iload_n 3, 1) := by decide +kernel
theorem dX2_productAt_4 : decode cX2_productAt 4 = .ok (.istore 6, 2) := by decide +kernel
theorem dX2_productAt_6 : decode cX2_productAt 6 = .ok (.iload 6, 2) := by decide +kernel
theorem dX2_productAt_8 : decode cX2_productAt 8 = .ok (.iload_n 2, 1) := by decide +kernel
theorem dX2_productAt_9 : decode cX2_productAt 9 = .ok (.if_icmp .gt 48, 3) := by decide +kernel
theorem dX2_productAt_12 : decode cX2_productAt 12 = .ok (.aload_n 0, 1) := by decide +kernel
theorem dX2_productAt_13 : decode cX2_productAt 13 = .ok (.iload_n 2, 1) := by decide +kernel
theorem dX2_productAt_14 : decode cX2_productAt 14 = .ok (.iload 6, 2) := by decide +kernel
theorem dX2_productAt_16 : decode cX2_productAt 16 = .ok (.invokevirtual 77, 3) := by decide +kernel
theorem dX2_productAt_19 : decode cX2_productAt 19 = .ok (.aload_n 1, 1) := by decide +kernel
theorem dX2_productAt_20 : decode cX2_productAt 20 = .ok (.iload 6, 2) := by decide +kernel
theorem dX2_productAt_22 : decode cX2_productAt 22 = .ok (.iload_n 3, 1) := by decide +kernel
theorem dX2_productAt_23 : decode cX2_productAt 23 = .ok (.invokevirtual 77, 3) := by decide +kernel
theorem dX2_productAt_26 : decode cX2_productAt 26 = .ok (.invokestatic 90, 3) := by decide +kernel
theorem dX2_productAt_29 : decode cX2_productAt 29 = .ok (.lstore 7, 2) := by decide +kernel
theorem dX2_productAt_31 : decode cX2_productAt 31 = .ok (.lload 7, 2) := by decide +kernel
theorem dX2_productAt_33 : decode cX2_productAt 33 = .ok (.ldc2_w 84, 3) := by decide +kernel
theorem dX2_productAt_36 : decode cX2_productAt 36 = .ok (.lcmp, 1) := by decide +kernel
theorem dX2_productAt_37 : decode cX2_productAt 37 = .ok (.ifCond .ne 7, 3) := by decide +kernel
theorem dX2_productAt_40 : decode cX2_productAt 40 = .ok (.ldc2_w 84, 3) := by decide +kernel
theorem dX2_productAt_43 : decode cX2_productAt 43 = .ok (.lreturn, 1) := by decide +kernel
theorem dX2_productAt_44 : decode cX2_productAt 44 = .ok (.lload 4, 2) := by decide +kernel
theorem dX2_productAt_46 : decode cX2_productAt 46 = .ok (.lload 7, 2) := by decide +kernel
theorem dX2_productAt_48 : decode cX2_productAt 48 = .ok (.ladd, 1) := by decide +kernel
theorem dX2_productAt_49 : decode cX2_productAt 49 = .ok (.lstore 4, 2) := by decide +kernel
theorem dX2_productAt_51 : decode cX2_productAt 51 = .ok (.iinc 6 1, 3) := by decide +kernel
theorem dX2_productAt_54 : decode cX2_productAt 54 = .ok (.goto (-48), 3) := by decide +kernel
theorem dX2_productAt_57 : decode cX2_productAt 57 = .ok (.lload 4, 2) := by decide +kernel
theorem dX2_productAt_59 : decode cX2_productAt 59 = .ok (.lreturn, 1) := by decide +kernel
theorem dX2_firstRowNotUndone_0 : decode cX2_firstRowNotUndone 0 = .ok (.iconst 0, 1) := by decide +kernel
theorem dX2_firstRowNotUndone_1 : decode cX2_firstRowNotUndone 1 = .ok (.istore_n 3, 1) := by decide +kernel
theorem dX2_firstRowNotUndone_2 : decode cX2_firstRowNotUndone 2 = .ok (.iload_n 3, 1) := by decide +kernel
theorem dX2_firstRowNotUndone_3 : decode cX2_firstRowNotUndone 3 = .ok (.iload_n 2, 1) := by decide +kernel
theorem dX2_firstRowNotUndone_4 : decode cX2_firstRowNotUndone 4 = .ok (.if_icmp .gt 66, 3) := by decide +kernel
theorem dX2_firstRowNotUndone_7 : decode cX2_firstRowNotUndone 7 = .ok (.iconst 0, 1) := by decide +kernel
theorem dX2_firstRowNotUndone_8 : decode cX2_firstRowNotUndone 8 = .ok (.istore 4, 2) := by decide +kernel
theorem dX2_firstRowNotUndone_10 : decode cX2_firstRowNotUndone 10 = .ok (.iload 4, 2) := by decide +kernel
theorem dX2_firstRowNotUndone_12 : decode cX2_firstRowNotUndone 12 = .ok (.iload_n 3, 1) := by decide +kernel
theorem dX2_firstRowNotUndone_13 : decode cX2_firstRowNotUndone 13 = .ok (.if_icmp .gt 51, 3) := by decide +kernel
theorem dX2_firstRowNotUndone_16 : decode cX2_firstRowNotUndone 16 = .ok (.aload_n 0, 1) := by decide +kernel
theorem dX2_firstRowNotUndone_17 : decode cX2_firstRowNotUndone 17 = .ok (.aload_n 1, 1) := by decide +kernel
theorem dX2_firstRowNotUndone_18 : decode cX2_firstRowNotUndone 18 = .ok (.iload_n 3, 1) := by decide +kernel
theorem dX2_firstRowNotUndone_19 : decode cX2_firstRowNotUndone 19 = .ok (.iload 4, 2) := by decide +kernel
theorem dX2_firstRowNotUndone_21 : decode cX2_firstRowNotUndone 21 = .ok (.invokevirtual 122, 3) := by decide +kernel
theorem dX2_firstRowNotUndone_24 : decode cX2_firstRowNotUndone 24 = .ok (.lstore 5, 2) := by decide +kernel
theorem dX2_firstRowNotUndone_26 : decode cX2_firstRowNotUndone 26 = .ok (.lload 5, 2) := by decide +kernel
theorem dX2_firstRowNotUndone_28 : decode cX2_firstRowNotUndone 28 = .ok (.ldc2_w 84, 3) := by decide +kernel
theorem dX2_firstRowNotUndone_31 : decode cX2_firstRowNotUndone 31 = .ok (.lcmp, 1) := by decide +kernel
theorem dX2_firstRowNotUndone_32 : decode cX2_firstRowNotUndone 32 = .ok (.ifCond .ne 6, 3) := by decide +kernel
theorem dX2_firstRowNotUndone_35 : decode cX2_firstRowNotUndone 35 = .ok (.bipush (-2), 2) := by decide +kernel
theorem dX2_firstRowNotUndone_37 : decode cX2_firstRowNotUndone 37 = .ok (.ireturn, 1) := by decide +kernel
theorem dX2_firstRowNotUndone_38 : decode cX2_firstRowNotUndone 38 = .ok (.lload 5, 2) := by decide +kernel
theorem dX2_firstRowNotUndone_40 : decode cX2_firstRowNotUndone 40 = .ok (.iload 4, 2) := by decide +kernel
theorem dX2_firstRowNotUndone_42 : decode cX2_firstRowNotUndone 42 = .ok (.iload_n 3, 1) := by decide +kernel
theorem dX2_firstRowNotUndone_43 : decode cX2_firstRowNotUndone 43 = .ok (.if_icmp .ne 7, 3) := by decide +kernel
theorem dX2_firstRowNotUndone_46 : decode cX2_firstRowNotUndone 46 = .ok (.iconst 1, 1) := by decide +kernel
theorem dX2_firstRowNotUndone_47 : decode cX2_firstRowNotUndone 47 = .ok (.goto 4, 3) := by decide +kernel
theorem dX2_firstRowNotUndone_50 : decode cX2_firstRowNotUndone 50 = .ok (.iconst 0, 1) := by decide +kernel
theorem dX2_firstRowNotUndone_51 : decode cX2_firstRowNotUndone 51 = .ok (.i2l, 1) := by decide +kernel
theorem dX2_firstRowNotUndone_52 : decode cX2_firstRowNotUndone 52 = .ok (.lcmp, 1) := by decide +kernel
theorem dX2_firstRowNotUndone_53 : decode cX2_firstRowNotUndone 53 = .ok (.ifCond .eq 5, 3) := by decide +kernel
theorem dX2_firstRowNotUndone_56 : decode cX2_firstRowNotUndone 56 = .ok (.iload_n 3, 1) := by decide +kernel
theorem dX2_firstRowNotUndone_57 : decode cX2_firstRowNotUndone 57 = .ok (.ireturn, 1) := by decide +kernel
theorem dX2_firstRowNotUndone_58 : decode cX2_firstRowNotUndone 58 = .ok (.iinc 4 1, 3) := by decide +kernel
theorem dX2_firstRowNotUndone_61 : decode cX2_firstRowNotUndone 61 = .ok (.goto (-51), 3) := by decide +kernel
theorem dX2_firstRowNotUndone_64 : decode cX2_firstRowNotUndone 64 = .ok (.iinc 3 1, 3) := by decide +kernel
theorem dX2_firstRowNotUndone_67 : decode cX2_firstRowNotUndone 67 = .ok (.goto (-65), 3) := by decide +kernel
theorem dX2_firstRowNotUndone_70 : decode cX2_firstRowNotUndone 70 = .ok (.bipush (-4), 2) := by decide +kernel
theorem dX2_firstRowNotUndone_72 : decode cX2_firstRowNotUndone 72 = .ok (.ireturn, 1) := by decide +kernel
theorem dX2_inverseAt_0 : decode cX2_inverseAt 0 = .ok (.iload_n 1, 1) := by decide +kernel
theorem dX2_inverseAt_1 : decode cX2_inverseAt 1 = .ok (.iload_n 2, 1) := by decide +kernel
theorem dX2_inverseAt_2 : decode cX2_inverseAt 2 = .ok (.bipush 24, 2) := by decide +kernel
theorem dX2_inverseAt_4 : decode cX2_inverseAt 4 = .ok (.invokestatic 105, 3) := by decide +kernel
theorem dX2_inverseAt_7 : decode cX2_inverseAt 7 = .ok (.ifCond .eq 11, 3) := by decide +kernel
theorem dX2_inverseAt_10 : decode cX2_inverseAt 10 = .ok (.aload_n 0, 1) := by decide +kernel
theorem dX2_inverseAt_11 : decode cX2_inverseAt 11 = .ok (.iload_n 1, 1) := by decide +kernel
theorem dX2_inverseAt_12 : decode cX2_inverseAt 12 = .ok (.invokevirtual 126, 3) := by decide +kernel
theorem dX2_inverseAt_15 : decode cX2_inverseAt 15 = .ok (.ifCond .ne 7, 3) := by decide +kernel
theorem dX2_inverseAt_18 : decode cX2_inverseAt 18 = .ok (.ldc2_w 84, 3) := by decide +kernel
theorem dX2_inverseAt_21 : decode cX2_inverseAt 21 = .ok (.lreturn, 1) := by decide +kernel
theorem dX2_inverseAt_22 : decode cX2_inverseAt 22 = .ok (.aload_n 0, 1) := by decide +kernel
theorem dX2_inverseAt_23 : decode cX2_inverseAt 23 = .ok (.getfield 24, 3) := by decide +kernel
theorem dX2_inverseAt_26 : decode cX2_inverseAt 26 = .ok (.iload_n 2, 1) := by decide +kernel
theorem dX2_inverseAt_27 : decode cX2_inverseAt 27 = .ok (.aload_n 0, 1) := by decide +kernel
theorem dX2_inverseAt_28 : decode cX2_inverseAt 28 = .ok (.iload_n 2, 1) := by decide +kernel
theorem dX2_inverseAt_29 : decode cX2_inverseAt 29 = .ok (.iload_n 2, 1) := by decide +kernel
theorem dX2_inverseAt_30 : decode cX2_inverseAt 30 = .ok (.invokevirtual 77, 3) := by decide +kernel
theorem dX2_inverseAt_33 : decode cX2_inverseAt 33 = .ok (.lastore, 1) := by decide +kernel
theorem dX2_inverseAt_34 : decode cX2_inverseAt 34 = .ok (.iload_n 2, 1) := by decide +kernel
theorem dX2_inverseAt_35 : decode cX2_inverseAt 35 = .ok (.iconst 1, 1) := by decide +kernel
theorem dX2_inverseAt_36 : decode cX2_inverseAt 36 = .ok (.iadd, 1) := by decide +kernel
theorem dX2_inverseAt_37 : decode cX2_inverseAt 37 = .ok (.istore_n 3, 1) := by decide +kernel
theorem dX2_inverseAt_38 : decode cX2_inverseAt 38 = .ok (.iload_n 3, 1) := by decide +kernel
theorem dX2_inverseAt_39 : decode cX2_inverseAt 39 = .ok (.iload_n 1, 1) := by decide +kernel
theorem dX2_inverseAt_40 : decode cX2_inverseAt 40 = .ok (.if_icmp .gt 46, 3) := by decide +kernel
theorem dX2_inverseAt_43 : decode cX2_inverseAt 43 = .ok (.aload_n 0, 1) := by decide +kernel
theorem dX2_inverseAt_44 : decode cX2_inverseAt 44 = .ok (.iload_n 3, 1) := by decide +kernel
theorem dX2_inverseAt_45 : decode cX2_inverseAt 45 = .ok (.iload_n 2, 1) := by decide +kernel
theorem dX2_inverseAt_46 : decode cX2_inverseAt 46 = .ok (.invokevirtual 130, 3) := by decide +kernel
theorem dX2_inverseAt_49 : decode cX2_inverseAt 49 = .ok (.lstore 4, 2) := by decide +kernel
theorem dX2_inverseAt_51 : decode cX2_inverseAt 51 = .ok (.lload 4, 2) := by decide +kernel
theorem dX2_inverseAt_53 : decode cX2_inverseAt 53 = .ok (.ldc2_w 84, 3) := by decide +kernel
theorem dX2_inverseAt_56 : decode cX2_inverseAt 56 = .ok (.lcmp, 1) := by decide +kernel
theorem dX2_inverseAt_57 : decode cX2_inverseAt 57 = .ok (.ifCond .ne 7, 3) := by decide +kernel
theorem dX2_inverseAt_60 : decode cX2_inverseAt 60 = .ok (.ldc2_w 84, 3) := by decide +kernel
theorem dX2_inverseAt_63 : decode cX2_inverseAt 63 = .ok (.lreturn, 1) := by decide +kernel
theorem dX2_inverseAt_64 : decode cX2_inverseAt 64 = .ok (.aload_n 0, 1) := by decide +kernel
theorem dX2_inverseAt_65 : decode cX2_inverseAt 65 = .ok (.getfield 24, 3) := by decide +kernel
theorem dX2_inverseAt_68 : decode cX2_inverseAt 68 = .ok (.iload_n 3, 1) := by decide +kernel
theorem dX2_inverseAt_69 : decode cX2_inverseAt 69 = .ok (.aload_n 0, 1) := by decide +kernel
theorem dX2_inverseAt_70 : decode cX2_inverseAt 70 = .ok (.iload_n 3, 1) := by decide +kernel
theorem dX2_inverseAt_71 : decode cX2_inverseAt 71 = .ok (.iload_n 3, 1) := by decide +kernel
theorem dX2_inverseAt_72 : decode cX2_inverseAt 72 = .ok (.invokevirtual 77, 3) := by decide +kernel
theorem dX2_inverseAt_75 : decode cX2_inverseAt 75 = .ok (.lneg, 1) := by decide +kernel
theorem dX2_inverseAt_76 : decode cX2_inverseAt 76 = .ok (.lload 4, 2) := by decide +kernel
theorem dX2_inverseAt_78 : decode cX2_inverseAt 78 = .ok (.lmul, 1) := by decide +kernel
theorem dX2_inverseAt_79 : decode cX2_inverseAt 79 = .ok (.lastore, 1) := by decide +kernel
theorem dX2_inverseAt_80 : decode cX2_inverseAt 80 = .ok (.iinc 3 1, 3) := by decide +kernel
theorem dX2_inverseAt_83 : decode cX2_inverseAt 83 = .ok (.goto (-45), 3) := by decide +kernel
theorem dX2_inverseAt_86 : decode cX2_inverseAt 86 = .ok (.aload_n 0, 1) := by decide +kernel
theorem dX2_inverseAt_87 : decode cX2_inverseAt 87 = .ok (.getfield 24, 3) := by decide +kernel
theorem dX2_inverseAt_90 : decode cX2_inverseAt 90 = .ok (.iload_n 1, 1) := by decide +kernel
theorem dX2_inverseAt_91 : decode cX2_inverseAt 91 = .ok (.laload, 1) := by decide +kernel
theorem dX2_inverseAt_92 : decode cX2_inverseAt 92 = .ok (.lreturn, 1) := by decide +kernel
theorem dX2_columnSum_0 : decode cX2_columnSum 0 = .ok (.lconst 0, 1) := by decide +kernel
theorem dX2_columnSum_1 : decode cX2_columnSum 1 = .ok (.lstore_n 3, 1) := by decide +kernel
theorem dX2_columnSum_2 : decode cX2_columnSum 2 = .ok (.iload_n 2, 1) := by decide +kernel
theorem dX2_columnSum_3 : decode cX2_columnSum 3 = .ok (.istore 5, 2) := by decide +kernel
theorem dX2_columnSum_5 : decode cX2_columnSum 5 = .ok (.iload 5, 2) := by decide +kernel
theorem dX2_columnSum_7 : decode cX2_columnSum 7 = .ok (.iload_n 1, 1) := by decide +kernel
theorem dX2_columnSum_8 : decode cX2_columnSum 8 = .ok (.if_icmp .ge 53, 3) := by decide +kernel
theorem dX2_columnSum_11 : decode cX2_columnSum 11 = .ok (.iload 5, 2) := by decide +kernel
theorem dX2_columnSum_13 : decode cX2_columnSum 13 = .ok (.bipush 24, 2) := by decide +kernel
theorem dX2_columnSum_15 : decode cX2_columnSum 15 = .ok (.if_icmp .gt 46, 3) := by decide +kernel
theorem dX2_columnSum_18 : decode cX2_columnSum 18 = .ok (.aload_n 0, 1) := by decide +kernel
theorem dX2_columnSum_19 : decode cX2_columnSum 19 = .ok (.iload_n 1, 1) := by decide +kernel
theorem dX2_columnSum_20 : decode cX2_columnSum 20 = .ok (.iload 5, 2) := by decide +kernel
theorem dX2_columnSum_22 : decode cX2_columnSum 22 = .ok (.invokevirtual 77, 3) := by decide +kernel
theorem dX2_columnSum_25 : decode cX2_columnSum 25 = .ok (.aload_n 0, 1) := by decide +kernel
theorem dX2_columnSum_26 : decode cX2_columnSum 26 = .ok (.getfield 24, 3) := by decide +kernel
theorem dX2_columnSum_29 : decode cX2_columnSum 29 = .ok (.iload 5, 2) := by decide +kernel
theorem dX2_columnSum_31 : decode cX2_columnSum 31 = .ok (.laload, 1) := by decide +kernel
theorem dX2_columnSum_32 : decode cX2_columnSum 32 = .ok (.invokestatic 90, 3) := by decide +kernel
theorem dX2_columnSum_35 : decode cX2_columnSum 35 = .ok (.lstore 6, 2) := by decide +kernel
theorem dX2_columnSum_37 : decode cX2_columnSum 37 = .ok (.lload 6, 2) := by decide +kernel
theorem dX2_columnSum_39 : decode cX2_columnSum 39 = .ok (.ldc2_w 84, 3) := by decide +kernel
theorem dX2_columnSum_42 : decode cX2_columnSum 42 = .ok (.lcmp, 1) := by decide +kernel
theorem dX2_columnSum_43 : decode cX2_columnSum 43 = .ok (.ifCond .ne 7, 3) := by decide +kernel
theorem dX2_columnSum_46 : decode cX2_columnSum 46 = .ok (.ldc2_w 84, 3) := by decide +kernel
theorem dX2_columnSum_49 : decode cX2_columnSum 49 = .ok (.lreturn, 1) := by decide +kernel
theorem dX2_columnSum_50 : decode cX2_columnSum 50 = .ok (.lload_n 3, 1) := by decide +kernel
theorem dX2_columnSum_51 : decode cX2_columnSum 51 = .ok (.lload 6, 2) := by decide +kernel
theorem dX2_columnSum_53 : decode cX2_columnSum 53 = .ok (.ladd, 1) := by decide +kernel
theorem dX2_columnSum_54 : decode cX2_columnSum 54 = .ok (.lstore_n 3, 1) := by decide +kernel
theorem dX2_columnSum_55 : decode cX2_columnSum 55 = .ok (.iinc 5 1, 3) := by decide +kernel
theorem dX2_columnSum_58 : decode cX2_columnSum 58 = .ok (.goto (-53), 3) := by decide +kernel
theorem dX2_columnSum_61 : decode cX2_columnSum 61 = .ok (.lload_n 3, 1) := by decide +kernel
theorem dX2_columnSum_62 : decode cX2_columnSum 62 = .ok (.invokestatic 86, 3) := by decide +kernel
theorem dX2_columnSum_65 : decode cX2_columnSum 65 = .ok (.lreturn, 1) := by decide +kernel
theorem dX2_endsInOnes_0 : decode cX2_endsInOnes 0 = .ok (.iconst 0, 1) := by decide +kernel
theorem dX2_endsInOnes_1 : decode cX2_endsInOnes 1 = .ok (.istore_n 2, 1) := by decide +kernel
theorem dX2_endsInOnes_2 : decode cX2_endsInOnes 2 = .ok (.iload_n 2, 1) := by decide +kernel
theorem dX2_endsInOnes_3 : decode cX2_endsInOnes 3 = .ok (.iload_n 1, 1) := by decide +kernel
theorem dX2_endsInOnes_4 : decode cX2_endsInOnes 4 = .ok (.if_icmp .gt 35, 3) := by decide +kernel
theorem dX2_endsInOnes_7 : decode cX2_endsInOnes 7 = .ok (.aload_n 0, 1) := by decide +kernel
theorem dX2_endsInOnes_8 : decode cX2_endsInOnes 8 = .ok (.iload_n 2, 1) := by decide +kernel
theorem dX2_endsInOnes_9 : decode cX2_endsInOnes 9 = .ok (.iload_n 2, 1) := by decide +kernel
theorem dX2_endsInOnes_10 : decode cX2_endsInOnes 10 = .ok (.invokevirtual 77, 3) := by decide +kernel
theorem dX2_endsInOnes_13 : decode cX2_endsInOnes 13 = .ok (.lconst 1, 1) := by decide +kernel
theorem dX2_endsInOnes_14 : decode cX2_endsInOnes 14 = .ok (.lcmp, 1) := by decide +kernel
theorem dX2_endsInOnes_15 : decode cX2_endsInOnes 15 = .ok (.ifCond .eq 18, 3) := by decide +kernel
theorem dX2_endsInOnes_18 : decode cX2_endsInOnes 18 = .ok (.aload_n 0, 1) := by decide +kernel
theorem dX2_endsInOnes_19 : decode cX2_endsInOnes 19 = .ok (.iload_n 2, 1) := by decide +kernel
theorem dX2_endsInOnes_20 : decode cX2_endsInOnes 20 = .ok (.iload_n 2, 1) := by decide +kernel
theorem dX2_endsInOnes_21 : decode cX2_endsInOnes 21 = .ok (.invokevirtual 77, 3) := by decide +kernel
theorem dX2_endsInOnes_24 : decode cX2_endsInOnes 24 = .ok (.ldc2_w 133, 3) := by decide +kernel
theorem dX2_endsInOnes_27 : decode cX2_endsInOnes 27 = .ok (.lcmp, 1) := by decide +kernel
theorem dX2_endsInOnes_28 : decode cX2_endsInOnes 28 = .ok (.ifCond .eq 5, 3) := by decide +kernel
theorem dX2_endsInOnes_31 : decode cX2_endsInOnes 31 = .ok (.iconst 0, 1) := by decide +kernel
theorem dX2_endsInOnes_32 : decode cX2_endsInOnes 32 = .ok (.ireturn, 1) := by decide +kernel
theorem dX2_endsInOnes_33 : decode cX2_endsInOnes 33 = .ok (.iinc 2 1, 3) := by decide +kernel
theorem dX2_endsInOnes_36 : decode cX2_endsInOnes 36 = .ok (.goto (-34), 3) := by decide +kernel
theorem dX2_endsInOnes_39 : decode cX2_endsInOnes 39 = .ok (.iconst 1, 1) := by decide +kernel
theorem dX2_endsInOnes_40 : decode cX2_endsInOnes 40 = .ok (.ireturn, 1) := by decide +kernel
theorem dX3_init_0 : decode cX3_init 0 = .ok (.aload_n 0, 1) := by decide +kernel
theorem dX3_init_1 : decode cX3_init 1 = .ok (.invokespecial 3, 3) := by decide +kernel
theorem dX3_init_4 : decode cX3_init 4 = .ok (.aload_n 0, 1) := by decide +kernel
theorem dX3_init_5 : decode cX3_init 5 = .ok (.sipush 261, 3) := by decide +kernel
theorem dX3_init_8 : decode cX3_init 8 = .ok (.newarray .int, 2) := by decide +kernel
theorem dX3_init_10 : decode cX3_init 10 = .ok (.putfield 9, 3) := by decide +kernel
theorem dX3_init_13 : decode cX3_init 13 = .ok (.aload_n 0, 1) := by decide +kernel
theorem dX3_init_14 : decode cX3_init 14 = .ok (.getfield 9, 3) := by decide +kernel
theorem dX3_init_17 : decode cX3_init 17 = .ok (.iconst 0, 1) := by decide +kernel
theorem dX3_init_18 : decode cX3_init 18 = .ok (.iconst 1, 1) := by decide +kernel
theorem dX3_init_19 : decode cX3_init 19 = .ok (.iastore, 1) := by decide +kernel
theorem dX3_init_20 : decode cX3_init 20 = .ok (.iconst 1, 1) := by decide +kernel
theorem dX3_init_21 : decode cX3_init 21 = .ok (.istore_n 1, 1) := by decide +kernel
theorem dX3_init_22 : decode cX3_init 22 = .ok (.iload_n 1, 1) := by decide +kernel
theorem dX3_init_23 : decode cX3_init 23 = .ok (.bipush 9, 2) := by decide +kernel
theorem dX3_init_25 : decode cX3_init 25 = .ok (.if_icmp .ge 40, 3) := by decide +kernel
theorem dX3_init_28 : decode cX3_init 28 = .ok (.iconst 0, 1) := by decide +kernel
theorem dX3_init_29 : decode cX3_init 29 = .ok (.istore_n 2, 1) := by decide +kernel
theorem dX3_init_30 : decode cX3_init 30 = .ok (.iload_n 2, 1) := by decide +kernel
theorem dX3_init_31 : decode cX3_init 31 = .ok (.bipush 28, 2) := by decide +kernel
theorem dX3_init_33 : decode cX3_init 33 = .ok (.if_icmp .gt 26, 3) := by decide +kernel
theorem dX3_init_36 : decode cX3_init 36 = .ok (.aload_n 0, 1) := by decide +kernel
theorem dX3_init_37 : decode cX3_init 37 = .ok (.getfield 9, 3) := by decide +kernel
theorem dX3_init_40 : decode cX3_init 40 = .ok (.iload_n 1, 1) := by decide +kernel
theorem dX3_init_41 : decode cX3_init 41 = .ok (.bipush 29, 2) := by decide +kernel
theorem dX3_init_43 : decode cX3_init 43 = .ok (.imul, 1) := by decide +kernel
theorem dX3_init_44 : decode cX3_init 44 = .ok (.iload_n 2, 1) := by decide +kernel
theorem dX3_init_45 : decode cX3_init 45 = .ok (.iadd, 1) := by decide +kernel
theorem dX3_init_46 : decode cX3_init 46 = .ok (.aload_n 0, 1) := by decide +kernel
theorem dX3_init_47 : decode cX3_init 47 = .ok (.iload_n 1, 1) := by decide +kernel
theorem dX3_init_48 : decode cX3_init 48 = .ok (.iload_n 2, 1) := by decide +kernel
theorem dX3_init_49 : decode cX3_init 49 = .ok (.invokevirtual 15, 3) := by decide +kernel
theorem dX3_init_52 : decode cX3_init 52 = .ok (.iastore, 1) := by decide +kernel
theorem dX3_init_53 : decode cX3_init 53 = .ok (.iinc 2 1, 3) := by decide +kernel
theorem dX3_init_56 : decode cX3_init 56 = .ok (.goto (-26), 3) := by decide +kernel
theorem dX3_init_59 : decode cX3_init 59 = .ok (.iinc 1 1, 3) := by decide +kernel
theorem dX3_init_62 : decode cX3_init 62 = .ok (.goto (-40), 3) := by decide +kernel
theorem dX3_init_65 : decode cX3_init 65 = .ok (.return_, 1) := by decide +kernel
theorem dX3_waysByNext_0 : decode cX3_waysByNext 0 = .ok (.iconst 0, 1) := by decide +kernel
theorem dX3_waysByNext_1 : decode cX3_waysByNext 1 = .ok (.istore_n 3, 1) := by decide +kernel
theorem dX3_waysByNext_2 : decode cX3_waysByNext 2 = .ok (.iconst 0, 1) := by decide +kernel
theorem dX3_waysByNext_3 : decode cX3_waysByNext 3 = .ok (.istore 4, 2) := by decide +kernel
theorem dX3_waysByNext_5 : decode cX3_waysByNext 5 = .ok (.iload 4, 2) := by decide +kernel
theorem dX3_waysByNext_7 : decode cX3_waysByNext 7 = .ok (.iload_n 1, 1) := by decide +kernel
theorem dX3_waysByNext_8 : decode cX3_waysByNext 8 = .ok (.if_icmp .ge 24, 3) := by decide +kernel
theorem dX3_waysByNext_11 : decode cX3_waysByNext 11 = .ok (.iload_n 3, 1) := by decide +kernel
theorem dX3_waysByNext_12 : decode cX3_waysByNext 12 = .ok (.aload_n 0, 1) := by decide +kernel
theorem dX3_waysByNext_13 : decode cX3_waysByNext 13 = .ok (.iconst 0, 1) := by decide +kernel
theorem dX3_waysByNext_14 : decode cX3_waysByNext 14 = .ok (.iload_n 1, 1) := by decide +kernel
theorem dX3_waysByNext_15 : decode cX3_waysByNext 15 = .ok (.iconst 1, 1) := by decide +kernel
theorem dX3_waysByNext_16 : decode cX3_waysByNext 16 = .ok (.isub, 1) := by decide +kernel
theorem dX3_waysByNext_17 : decode cX3_waysByNext 17 = .ok (.iload_n 2, 1) := by decide +kernel
theorem dX3_waysByNext_18 : decode cX3_waysByNext 18 = .ok (.iload 4, 2) := by decide +kernel
theorem dX3_waysByNext_20 : decode cX3_waysByNext 20 = .ok (.isub, 1) := by decide +kernel
theorem dX3_waysByNext_21 : decode cX3_waysByNext 21 = .ok (.invokevirtual 19, 3) := by decide +kernel
theorem dX3_waysByNext_24 : decode cX3_waysByNext 24 = .ok (.iadd, 1) := by decide +kernel
theorem dX3_waysByNext_25 : decode cX3_waysByNext 25 = .ok (.istore_n 3, 1) := by decide +kernel
theorem dX3_waysByNext_26 : decode cX3_waysByNext 26 = .ok (.iinc 4 1, 3) := by decide +kernel
theorem dX3_waysByNext_29 : decode cX3_waysByNext 29 = .ok (.goto (-24), 3) := by decide +kernel
theorem dX3_waysByNext_32 : decode cX3_waysByNext 32 = .ok (.iload_n 3, 1) := by decide +kernel
theorem dX3_waysByNext_33 : decode cX3_waysByNext 33 = .ok (.ireturn, 1) := by decide +kernel
theorem dX3_start_0 : decode cX3_start 0 = .ok (.iconst 0, 1) := by decide +kernel
theorem dX3_start_1 : decode cX3_start 1 = .ok (.ireturn, 1) := by decide +kernel
theorem dX3_growth_0 : decode cX3_growth 0 = .ok (.iload_n 3, 1) := by decide +kernel
theorem dX3_growth_1 : decode cX3_growth 1 = .ok (.ireturn, 1) := by decide +kernel
theorem dX3_next_0 : decode cX3_next 0 = .ok (.iconst 0, 1) := by decide +kernel
theorem dX3_next_1 : decode cX3_next 1 = .ok (.ireturn, 1) := by decide +kernel
theorem dX3_ways_0 : decode cX3_ways 0 = .ok (.iload_n 2, 1) := by decide +kernel
theorem dX3_ways_1 : decode cX3_ways 1 = .ok (.iconst 0, 1) := by decide +kernel
theorem dX3_ways_2 : decode cX3_ways 2 = .ok (.bipush 8, 2) := by decide +kernel
theorem dX3_ways_4 : decode cX3_ways 4 = .ok (.invokestatic 23, 3) := by decide +kernel
theorem dX3_ways_7 : decode cX3_ways 7 = .ok (.ifCond .eq 13, 3) := by decide +kernel
theorem dX3_ways_10 : decode cX3_ways 10 = .ok (.iload_n 3, 1) := by decide +kernel
theorem dX3_ways_11 : decode cX3_ways 11 = .ok (.iconst 0, 1) := by decide +kernel
theorem dX3_ways_12 : decode cX3_ways 12 = .ok (.bipush 28, 2) := by decide +kernel
theorem dX3_ways_14 : decode cX3_ways 14 = .ok (.invokestatic 23, 3) := by decide +kernel
theorem dX3_ways_17 : decode cX3_ways 17 = .ok (.ifCond .ne 5, 3) := by decide +kernel
theorem dX3_ways_20 : decode cX3_ways 20 = .ok (.iconst 0, 1) := by decide +kernel
theorem dX3_ways_21 : decode cX3_ways 21 = .ok (.ireturn, 1) := by decide +kernel
theorem dX3_ways_22 : decode cX3_ways 22 = .ok (.aload_n 0, 1) := by decide +kernel
theorem dX3_ways_23 : decode cX3_ways 23 = .ok (.getfield 9, 3) := by decide +kernel
theorem dX3_ways_26 : decode cX3_ways 26 = .ok (.iload_n 2, 1) := by decide +kernel
theorem dX3_ways_27 : decode cX3_ways 27 = .ok (.bipush 29, 2) := by decide +kernel
theorem dX3_ways_29 : decode cX3_ways 29 = .ok (.imul, 1) := by decide +kernel
theorem dX3_ways_30 : decode cX3_ways 30 = .ok (.iload_n 3, 1) := by decide +kernel
theorem dX3_ways_31 : decode cX3_ways 31 = .ok (.iadd, 1) := by decide +kernel
theorem dX3_ways_32 : decode cX3_ways 32 = .ok (.iaload, 1) := by decide +kernel
theorem dX3_ways_33 : decode cX3_ways 33 = .ok (.ireturn, 1) := by decide +kernel
theorem dX4_init_0 : decode cX4_init 0 = .ok (.aload_n 0, 1) := by decide +kernel
theorem dX4_init_1 : decode cX4_init 1 = .ok (.invokespecial 3, 3) := by decide +kernel
theorem dX4_init_4 : decode cX4_init 4 = .ok (.aload_n 0, 1) := by decide +kernel
theorem dX4_init_5 : decode cX4_init 5 = .ok (.sipush 512, 3) := by decide +kernel
theorem dX4_init_8 : decode cX4_init 8 = .ok (.newarray .int, 2) := by decide +kernel
theorem dX4_init_10 : decode cX4_init 10 = .ok (.putfield 11, 3) := by decide +kernel
theorem dX4_init_13 : decode cX4_init 13 = .ok (.aload_n 0, 1) := by decide +kernel
theorem dX4_init_14 : decode cX4_init 14 = .ok (.iconst 0, 1) := by decide +kernel
theorem dX4_init_15 : decode cX4_init 15 = .ok (.putfield 15, 3) := by decide +kernel
theorem dX4_init_18 : decode cX4_init 18 = .ok (.return_, 1) := by decide +kernel
theorem dX4_start_0 : decode cX4_start 0 = .ok (.iconst 1, 1) := by decide +kernel
theorem dX4_start_1 : decode cX4_start 1 = .ok (.iload_n 1, 1) := by decide +kernel
theorem dX4_start_2 : decode cX4_start 2 = .ok (.ishl, 1) := by decide +kernel
theorem dX4_start_3 : decode cX4_start 3 = .ok (.ireturn, 1) := by decide +kernel
theorem dX4_growth_0 : decode cX4_growth 0 = .ok (.aload_n 0, 1) := by decide +kernel
theorem dX4_growth_1 : decode cX4_growth 1 = .ok (.iload_n 1, 1) := by decide +kernel
theorem dX4_growth_2 : decode cX4_growth 2 = .ok (.iload_n 2, 1) := by decide +kernel
theorem dX4_growth_3 : decode cX4_growth 3 = .ok (.iload_n 3, 1) := by decide +kernel
theorem dX4_growth_4 : decode cX4_growth 4 = .ok (.invokevirtual 19, 3) := by decide +kernel
theorem dX4_growth_7 : decode cX4_growth 7 = .ok (.invokestatic 23, 3) := by decide +kernel
theorem dX4_growth_10 : decode cX4_growth 10 = .ok (.iload_n 1, 1) := by decide +kernel
theorem dX4_growth_11 : decode cX4_growth 11 = .ok (.invokestatic 23, 3) := by decide +kernel
theorem dX4_growth_14 : decode cX4_growth 14 = .ok (.isub, 1) := by decide +kernel
theorem dX4_growth_15 : decode cX4_growth 15 = .ok (.ireturn, 1) := by decide +kernel
theorem dX4_next_0 : decode cX4_next 0 = .ok (.iconst 0, 1) := by decide +kernel
theorem dX4_next_1 : decode cX4_next 1 = .ok (.istore 4, 2) := by decide +kernel
theorem dX4_next_3 : decode cX4_next 3 = .ok (.iconst 0, 1) := by decide +kernel
theorem dX4_next_4 : decode cX4_next 4 = .ok (.istore 5, 2) := by decide +kernel
theorem dX4_next_6 : decode cX4_next 6 = .ok (.iload 5, 2) := by decide +kernel
theorem dX4_next_8 : decode cX4_next 8 = .ok (.bipush 8, 2) := by decide +kernel
theorem dX4_next_10 : decode cX4_next 10 = .ok (.if_icmp .ge 36, 3) := by decide +kernel
theorem dX4_next_13 : decode cX4_next 13 = .ok (.iload_n 1, 1) := by decide +kernel
theorem dX4_next_14 : decode cX4_next 14 = .ok (.iload 5, 2) := by decide +kernel
theorem dX4_next_16 : decode cX4_next 16 = .ok (.iushr, 1) := by decide +kernel
theorem dX4_next_17 : decode cX4_next 17 = .ok (.iconst 1, 1) := by decide +kernel
theorem dX4_next_18 : decode cX4_next 18 = .ok (.iand, 1) := by decide +kernel
theorem dX4_next_19 : decode cX4_next 19 = .ok (.ifCond .ne 21, 3) := by decide +kernel
theorem dX4_next_22 : decode cX4_next 22 = .ok (.iload 4, 2) := by decide +kernel
theorem dX4_next_24 : decode cX4_next 24 = .ok (.iload_n 3, 1) := by decide +kernel
theorem dX4_next_25 : decode cX4_next 25 = .ok (.if_icmp .ne 12, 3) := by decide +kernel
theorem dX4_next_28 : decode cX4_next 28 = .ok (.iload_n 1, 1) := by decide +kernel
theorem dX4_next_29 : decode cX4_next 29 = .ok (.iconst 1, 1) := by decide +kernel
theorem dX4_next_30 : decode cX4_next 30 = .ok (.iload 5, 2) := by decide +kernel
theorem dX4_next_32 : decode cX4_next 32 = .ok (.ishl, 1) := by decide +kernel
theorem dX4_next_33 : decode cX4_next 33 = .ok (.invokestatic 29, 3) := by decide +kernel
theorem dX4_next_36 : decode cX4_next 36 = .ok (.ireturn, 1) := by decide +kernel
theorem dX4_next_37 : decode cX4_next 37 = .ok (.iinc 4 1, 3) := by decide +kernel
theorem dX4_next_40 : decode cX4_next 40 = .ok (.iinc 5 1, 3) := by decide +kernel
theorem dX4_next_43 : decode cX4_next 43 = .ok (.goto (-37), 3) := by decide +kernel
theorem dX4_next_46 : decode cX4_next 46 = .ok (.iload_n 1, 1) := by decide +kernel
theorem dX4_next_47 : decode cX4_next 47 = .ok (.ireturn, 1) := by decide +kernel
theorem dX4_withEnd_0 : decode cX4_withEnd 0 = .ok (.iload_n 0, 1) := by decide +kernel
theorem dX4_withEnd_1 : decode cX4_withEnd 1 = .ok (.iload_n 1, 1) := by decide +kernel
theorem dX4_withEnd_2 : decode cX4_withEnd 2 = .ok (.ior, 1) := by decide +kernel
theorem dX4_withEnd_3 : decode cX4_withEnd 3 = .ok (.istore_n 2, 1) := by decide +kernel
theorem dX4_withEnd_4 : decode cX4_withEnd 4 = .ok (.iload_n 0, 1) := by decide +kernel
theorem dX4_withEnd_5 : decode cX4_withEnd 5 = .ok (.iload_n 1, 1) := by decide +kernel
theorem dX4_withEnd_6 : decode cX4_withEnd 6 = .ok (.iconst 1, 1) := by decide +kernel
theorem dX4_withEnd_7 : decode cX4_withEnd 7 = .ok (.ishl, 1) := by decide +kernel
theorem dX4_withEnd_8 : decode cX4_withEnd 8 = .ok (.ineg, 1) := by decide +kernel
theorem dX4_withEnd_9 : decode cX4_withEnd 9 = .ok (.iand, 1) := by decide +kernel
theorem dX4_withEnd_10 : decode cX4_withEnd 10 = .ok (.istore_n 3, 1) := by decide +kernel
theorem dX4_withEnd_11 : decode cX4_withEnd 11 = .ok (.iload_n 3, 1) := by decide +kernel
theorem dX4_withEnd_12 : decode cX4_withEnd 12 = .ok (.iload_n 3, 1) := by decide +kernel
theorem dX4_withEnd_13 : decode cX4_withEnd 13 = .ok (.ineg, 1) := by decide +kernel
theorem dX4_withEnd_14 : decode cX4_withEnd 14 = .ok (.iand, 1) := by decide +kernel
theorem dX4_withEnd_15 : decode cX4_withEnd 15 = .ok (.istore 4, 2) := by decide +kernel
theorem dX4_withEnd_17 : decode cX4_withEnd 17 = .ok (.iload 4, 2) := by decide +kernel
theorem dX4_withEnd_19 : decode cX4_withEnd 19 = .ok (.iload_n 0, 1) := by decide +kernel
theorem dX4_withEnd_20 : decode cX4_withEnd 20 = .ok (.iconst 1, 1) := by decide +kernel
theorem dX4_withEnd_21 : decode cX4_withEnd 21 = .ok (.iushr, 1) := by decide +kernel
theorem dX4_withEnd_22 : decode cX4_withEnd 22 = .ok (.if_icmp .le 5, 3) := by decide +kernel
theorem dX4_withEnd_25 : decode cX4_withEnd 25 = .ok (.iload_n 2, 1) := by decide +kernel
theorem dX4_withEnd_26 : decode cX4_withEnd 26 = .ok (.ireturn, 1) := by decide +kernel
theorem dX4_withEnd_27 : decode cX4_withEnd 27 = .ok (.iload_n 2, 1) := by decide +kernel
theorem dX4_withEnd_28 : decode cX4_withEnd 28 = .ok (.iconst 1, 1) := by decide +kernel
theorem dX4_withEnd_29 : decode cX4_withEnd 29 = .ok (.iushr, 1) := by decide +kernel
theorem dX4_withEnd_30 : decode cX4_withEnd 30 = .ok (.iload 4, 2) := by decide +kernel
theorem dX4_withEnd_32 : decode cX4_withEnd 32 = .ok (.ineg, 1) := by decide +kernel
theorem dX4_withEnd_33 : decode cX4_withEnd 33 = .ok (.iand, 1) := by decide +kernel
theorem dX4_withEnd_34 : decode cX4_withEnd 34 = .ok (.iload_n 2, 1) := by decide +kernel
theorem dX4_withEnd_35 : decode cX4_withEnd 35 = .ok (.iload 4, 2) := by decide +kernel
theorem dX4_withEnd_37 : decode cX4_withEnd 37 = .ok (.iconst 1, 1) := by decide +kernel
theorem dX4_withEnd_38 : decode cX4_withEnd 38 = .ok (.isub, 1) := by decide +kernel
theorem dX4_withEnd_39 : decode cX4_withEnd 39 = .ok (.iand, 1) := by decide +kernel
theorem dX4_withEnd_40 : decode cX4_withEnd 40 = .ok (.ior, 1) := by decide +kernel
theorem dX4_withEnd_41 : decode cX4_withEnd 41 = .ok (.ireturn, 1) := by decide +kernel
theorem dX4_ways_0 : decode cX4_ways 0 = .ok (.iload_n 1, 1) := by decide +kernel
theorem dX4_ways_1 : decode cX4_ways 1 = .ok (.invokestatic 23, 3) := by decide +kernel
theorem dX4_ways_4 : decode cX4_ways 4 = .ok (.iconst 1, 1) := by decide +kernel
theorem dX4_ways_5 : decode cX4_ways 5 = .ok (.isub, 1) := by decide +kernel
theorem dX4_ways_6 : decode cX4_ways 6 = .ok (.iload_n 3, 1) := by decide +kernel
theorem dX4_ways_7 : decode cX4_ways 7 = .ok (.iadd, 1) := by decide +kernel
theorem dX4_ways_8 : decode cX4_ways 8 = .ok (.istore 4, 2) := by decide +kernel
theorem dX4_ways_10 : decode cX4_ways 10 = .ok (.iload_n 1, 1) := by decide +kernel
theorem dX4_ways_11 : decode cX4_ways 11 = .ok (.iconst 1, 1) := by decide +kernel
theorem dX4_ways_12 : decode cX4_ways 12 = .ok (.sipush 511, 3) := by decide +kernel
theorem dX4_ways_15 : decode cX4_ways 15 = .ok (.invokestatic 33, 3) := by decide +kernel
theorem dX4_ways_18 : decode cX4_ways 18 = .ok (.ifCond .eq 18, 3) := by decide +kernel
theorem dX4_ways_21 : decode cX4_ways 21 = .ok (.iload 4, 2) := by decide +kernel
theorem dX4_ways_23 : decode cX4_ways 23 = .ok (.iconst 1, 1) := by decide +kernel
theorem dX4_ways_24 : decode cX4_ways 24 = .ok (.bipush 8, 2) := by decide +kernel
theorem dX4_ways_26 : decode cX4_ways 26 = .ok (.invokestatic 33, 3) := by decide +kernel
theorem dX4_ways_29 : decode cX4_ways 29 = .ok (.ifCond .eq 7, 3) := by decide +kernel
theorem dX4_ways_32 : decode cX4_ways 32 = .ok (.iload_n 3, 1) := by decide +kernel
theorem dX4_ways_33 : decode cX4_ways 33 = .ok (.ifCond .ge 5, 3) := by decide +kernel
theorem dX4_ways_36 : decode cX4_ways 36 = .ok (.iconst 0, 1) := by decide +kernel
theorem dX4_ways_37 : decode cX4_ways 37 = .ok (.ireturn, 1) := by decide +kernel
theorem dX4_ways_38 : decode cX4_ways 38 = .ok (.iload 4, 2) := by decide +kernel
theorem dX4_ways_40 : decode cX4_ways 40 = .ok (.aload_n 0, 1) := by decide +kernel
theorem dX4_ways_41 : decode cX4_ways 41 = .ok (.getfield 15, 3) := by decide +kernel
theorem dX4_ways_44 : decode cX4_ways 44 = .ok (.if_icmp .eq 13, 3) := by decide +kernel
theorem dX4_ways_47 : decode cX4_ways 47 = .ok (.aload_n 0, 1) := by decide +kernel
theorem dX4_ways_48 : decode cX4_ways 48 = .ok (.iload 4, 2) := by decide +kernel
theorem dX4_ways_50 : decode cX4_ways 50 = .ok (.putfield 15, 3) := by decide +kernel
theorem dX4_ways_53 : decode cX4_ways 53 = .ok (.aload_n 0, 1) := by decide +kernel
theorem dX4_ways_54 : decode cX4_ways 54 = .ok (.invokevirtual 37, 3) := by decide +kernel
theorem dX4_ways_57 : decode cX4_ways 57 = .ok (.aload_n 0, 1) := by decide +kernel
theorem dX4_ways_58 : decode cX4_ways 58 = .ok (.getfield 11, 3) := by decide +kernel
theorem dX4_ways_61 : decode cX4_ways 61 = .ok (.iload_n 1, 1) := by decide +kernel
theorem dX4_ways_62 : decode cX4_ways 62 = .ok (.iaload, 1) := by decide +kernel
theorem dX4_ways_63 : decode cX4_ways 63 = .ok (.ireturn, 1) := by decide +kernel
theorem dX4_fillTable_0 : decode cX4_fillTable 0 = .ok (.iconst 0, 1) := by decide +kernel
theorem dX4_fillTable_1 : decode cX4_fillTable 1 = .ok (.istore_n 1, 1) := by decide +kernel
theorem dX4_fillTable_2 : decode cX4_fillTable 2 = .ok (.iload_n 1, 1) := by decide +kernel
theorem dX4_fillTable_3 : decode cX4_fillTable 3 = .ok (.bipush 8, 2) := by decide +kernel
theorem dX4_fillTable_5 : decode cX4_fillTable 5 = .ok (.if_icmp .gt 63, 3) := by decide +kernel
theorem dX4_fillTable_8 : decode cX4_fillTable 8 = .ok (.iconst 2, 1) := by decide +kernel
theorem dX4_fillTable_9 : decode cX4_fillTable 9 = .ok (.iload_n 1, 1) := by decide +kernel
theorem dX4_fillTable_10 : decode cX4_fillTable 10 = .ok (.ishl, 1) := by decide +kernel
theorem dX4_fillTable_11 : decode cX4_fillTable 11 = .ok (.iconst 1, 1) := by decide +kernel
theorem dX4_fillTable_12 : decode cX4_fillTable 12 = .ok (.isub, 1) := by decide +kernel
theorem dX4_fillTable_13 : decode cX4_fillTable 13 = .ok (.istore_n 2, 1) := by decide +kernel
theorem dX4_fillTable_14 : decode cX4_fillTable 14 = .ok (.aload_n 0, 1) := by decide +kernel
theorem dX4_fillTable_15 : decode cX4_fillTable 15 = .ok (.getfield 11, 3) := by decide +kernel
theorem dX4_fillTable_18 : decode cX4_fillTable 18 = .ok (.iload_n 2, 1) := by decide +kernel
theorem dX4_fillTable_19 : decode cX4_fillTable 19 = .ok (.iload_n 1, 1) := by decide +kernel
theorem dX4_fillTable_20 : decode cX4_fillTable 20 = .ok (.aload_n 0, 1) := by decide +kernel
theorem dX4_fillTable_21 : decode cX4_fillTable 21 = .ok (.getfield 15, 3) := by decide +kernel
theorem dX4_fillTable_24 : decode cX4_fillTable 24 = .ok (.if_icmp .ne 7, 3) := by decide +kernel
theorem dX4_fillTable_27 : decode cX4_fillTable 27 = .ok (.iconst 1, 1) := by decide +kernel
theorem dX4_fillTable_28 : decode cX4_fillTable 28 = .ok (.goto 4, 3) := by decide +kernel
theorem dX4_fillTable_31 : decode cX4_fillTable 31 = .ok (.iconst 0, 1) := by decide +kernel
theorem dX4_fillTable_32 : decode cX4_fillTable 32 = .ok (.iastore, 1) := by decide +kernel
theorem dX4_fillTable_33 : decode cX4_fillTable 33 = .ok (.iload_n 2, 1) := by decide +kernel
theorem dX4_fillTable_34 : decode cX4_fillTable 34 = .ok (.iconst 1, 1) := by decide +kernel
theorem dX4_fillTable_35 : decode cX4_fillTable 35 = .ok (.isub, 1) := by decide +kernel
theorem dX4_fillTable_36 : decode cX4_fillTable 36 = .ok (.istore_n 3, 1) := by decide +kernel
theorem dX4_fillTable_37 : decode cX4_fillTable 37 = .ok (.iload_n 3, 1) := by decide +kernel
theorem dX4_fillTable_38 : decode cX4_fillTable 38 = .ok (.iconst 1, 1) := by decide +kernel
theorem dX4_fillTable_39 : decode cX4_fillTable 39 = .ok (.iload_n 1, 1) := by decide +kernel
theorem dX4_fillTable_40 : decode cX4_fillTable 40 = .ok (.ishl, 1) := by decide +kernel
theorem dX4_fillTable_41 : decode cX4_fillTable 41 = .ok (.if_icmp .lt 21, 3) := by decide +kernel
theorem dX4_fillTable_44 : decode cX4_fillTable 44 = .ok (.aload_n 0, 1) := by decide +kernel
theorem dX4_fillTable_45 : decode cX4_fillTable 45 = .ok (.getfield 11, 3) := by decide +kernel
theorem dX4_fillTable_48 : decode cX4_fillTable 48 = .ok (.iload_n 3, 1) := by decide +kernel
theorem dX4_fillTable_49 : decode cX4_fillTable 49 = .ok (.aload_n 0, 1) := by decide +kernel
theorem dX4_fillTable_50 : decode cX4_fillTable 50 = .ok (.iload_n 3, 1) := by decide +kernel
theorem dX4_fillTable_51 : decode cX4_fillTable 51 = .ok (.iload_n 1, 1) := by decide +kernel
theorem dX4_fillTable_52 : decode cX4_fillTable 52 = .ok (.invokevirtual 40, 3) := by decide +kernel
theorem dX4_fillTable_55 : decode cX4_fillTable 55 = .ok (.iastore, 1) := by decide +kernel
theorem dX4_fillTable_56 : decode cX4_fillTable 56 = .ok (.iinc 3 (-1), 3) := by decide +kernel
theorem dX4_fillTable_59 : decode cX4_fillTable 59 = .ok (.goto (-22), 3) := by decide +kernel
theorem dX4_fillTable_62 : decode cX4_fillTable 62 = .ok (.iinc 1 1, 3) := by decide +kernel
theorem dX4_fillTable_65 : decode cX4_fillTable 65 = .ok (.goto (-63), 3) := by decide +kernel
theorem dX4_fillTable_68 : decode cX4_fillTable 68 = .ok (.return_, 1) := by decide +kernel
theorem dX4_waysByNext_0 : decode cX4_waysByNext 0 = .ok (.iconst 0, 1) := by decide +kernel
theorem dX4_waysByNext_1 : decode cX4_waysByNext 1 = .ok (.istore_n 3, 1) := by decide +kernel
theorem dX4_waysByNext_2 : decode cX4_waysByNext 2 = .ok (.iconst 0, 1) := by decide +kernel
theorem dX4_waysByNext_3 : decode cX4_waysByNext 3 = .ok (.istore 4, 2) := by decide +kernel
theorem dX4_waysByNext_5 : decode cX4_waysByNext 5 = .ok (.iload 4, 2) := by decide +kernel
theorem dX4_waysByNext_7 : decode cX4_waysByNext 7 = .ok (.iload_n 2, 1) := by decide +kernel
theorem dX4_waysByNext_8 : decode cX4_waysByNext 8 = .ok (.if_icmp .ge 54, 3) := by decide +kernel
theorem dX4_waysByNext_11 : decode cX4_waysByNext 11 = .ok (.iload_n 1, 1) := by decide +kernel
theorem dX4_waysByNext_12 : decode cX4_waysByNext 12 = .ok (.iload 4, 2) := by decide +kernel
theorem dX4_waysByNext_14 : decode cX4_waysByNext 14 = .ok (.iushr, 1) := by decide +kernel
theorem dX4_waysByNext_15 : decode cX4_waysByNext 15 = .ok (.iconst 1, 1) := by decide +kernel
theorem dX4_waysByNext_16 : decode cX4_waysByNext 16 = .ok (.iand, 1) := by decide +kernel
theorem dX4_waysByNext_17 : decode cX4_waysByNext 17 = .ok (.ifCond .ne 39, 3) := by decide +kernel
theorem dX4_waysByNext_20 : decode cX4_waysByNext 20 = .ok (.iload_n 1, 1) := by decide +kernel
theorem dX4_waysByNext_21 : decode cX4_waysByNext 21 = .ok (.iconst 1, 1) := by decide +kernel
theorem dX4_waysByNext_22 : decode cX4_waysByNext 22 = .ok (.iload 4, 2) := by decide +kernel
theorem dX4_waysByNext_24 : decode cX4_waysByNext 24 = .ok (.ishl, 1) := by decide +kernel
theorem dX4_waysByNext_25 : decode cX4_waysByNext 25 = .ok (.invokestatic 29, 3) := by decide +kernel
theorem dX4_waysByNext_28 : decode cX4_waysByNext 28 = .ok (.istore 5, 2) := by decide +kernel
theorem dX4_waysByNext_30 : decode cX4_waysByNext 30 = .ok (.iload_n 3, 1) := by decide +kernel
theorem dX4_waysByNext_31 : decode cX4_waysByNext 31 = .ok (.iload 5, 2) := by decide +kernel
theorem dX4_waysByNext_33 : decode cX4_waysByNext 33 = .ok (.iconst 0, 1) := by decide +kernel
theorem dX4_waysByNext_34 : decode cX4_waysByNext 34 = .ok (.sipush 511, 3) := by decide +kernel
theorem dX4_waysByNext_37 : decode cX4_waysByNext 37 = .ok (.invokestatic 33, 3) := by decide +kernel
theorem dX4_waysByNext_40 : decode cX4_waysByNext 40 = .ok (.ifCond .eq 13, 3) := by decide +kernel
theorem dX4_waysByNext_43 : decode cX4_waysByNext 43 = .ok (.aload_n 0, 1) := by decide +kernel
theorem dX4_waysByNext_44 : decode cX4_waysByNext 44 = .ok (.getfield 11, 3) := by decide +kernel
theorem dX4_waysByNext_47 : decode cX4_waysByNext 47 = .ok (.iload 5, 2) := by decide +kernel
theorem dX4_waysByNext_49 : decode cX4_waysByNext 49 = .ok (.iaload, 1) := by decide +kernel
theorem dX4_waysByNext_50 : decode cX4_waysByNext 50 = .ok (.goto 4, 3) := by decide +kernel
theorem dX4_waysByNext_53 : decode cX4_waysByNext 53 = .ok (.iconst 0, 1) := by decide +kernel
theorem dX4_waysByNext_54 : decode cX4_waysByNext 54 = .ok (.iadd, 1) := by decide +kernel
theorem dX4_waysByNext_55 : decode cX4_waysByNext 55 = .ok (.istore_n 3, 1) := by decide +kernel
theorem dX4_waysByNext_56 : decode cX4_waysByNext 56 = .ok (.iinc 4 1, 3) := by decide +kernel
theorem dX4_waysByNext_59 : decode cX4_waysByNext 59 = .ok (.goto (-54), 3) := by decide +kernel
theorem dX4_waysByNext_62 : decode cX4_waysByNext 62 = .ok (.iload_n 3, 1) := by decide +kernel
theorem dX4_waysByNext_63 : decode cX4_waysByNext 63 = .ok (.ireturn, 1) := by decide +kernel
theorem dX5_init_0 : decode cX5_init 0 = .ok (.aload_n 0, 1) := by decide +kernel
theorem dX5_init_1 : decode cX5_init 1 = .ok (.invokespecial 1, 3) := by decide +kernel
theorem dX5_init_4 : decode cX5_init 4 = .ok (.return_, 1) := by decide +kernel
theorem dX6_init_0 : decode cX6_init 0 = .ok (.aload_n 0, 1) := by decide +kernel
theorem dX6_init_1 : decode cX6_init 1 = .ok (.invokespecial 3, 3) := by decide +kernel
theorem dX6_init_4 : decode cX6_init 4 = .ok (.aload_n 0, 1) := by decide +kernel
theorem dX6_init_5 : decode cX6_init 5 = .ok (.bipush 8, 2) := by decide +kernel
theorem dX6_init_7 : decode cX6_init 7 = .ok (.newarray .int, 2) := by decide +kernel
theorem dX6_init_9 : decode cX6_init 9 = .ok (.putfield 9, 3) := by decide +kernel
theorem dX6_init_12 : decode cX6_init 12 = .ok (.aload_n 0, 1) := by decide +kernel
theorem dX6_init_13 : decode cX6_init 13 = .ok (.bipush 8, 2) := by decide +kernel
theorem dX6_init_15 : decode cX6_init 15 = .ok (.newarray .int, 2) := by decide +kernel
theorem dX6_init_17 : decode cX6_init 17 = .ok (.putfield 15, 3) := by decide +kernel
theorem dX6_init_20 : decode cX6_init 20 = .ok (.aload_n 0, 1) := by decide +kernel
theorem dX6_init_21 : decode cX6_init 21 = .ok (.iconst 5, 1) := by decide +kernel
theorem dX6_init_22 : decode cX6_init 22 = .ok (.anewarray 18, 3) := by decide +kernel
theorem dX6_init_25 : decode cX6_init 25 = .ok (.putfield 20, 3) := by decide +kernel
theorem dX6_init_28 : decode cX6_init 28 = .ok (.new 24, 3) := by decide +kernel
theorem dX6_init_31 : decode cX6_init 31 = .ok (.dup, 1) := by decide +kernel
theorem dX6_init_32 : decode cX6_init 32 = .ok (.invokespecial 26, 3) := by decide +kernel
theorem dX6_init_35 : decode cX6_init 35 = .ok (.astore_n 1, 1) := by decide +kernel
theorem dX6_init_36 : decode cX6_init 36 = .ok (.aload_n 0, 1) := by decide +kernel
theorem dX6_init_37 : decode cX6_init 37 = .ok (.getfield 20, 3) := by decide +kernel
theorem dX6_init_40 : decode cX6_init 40 = .ok (.iconst 0, 1) := by decide +kernel
theorem dX6_init_41 : decode cX6_init 41 = .ok (.aload_n 1, 1) := by decide +kernel
theorem dX6_init_42 : decode cX6_init 42 = .ok (.aastore, 1) := by decide +kernel
theorem dX6_init_43 : decode cX6_init 43 = .ok (.aload_n 0, 1) := by decide +kernel
theorem dX6_init_44 : decode cX6_init 44 = .ok (.getfield 20, 3) := by decide +kernel
theorem dX6_init_47 : decode cX6_init 47 = .ok (.iconst 1, 1) := by decide +kernel
theorem dX6_init_48 : decode cX6_init 48 = .ok (.new 27, 3) := by decide +kernel
theorem dX6_init_51 : decode cX6_init 51 = .ok (.dup, 1) := by decide +kernel
theorem dX6_init_52 : decode cX6_init 52 = .ok (.invokespecial 29, 3) := by decide +kernel
theorem dX6_init_55 : decode cX6_init 55 = .ok (.aastore, 1) := by decide +kernel
theorem dX6_init_56 : decode cX6_init 56 = .ok (.aload_n 0, 1) := by decide +kernel
theorem dX6_init_57 : decode cX6_init 57 = .ok (.getfield 20, 3) := by decide +kernel
theorem dX6_init_60 : decode cX6_init 60 = .ok (.iconst 2, 1) := by decide +kernel
theorem dX6_init_61 : decode cX6_init 61 = .ok (.new 30, 3) := by decide +kernel
theorem dX6_init_64 : decode cX6_init 64 = .ok (.dup, 1) := by decide +kernel
theorem dX6_init_65 : decode cX6_init 65 = .ok (.invokespecial 32, 3) := by decide +kernel
theorem dX6_init_68 : decode cX6_init 68 = .ok (.aastore, 1) := by decide +kernel
theorem dX6_init_69 : decode cX6_init 69 = .ok (.aload_n 0, 1) := by decide +kernel
theorem dX6_init_70 : decode cX6_init 70 = .ok (.getfield 20, 3) := by decide +kernel
theorem dX6_init_73 : decode cX6_init 73 = .ok (.iconst 3, 1) := by decide +kernel
theorem dX6_init_74 : decode cX6_init 74 = .ok (.new 33, 3) := by decide +kernel
theorem dX6_init_77 : decode cX6_init 77 = .ok (.dup, 1) := by decide +kernel
end
section
/-! ===== the judgement J: a walk's state with the heap hidden; contracts MC; my own text ===== -/
abbrev jG : Type := va_G × (Nat → ClassId) × Nat
abbrev jE : Type := Program × Launch × Env × Room × State × MethodId × Array Value × List Frame × Method × Code × jG × (Nat → Prop) × Prop × (State → Prop) × Nat × Nat
def jl (E : jE) : Launch := E.2.1
def jg (E : jE) : jG := E.2.2.2.2.2.2.2.2.2.2.1
def jA (E : jE) : Nat → Prop := E.2.2.2.2.2.2.2.2.2.2.2.1
def jrw (E : jE) : Prop := E.2.2.2.2.2.2.2.2.2.2.2.2.1
abbrev jTY (cy : Nat → ClassId) : List (ClassId × FieldType) := [(cy 0, .int), (cy 1, .long), (cy 2, .byte), (cy 3, .boolean), (cy 4, .object RX2), (cy 5, .object RX5), (cy 6, .object RX8)]
def jNF : List (String × Nat × String × String × String × String) := [("CountTriangles$Heights", 25, "CountTriangles", "FACTORIALS", "[I", "CountTriangles"), ("CountTriangles$Orders", 82, "CountTriangles", "FACTORIALS", "[I", "CountTriangles"), ("CountTriangles$Polynomial", 62, "CountTriangles", "FACTORIALS", "[I", "CountTriangles")]
def jNM : List (String × Nat × MethodName × String) := [("CountTriangles", 11, ⟨"CountTriangles$Text", "<init>", "()V"⟩, "CountTriangles"), ("CountTriangles", 24, ⟨"CountTriangles$Partings", "<init>", "()V"⟩, "CountTriangles"), ("CountTriangles", 43, ⟨"CountTriangles$Polynomial", "<init>", "()V"⟩, "CountTriangles"), ("CountTriangles$Falls", 22, ⟨"CountTriangles", "within", "(III)Z"⟩, "CountTriangles"), ("CountTriangles$Falls", 3, ⟨"CountTriangles$Mark", "<init>", "()V"⟩, "CountTriangles"), ("CountTriangles$Heights", 21, ⟨"CountTriangles", "within", "(III)Z"⟩, "CountTriangles"), ("CountTriangles$Heights", 3, ⟨"CountTriangles$Mark", "<init>", "()V"⟩, "CountTriangles"), ("CountTriangles$Law", 105, ⟨"CountTriangles", "isPlace", "(III)Z"⟩, "CountTriangles"), ("CountTriangles$Law", 96, ⟨"CountTriangles", "beyond", "(JJ)Z"⟩, "CountTriangles"), ("CountTriangles$LesserPairs", 23, ⟨"CountTriangles", "within", "(III)Z"⟩, "CountTriangles"), ("CountTriangles$LesserPairs", 3, ⟨"CountTriangles$Mark", "<init>", "()V"⟩, "CountTriangles"), ("CountTriangles$LongestRise", 3, ⟨"CountTriangles$Mark", "<init>", "()V"⟩, "CountTriangles"), ("CountTriangles$LongestRise", 33, ⟨"CountTriangles", "within", "(III)Z"⟩, "CountTriangles"), ("CountTriangles$Orders", 40, ⟨"CountTriangles$LongestRise", "<init>", "()V"⟩, "CountTriangles"), ("CountTriangles$Orders", 41, ⟨"CountTriangles", "hasDigitsAlone", "(II)Z"⟩, "CountTriangles"), ("CountTriangles$Orders", 45, ⟨"CountTriangles", "digitAt", "(III)I"⟩, "CountTriangles"), ("CountTriangles$Partings", 19, ⟨"CountTriangles", "within", "(III)Z"⟩, "CountTriangles"), ("CountTriangles$Partings", 31, ⟨"CountTriangles", "hasDigitsAlone", "(II)Z"⟩, "CountTriangles"), ("CountTriangles$Partings", 35, ⟨"CountTriangles", "digitAt", "(III)I"⟩, "CountTriangles"), ("CountTriangles$Polynomial", 28, ⟨"CountTriangles", "within", "(III)Z"⟩, "CountTriangles"), ("CountTriangles$Polynomial", 71, ⟨"CountTriangles", "beyond", "(JJ)Z"⟩, "CountTriangles"), ("CountTriangles$Rings", 19, ⟨"CountTriangles", "within", "(III)Z"⟩, "CountTriangles"), ("CountTriangles$Rings", 3, ⟨"CountTriangles$Mark", "<init>", "()V"⟩, "CountTriangles")]
def jND : List MethodName := [⟨"CountTriangles$Mark", "growth", "(III[II)I"⟩, ⟨"CountTriangles$Mark", "next", "(III)I"⟩, ⟨"CountTriangles$Mark", "start", "(I)I"⟩, ⟨"CountTriangles$Mark", "ways", "(III)I"⟩]
def jU (G : jG) (U : State) : Prop := va_K G.1 vwCl (jTY G.2.1) U ∧ (∀ q ∈ jNF, va_Nw (.fieldLinkNest q.1 q.2.1 q.2.2.1 q.2.2.2.1 q.2.2.2.2.1 q.2.2.2.2.2) U) ∧ (∀ q ∈ jNM, va_Nw (.methodLinkNest q.1 q.2.1 q.2.2.1 q.2.2.2) U) ∧ ∀ q ∈ jND, va_Nw (.declares q) U
theorem jU.warm {G : jG} {s U : State} (hW : s.WarmedH U.vm) (h : jU G s) : jU G U :=
  ⟨va_K.moved hW.alike h.1, fun q hq => va_Nw.warmF hW (h.2.1 q hq), fun q hq => va_Nw.warmM hW (h.2.2.1 q hq), fun q hq => va_Nw.warmD hW (h.2.2.2 q hq)⟩
theorem jU.vm {G : jG} {s U : State} (hv : s.vm = U.vm) (h : jU G s) : jU G U :=
  ⟨va_K.moved (by rw [hv]; exact Vm.Alike.refl _) h.1, fun q hq => va_Nw.same rfl hv (h.2.1 q hq), fun q hq => va_Nw.same rfl hv (h.2.2.1 q hq), fun q hq => va_Nw.same rfl hv (h.2.2.2 q hq)⟩
def jfac (j : Nat) : Int32 := ([1, 1, 2, 6, 24, 120, 720, 5040, 40320] : List Int32).getD j 0
def jF (A : Nat → Prop) (G : jG) (U : State) (H : Heap) : Prop := va_Z "CountTriangles" "FACTORIALS" "[I" (.ref G.2.2) A U H ∧ va_T .int G.2.2 9 (fun j => .int (jfac j)) A U H
theorem jF.kept {A : Nat → Prop} {G : jG} {U : State} {H H1 : Heap} (h : jF A G U H) (hq : ∀ a : Nat, a < H.size → ¬ A a → H1[a]? = H[a]?) : jF A G U H1 := ⟨h.1.kept hq, h.2.kept hq⟩
theorem jF.narrow {A B : Nat → Prop} {G : jG} {U : State} {H : Heap} (h : jF A G U H) (hAB : ∀ q, B q → A q) : jF B G U H := ⟨h.1.narrow hAB, h.2.narrow hAB⟩
theorem jF.moved {A : Nat → Prop} {G : jG} {u U : State} {H : Heap} (hv : u.vm.Alike U.vm) (h : jF A G u H) : jF A G U H := ⟨h.1.moved hv, h.2.moved hv⟩
def J (E : jE) (nL : Nat) (ws : va_W) (pc : Nat) (lv : List (Nat × Value)) (st : List Value) : Prop :=
  match E with
  | (p, l, e, R, s, m, args, below, meth, c, G, A, rw, Q, kc, ks) => ∀ (H : Heap) (locs : List Loc) (ls : Array Slot), va_P G.1 vwCl ws H → (rw → va_D A ws) → va_S A s.heap H locs → lv_has ls nL lv → W p l e R s m args below meth c H locs kc ks Q (F0 m pc ls st)
def jC (E : jE) (cc : ByteArray) (nL : Nat) (own : String) (h : Nat) : Prop :=
  match E with
  | (p, l, e, R, s, m, args, below, meth, c, G, A, rw, Q, kc, ks) => CallFix p m c cc nL s args UW own ∧ jU G s ∧ jF A G s s.heap ∧ h ≤ R.frames ∧ 36 * h ≤ R.locals ∧ kc ≤ R.cells ∧ ks ≤ R.slots
def jR (h : Nat) : Room := { frames := h, cells := 0, slots := 0, locals := 36 * h }
/-- the contract of a method: any heap that holds the cells ws (of which those that A names may change): it returns o, the heap holds ws' -/
def MC (l : Launch) (y : MethodName) (cc : ByteArray) (n : Nat) (ret : Option FieldType) (h : Nat) (G : jG) (A : Nat → Prop) (rw : Prop) (ws ws' : va_W) (av : List Value) (o : Option Value) : Prop :=
  Met l y (Cond.code y cc n ret :: UW) (jR h) (va_Pc av (fun U => va_P G.1 vwCl ws U.heap ∧ (rw → va_D A ws) ∧ jU G U ∧ jF A G U U.heap)) (fun _ st oc t => oc = .returned o ∧ va_P G.1 vwCl ws' t.heap ∧ va_F A st t) 0 0 A
def jNo : Nat → Prop := fun _ => False
def jad (ws : va_W) : Nat → Prop := fun q => q ∈ ws.map Prod.fst
/-! guards of the functions -/
def jgd {α : Type} (i : Int32) (n : Nat) (k : Option α) : Option α := if i < 0 ∨ n ≤ i.toNatClampNeg then none else k
theorem jgd_some {α : Type} {i : Int32} {n : Nat} {k : Option α} {r : α} (h : jgd i n k = some r) : vp_in i n ∧ k = some r := by
  unfold jgd at h
  by_cases c : i < 0 ∨ n ≤ i.toNatClampNeg
  · rw [if_pos c] at h; cases h
  · rw [if_neg c] at h; exact ⟨c, h⟩
theorem jgd_in {α : Type} {i : Int32} {n : Nat} {k : Option α} (h : vp_in i n) : jgd i n k = k := if_neg h
def jnz {α : Type} (y : Int32) (k : Option α) : Option α := if y = 0 then none else k
theorem jnz_some {α : Type} {y : Int32} {k : Option α} {r : α} (h : jnz y k = some r) : ¬ y = 0 ∧ k = some r := by
  unfold jnz at h
  by_cases c : y = 0
  · rw [if_pos c] at h; cases h
  · rw [if_neg c] at h; exact ⟨c, h⟩
def jnzl {α : Type} (y : Int64) (k : Option α) : Option α := if y = 0 then none else k
theorem jnzl_some {α : Type} {y : Int64} {k : Option α} {r : α} (h : jnzl y k = some r) : ¬ y = 0 ∧ k = some r := by
  unfold jnzl at h
  by_cases c : y = 0
  · rw [if_pos c] at h; cases h
  · rw [if_neg c] at h; exact ⟨c, h⟩
def jzb {α : Type} (y : Int32) (k : Option α) : Option α := if y = 0 ∨ y = 1 then k else none
theorem jzb_some {α : Type} {y : Int32} {k : Option α} {r : α} (h : jzb y k = some r) : (y = 0 ∨ y = 1) ∧ k = some r := by
  unfold jzb at h
  by_cases c : y = 0 ∨ y = 1
  · rw [if_pos c] at h; exact ⟨c, h⟩
  · rw [if_neg c] at h; cases h
theorem jzb_n {y : Int32} (h : y = 0 ∨ y = 1) : narrow .boolean (.int y) = .int y := by rcases h with rfl | rfl <;> decide +kernel
theorem jzb_f {y : Int32} (h : y = 0 ∨ y = 1) : fits .boolean (.int y) = true := by rcases h with rfl | rfl <;> decide +kernel
def jbd {α β : Type} (x : Option α) (k : α → Option β) : Option β := match x with
  | none => none
  | some r => k r
theorem jbd_some {α β : Type} {x : Option α} {k : α → Option β} {r : β} (h : jbd x k = some r) : ∃ y, x = some y ∧ k y = some r := by
  cases x with
  | none => cases h
  | some y => exact ⟨y, rfl, h⟩
theorem jit {α : Type} {c : Prop} [Decidable c] {a b : Option α} {r : α} (hc : c) (h : (if c then a else b) = some r) : a = some r := by rw [if_pos hc] at h; exact h
theorem jif {α : Type} {c : Prop} [Decidable c] {a b : Option α} {r : α} (hc : ¬ c) (h : (if c then a else b) = some r) : b = some r := by rw [if_neg hc] at h; exact h
theorem j_iconst {E : jE} {cc : ByteArray} {nL : Nat} {own : String} {h : Nat} {ws : va_W} {pc pc' : Nat} {lv : List (Nat × Value)} {st : List Value} {n : Int} {v : Int32} (K : jC E cc nL own h) (hd : decode cc pc = .ok (.iconst n, 1)) (hv : Int32.ofInt n = v) (hp : pc + 1 = pc') (k : J E nL ws pc' lv (.int v :: st)) : J E nL ws pc lv (st) := by
  obtain ⟨p, l, e, R, s, m, args, below, meth, c, G, A, rw, Q, kc, ks⟩ := E
  subst hp
  intro H locs ls hP hD hS hl
  exact lv_iconst K.1.1 K.1.2.1 hd hv (k H locs ls hP hD hS hl)
theorem j_bipush {E : jE} {cc : ByteArray} {nL : Nat} {own : String} {h : Nat} {ws : va_W} {pc pc' : Nat} {lv : List (Nat × Value)} {st : List Value} {n : Int} {v : Int32} (K : jC E cc nL own h) (hd : decode cc pc = .ok (.bipush n, 2)) (hv : (Int8.ofInt n).toInt32 = v) (hp : pc + 2 = pc') (k : J E nL ws pc' lv (.int v :: st)) : J E nL ws pc lv (st) := by
  obtain ⟨p, l, e, R, s, m, args, below, meth, c, G, A, rw, Q, kc, ks⟩ := E
  subst hp
  intro H locs ls hP hD hS hl
  exact lv_bipush K.1.1 K.1.2.1 hd hv (k H locs ls hP hD hS hl)
theorem j_sipush {E : jE} {cc : ByteArray} {nL : Nat} {own : String} {h : Nat} {ws : va_W} {pc pc' : Nat} {lv : List (Nat × Value)} {st : List Value} {n : Int} {v : Int32} (K : jC E cc nL own h) (hd : decode cc pc = .ok (.sipush n, 3)) (hv : (Int16.ofInt n).toInt32 = v) (hp : pc + 3 = pc') (k : J E nL ws pc' lv (.int v :: st)) : J E nL ws pc lv (st) := by
  obtain ⟨p, l, e, R, s, m, args, below, meth, c, G, A, rw, Q, kc, ks⟩ := E
  subst hp
  intro H locs ls hP hD hS hl
  exact lv_sipush K.1.1 K.1.2.1 hd hv (k H locs ls hP hD hS hl)
theorem j_lconst {E : jE} {cc : ByteArray} {nL : Nat} {own : String} {h : Nat} {ws : va_W} {pc pc' : Nat} {lv : List (Nat × Value)} {st : List Value} {n : Fin 2} {v : Int64} (K : jC E cc nL own h) (hd : decode cc pc = .ok (.lconst n, 1)) (hv : Int64.ofNat (n : Nat) = v) (hp : pc + 1 = pc') (k : J E nL ws pc' lv (.long v :: st)) : J E nL ws pc lv (st) := by
  obtain ⟨p, l, e, R, s, m, args, below, meth, c, G, A, rw, Q, kc, ks⟩ := E
  subst hp
  intro H locs ls hP hD hS hl
  exact lv_lconst K.1.1 K.1.2.1 hd hv (k H locs ls hP hD hS hl)
theorem j_iload_n {E : jE} {cc : ByteArray} {nL : Nat} {own : String} {h : Nat} {ws : va_W} {pc pc' : Nat} {lv : List (Nat × Value)} {st : List Value} {q : Fin 4} {i : Nat} {x : Int32} (K : jC E cc nL own h) (hd : decode cc pc = .ok (.iload_n q, 1)) (hi : (q : Nat) = i) (j : Nat) (hj : lv[j]? = some (i, .int x)) (hp : pc + 1 = pc') (k : J E nL ws pc' lv (.int x :: st)) : J E nL ws pc lv (st) := by
  obtain ⟨p, l, e, R, s, m, args, below, meth, c, G, A, rw, Q, kc, ks⟩ := E
  subst hp
  intro H locs ls hP hD hS hl
  exact lv_iload_n K.1.1 K.1.2.1 hd hi (lv_at hl j hj) (k H locs ls hP hD hS hl)
theorem j_iload {E : jE} {cc : ByteArray} {nL : Nat} {own : String} {h : Nat} {ws : va_W} {pc pc' : Nat} {lv : List (Nat × Value)} {st : List Value} {i : Nat} {x : Int32} (K : jC E cc nL own h) (hd : decode cc pc = .ok (.iload i, 2)) (j : Nat) (hj : lv[j]? = some (i, .int x)) (hp : pc + 2 = pc') (k : J E nL ws pc' lv (.int x :: st)) : J E nL ws pc lv (st) := by
  obtain ⟨p, l, e, R, s, m, args, below, meth, c, G, A, rw, Q, kc, ks⟩ := E
  subst hp
  intro H locs ls hP hD hS hl
  exact lv_iload K.1.1 K.1.2.1 hd (lv_at hl j hj) (k H locs ls hP hD hS hl)
theorem j_lload_n {E : jE} {cc : ByteArray} {nL : Nat} {own : String} {h : Nat} {ws : va_W} {pc pc' : Nat} {lv : List (Nat × Value)} {st : List Value} {q : Fin 4} {i : Nat} {x : Int64} (K : jC E cc nL own h) (hd : decode cc pc = .ok (.lload_n q, 1)) (hi : (q : Nat) = i) (j : Nat) (hj : lv[j]? = some (i, .long x)) (hp : pc + 1 = pc') (k : J E nL ws pc' lv (.long x :: st)) : J E nL ws pc lv (st) := by
  obtain ⟨p, l, e, R, s, m, args, below, meth, c, G, A, rw, Q, kc, ks⟩ := E
  subst hp
  intro H locs ls hP hD hS hl
  exact lv_lload_n K.1.1 K.1.2.1 hd hi (lv_at hl j hj) (k H locs ls hP hD hS hl)
theorem j_lload {E : jE} {cc : ByteArray} {nL : Nat} {own : String} {h : Nat} {ws : va_W} {pc pc' : Nat} {lv : List (Nat × Value)} {st : List Value} {i : Nat} {x : Int64} (K : jC E cc nL own h) (hd : decode cc pc = .ok (.lload i, 2)) (j : Nat) (hj : lv[j]? = some (i, .long x)) (hp : pc + 2 = pc') (k : J E nL ws pc' lv (.long x :: st)) : J E nL ws pc lv (st) := by
  obtain ⟨p, l, e, R, s, m, args, below, meth, c, G, A, rw, Q, kc, ks⟩ := E
  subst hp
  intro H locs ls hP hD hS hl
  exact lv_lload K.1.1 K.1.2.1 hd (lv_at hl j hj) (k H locs ls hP hD hS hl)
theorem j_aload_n {E : jE} {cc : ByteArray} {nL : Nat} {own : String} {h : Nat} {ws : va_W} {pc pc' : Nat} {lv : List (Nat × Value)} {st : List Value} {q : Fin 4} {i : Nat} {x : Nat} (K : jC E cc nL own h) (hd : decode cc pc = .ok (.aload_n q, 1)) (hi : (q : Nat) = i) (j : Nat) (hj : lv[j]? = some (i, .ref x)) (hp : pc + 1 = pc') (k : J E nL ws pc' lv (.ref x :: st)) : J E nL ws pc lv (st) := by
  obtain ⟨p, l, e, R, s, m, args, below, meth, c, G, A, rw, Q, kc, ks⟩ := E
  subst hp
  intro H locs ls hP hD hS hl
  exact lv_aload_n K.1.1 K.1.2.1 hd hi (lv_at hl j hj) (k H locs ls hP hD hS hl)
theorem j_aload {E : jE} {cc : ByteArray} {nL : Nat} {own : String} {h : Nat} {ws : va_W} {pc pc' : Nat} {lv : List (Nat × Value)} {st : List Value} {i : Nat} {x : Nat} (K : jC E cc nL own h) (hd : decode cc pc = .ok (.aload i, 2)) (j : Nat) (hj : lv[j]? = some (i, .ref x)) (hp : pc + 2 = pc') (k : J E nL ws pc' lv (.ref x :: st)) : J E nL ws pc lv (st) := by
  obtain ⟨p, l, e, R, s, m, args, below, meth, c, G, A, rw, Q, kc, ks⟩ := E
  subst hp
  intro H locs ls hP hD hS hl
  exact lv_aload K.1.1 K.1.2.1 hd (lv_at hl j hj) (k H locs ls hP hD hS hl)
theorem j_iadd {E : jE} {cc : ByteArray} {nL : Nat} {own : String} {h : Nat} {ws : va_W} {pc pc' : Nat} {lv : List (Nat × Value)} {st : List Value} {x y : Int32} (K : jC E cc nL own h) (hd : decode cc pc = .ok (.iadd, 1))  (hp : pc + 1 = pc') (k : J E nL ws pc' lv (.int (x + y) :: st)) : J E nL ws pc lv (.int y :: .int x :: st) := by
  obtain ⟨p, l, e, R, s, m, args, below, meth, c, G, A, rw, Q, kc, ks⟩ := E
  subst hp
  intro H locs ls hP hD hS hl
  exact lv_iadd K.1.1 K.1.2.1 hd  (k H locs ls hP hD hS hl)
theorem j_isub {E : jE} {cc : ByteArray} {nL : Nat} {own : String} {h : Nat} {ws : va_W} {pc pc' : Nat} {lv : List (Nat × Value)} {st : List Value} {x y : Int32} (K : jC E cc nL own h) (hd : decode cc pc = .ok (.isub, 1))  (hp : pc + 1 = pc') (k : J E nL ws pc' lv (.int (x - y) :: st)) : J E nL ws pc lv (.int y :: .int x :: st) := by
  obtain ⟨p, l, e, R, s, m, args, below, meth, c, G, A, rw, Q, kc, ks⟩ := E
  subst hp
  intro H locs ls hP hD hS hl
  exact lv_isub K.1.1 K.1.2.1 hd  (k H locs ls hP hD hS hl)
theorem j_imul {E : jE} {cc : ByteArray} {nL : Nat} {own : String} {h : Nat} {ws : va_W} {pc pc' : Nat} {lv : List (Nat × Value)} {st : List Value} {x y : Int32} (K : jC E cc nL own h) (hd : decode cc pc = .ok (.imul, 1))  (hp : pc + 1 = pc') (k : J E nL ws pc' lv (.int (x * y) :: st)) : J E nL ws pc lv (.int y :: .int x :: st) := by
  obtain ⟨p, l, e, R, s, m, args, below, meth, c, G, A, rw, Q, kc, ks⟩ := E
  subst hp
  intro H locs ls hP hD hS hl
  exact lv_imul K.1.1 K.1.2.1 hd  (k H locs ls hP hD hS hl)
theorem j_iand {E : jE} {cc : ByteArray} {nL : Nat} {own : String} {h : Nat} {ws : va_W} {pc pc' : Nat} {lv : List (Nat × Value)} {st : List Value} {x y : Int32} (K : jC E cc nL own h) (hd : decode cc pc = .ok (.iand, 1))  (hp : pc + 1 = pc') (k : J E nL ws pc' lv (.int (x &&& y) :: st)) : J E nL ws pc lv (.int y :: .int x :: st) := by
  obtain ⟨p, l, e, R, s, m, args, below, meth, c, G, A, rw, Q, kc, ks⟩ := E
  subst hp
  intro H locs ls hP hD hS hl
  exact lv_iand K.1.1 K.1.2.1 hd  (k H locs ls hP hD hS hl)
theorem j_ior {E : jE} {cc : ByteArray} {nL : Nat} {own : String} {h : Nat} {ws : va_W} {pc pc' : Nat} {lv : List (Nat × Value)} {st : List Value} {x y : Int32} (K : jC E cc nL own h) (hd : decode cc pc = .ok (.ior, 1))  (hp : pc + 1 = pc') (k : J E nL ws pc' lv (.int (x ||| y) :: st)) : J E nL ws pc lv (.int y :: .int x :: st) := by
  obtain ⟨p, l, e, R, s, m, args, below, meth, c, G, A, rw, Q, kc, ks⟩ := E
  subst hp
  intro H locs ls hP hD hS hl
  exact lv_ior K.1.1 K.1.2.1 hd  (k H locs ls hP hD hS hl)
theorem j_ixor {E : jE} {cc : ByteArray} {nL : Nat} {own : String} {h : Nat} {ws : va_W} {pc pc' : Nat} {lv : List (Nat × Value)} {st : List Value} {x y : Int32} (K : jC E cc nL own h) (hd : decode cc pc = .ok (.ixor, 1))  (hp : pc + 1 = pc') (k : J E nL ws pc' lv (.int (x ^^^ y) :: st)) : J E nL ws pc lv (.int y :: .int x :: st) := by
  obtain ⟨p, l, e, R, s, m, args, below, meth, c, G, A, rw, Q, kc, ks⟩ := E
  subst hp
  intro H locs ls hP hD hS hl
  exact lv_ixor K.1.1 K.1.2.1 hd  (k H locs ls hP hD hS hl)
theorem j_ishl {E : jE} {cc : ByteArray} {nL : Nat} {own : String} {h : Nat} {ws : va_W} {pc pc' : Nat} {lv : List (Nat × Value)} {st : List Value} {x y : Int32} (K : jC E cc nL own h) (hd : decode cc pc = .ok (.ishl, 1))  (hp : pc + 1 = pc') (k : J E nL ws pc' lv (.int (x <<< (y &&& 31)) :: st)) : J E nL ws pc lv (.int y :: .int x :: st) := by
  obtain ⟨p, l, e, R, s, m, args, below, meth, c, G, A, rw, Q, kc, ks⟩ := E
  subst hp
  intro H locs ls hP hD hS hl
  exact lv_ishl K.1.1 K.1.2.1 hd  (k H locs ls hP hD hS hl)
theorem j_ishr {E : jE} {cc : ByteArray} {nL : Nat} {own : String} {h : Nat} {ws : va_W} {pc pc' : Nat} {lv : List (Nat × Value)} {st : List Value} {x y : Int32} (K : jC E cc nL own h) (hd : decode cc pc = .ok (.ishr, 1))  (hp : pc + 1 = pc') (k : J E nL ws pc' lv (.int (x >>> (y &&& 31)) :: st)) : J E nL ws pc lv (.int y :: .int x :: st) := by
  obtain ⟨p, l, e, R, s, m, args, below, meth, c, G, A, rw, Q, kc, ks⟩ := E
  subst hp
  intro H locs ls hP hD hS hl
  exact lv_ishr K.1.1 K.1.2.1 hd  (k H locs ls hP hD hS hl)
theorem j_ladd {E : jE} {cc : ByteArray} {nL : Nat} {own : String} {h : Nat} {ws : va_W} {pc pc' : Nat} {lv : List (Nat × Value)} {st : List Value} {x y : Int64} (K : jC E cc nL own h) (hd : decode cc pc = .ok (.ladd, 1))  (hp : pc + 1 = pc') (k : J E nL ws pc' lv (.long (x + y) :: st)) : J E nL ws pc lv (.long y :: .long x :: st) := by
  obtain ⟨p, l, e, R, s, m, args, below, meth, c, G, A, rw, Q, kc, ks⟩ := E
  subst hp
  intro H locs ls hP hD hS hl
  exact lv_ladd K.1.1 K.1.2.1 hd  (k H locs ls hP hD hS hl)
theorem j_lsub {E : jE} {cc : ByteArray} {nL : Nat} {own : String} {h : Nat} {ws : va_W} {pc pc' : Nat} {lv : List (Nat × Value)} {st : List Value} {x y : Int64} (K : jC E cc nL own h) (hd : decode cc pc = .ok (.lsub, 1))  (hp : pc + 1 = pc') (k : J E nL ws pc' lv (.long (x - y) :: st)) : J E nL ws pc lv (.long y :: .long x :: st) := by
  obtain ⟨p, l, e, R, s, m, args, below, meth, c, G, A, rw, Q, kc, ks⟩ := E
  subst hp
  intro H locs ls hP hD hS hl
  exact lv_lsub K.1.1 K.1.2.1 hd  (k H locs ls hP hD hS hl)
theorem j_lmul {E : jE} {cc : ByteArray} {nL : Nat} {own : String} {h : Nat} {ws : va_W} {pc pc' : Nat} {lv : List (Nat × Value)} {st : List Value} {x y : Int64} (K : jC E cc nL own h) (hd : decode cc pc = .ok (.lmul, 1))  (hp : pc + 1 = pc') (k : J E nL ws pc' lv (.long (x * y) :: st)) : J E nL ws pc lv (.long y :: .long x :: st) := by
  obtain ⟨p, l, e, R, s, m, args, below, meth, c, G, A, rw, Q, kc, ks⟩ := E
  subst hp
  intro H locs ls hP hD hS hl
  exact lv_lmul K.1.1 K.1.2.1 hd  (k H locs ls hP hD hS hl)
theorem j_land {E : jE} {cc : ByteArray} {nL : Nat} {own : String} {h : Nat} {ws : va_W} {pc pc' : Nat} {lv : List (Nat × Value)} {st : List Value} {x y : Int64} (K : jC E cc nL own h) (hd : decode cc pc = .ok (.land, 1))  (hp : pc + 1 = pc') (k : J E nL ws pc' lv (.long (x &&& y) :: st)) : J E nL ws pc lv (.long y :: .long x :: st) := by
  obtain ⟨p, l, e, R, s, m, args, below, meth, c, G, A, rw, Q, kc, ks⟩ := E
  subst hp
  intro H locs ls hP hD hS hl
  exact lv_land K.1.1 K.1.2.1 hd  (k H locs ls hP hD hS hl)
theorem j_lor {E : jE} {cc : ByteArray} {nL : Nat} {own : String} {h : Nat} {ws : va_W} {pc pc' : Nat} {lv : List (Nat × Value)} {st : List Value} {x y : Int64} (K : jC E cc nL own h) (hd : decode cc pc = .ok (.lor, 1))  (hp : pc + 1 = pc') (k : J E nL ws pc' lv (.long (x ||| y) :: st)) : J E nL ws pc lv (.long y :: .long x :: st) := by
  obtain ⟨p, l, e, R, s, m, args, below, meth, c, G, A, rw, Q, kc, ks⟩ := E
  subst hp
  intro H locs ls hP hD hS hl
  exact lv_lor K.1.1 K.1.2.1 hd  (k H locs ls hP hD hS hl)
theorem j_idiv {E : jE} {cc : ByteArray} {nL : Nat} {own : String} {h : Nat} {ws : va_W} {pc pc' : Nat} {lv : List (Nat × Value)} {st : List Value} {x y : Int32} (K : jC E cc nL own h) (hd : decode cc pc = .ok (.idiv, 1)) (hne : ¬ y = 0) (hp : pc + 1 = pc') (k : J E nL ws pc' lv (.int (x / y) :: st)) : J E nL ws pc lv (.int y :: .int x :: st) := by
  obtain ⟨p, l, e, R, s, m, args, below, meth, c, G, A, rw, Q, kc, ks⟩ := E
  subst hp
  intro H locs ls hP hD hS hl
  exact lv_idiv K.1.1 K.1.2.1 hd hne (k H locs ls hP hD hS hl)
theorem j_irem {E : jE} {cc : ByteArray} {nL : Nat} {own : String} {h : Nat} {ws : va_W} {pc pc' : Nat} {lv : List (Nat × Value)} {st : List Value} {x y : Int32} (K : jC E cc nL own h) (hd : decode cc pc = .ok (.irem, 1)) (hne : ¬ y = 0) (hp : pc + 1 = pc') (k : J E nL ws pc' lv (.int (x - x / y * y) :: st)) : J E nL ws pc lv (.int y :: .int x :: st) := by
  obtain ⟨p, l, e, R, s, m, args, below, meth, c, G, A, rw, Q, kc, ks⟩ := E
  subst hp
  intro H locs ls hP hD hS hl
  exact lv_irem K.1.1 K.1.2.1 hd hne (k H locs ls hP hD hS hl)
theorem j_ldiv {E : jE} {cc : ByteArray} {nL : Nat} {own : String} {h : Nat} {ws : va_W} {pc pc' : Nat} {lv : List (Nat × Value)} {st : List Value} {x y : Int64} (K : jC E cc nL own h) (hd : decode cc pc = .ok (.ldiv, 1)) (hne : ¬ y = 0) (hp : pc + 1 = pc') (k : J E nL ws pc' lv (.long (x / y) :: st)) : J E nL ws pc lv (.long y :: .long x :: st) := by
  obtain ⟨p, l, e, R, s, m, args, below, meth, c, G, A, rw, Q, kc, ks⟩ := E
  subst hp
  intro H locs ls hP hD hS hl
  exact lv_ldiv K.1.1 K.1.2.1 hd hne (k H locs ls hP hD hS hl)
theorem j_lrem {E : jE} {cc : ByteArray} {nL : Nat} {own : String} {h : Nat} {ws : va_W} {pc pc' : Nat} {lv : List (Nat × Value)} {st : List Value} {x y : Int64} (K : jC E cc nL own h) (hd : decode cc pc = .ok (.lrem, 1)) (hne : ¬ y = 0) (hp : pc + 1 = pc') (k : J E nL ws pc' lv (.long (x - x / y * y) :: st)) : J E nL ws pc lv (.long y :: .long x :: st) := by
  obtain ⟨p, l, e, R, s, m, args, below, meth, c, G, A, rw, Q, kc, ks⟩ := E
  subst hp
  intro H locs ls hP hD hS hl
  exact lv_lrem K.1.1 K.1.2.1 hd hne (k H locs ls hP hD hS hl)
theorem j_ineg {E : jE} {cc : ByteArray} {nL : Nat} {own : String} {h : Nat} {ws : va_W} {pc pc' : Nat} {lv : List (Nat × Value)} {st : List Value} {x : Int32} (K : jC E cc nL own h) (hd : decode cc pc = .ok (.ineg, 1))  (hp : pc + 1 = pc') (k : J E nL ws pc' lv (.int (-x) :: st)) : J E nL ws pc lv (.int x :: st) := by
  obtain ⟨p, l, e, R, s, m, args, below, meth, c, G, A, rw, Q, kc, ks⟩ := E
  subst hp
  intro H locs ls hP hD hS hl
  exact lv_ineg K.1.1 K.1.2.1 hd  (k H locs ls hP hD hS hl)
theorem j_lneg {E : jE} {cc : ByteArray} {nL : Nat} {own : String} {h : Nat} {ws : va_W} {pc pc' : Nat} {lv : List (Nat × Value)} {st : List Value} {x : Int64} (K : jC E cc nL own h) (hd : decode cc pc = .ok (.lneg, 1))  (hp : pc + 1 = pc') (k : J E nL ws pc' lv (.long (-x) :: st)) : J E nL ws pc lv (.long x :: st) := by
  obtain ⟨p, l, e, R, s, m, args, below, meth, c, G, A, rw, Q, kc, ks⟩ := E
  subst hp
  intro H locs ls hP hD hS hl
  exact lv_lneg K.1.1 K.1.2.1 hd  (k H locs ls hP hD hS hl)
theorem j_i2l {E : jE} {cc : ByteArray} {nL : Nat} {own : String} {h : Nat} {ws : va_W} {pc pc' : Nat} {lv : List (Nat × Value)} {st : List Value} {x : Int32} (K : jC E cc nL own h) (hd : decode cc pc = .ok (.i2l, 1))  (hp : pc + 1 = pc') (k : J E nL ws pc' lv (.long x.toInt64 :: st)) : J E nL ws pc lv (.int x :: st) := by
  obtain ⟨p, l, e, R, s, m, args, below, meth, c, G, A, rw, Q, kc, ks⟩ := E
  subst hp
  intro H locs ls hP hD hS hl
  exact lv_i2l K.1.1 K.1.2.1 hd rfl (k H locs ls hP hD hS hl)
theorem j_l2i {E : jE} {cc : ByteArray} {nL : Nat} {own : String} {h : Nat} {ws : va_W} {pc pc' : Nat} {lv : List (Nat × Value)} {st : List Value} {x : Int64} (K : jC E cc nL own h) (hd : decode cc pc = .ok (.l2i, 1))  (hp : pc + 1 = pc') (k : J E nL ws pc' lv (.int x.toInt32 :: st)) : J E nL ws pc lv (.long x :: st) := by
  obtain ⟨p, l, e, R, s, m, args, below, meth, c, G, A, rw, Q, kc, ks⟩ := E
  subst hp
  intro H locs ls hP hD hS hl
  exact lv_l2i K.1.1 K.1.2.1 hd rfl (k H locs ls hP hD hS hl)
theorem j_i2b {E : jE} {cc : ByteArray} {nL : Nat} {own : String} {h : Nat} {ws : va_W} {pc pc' : Nat} {lv : List (Nat × Value)} {st : List Value} {x : Int32} (K : jC E cc nL own h) (hd : decode cc pc = .ok (.i2b, 1))  (hp : pc + 1 = pc') (k : J E nL ws pc' lv (.int x.toInt8.toInt32 :: st)) : J E nL ws pc lv (.int x :: st) := by
  obtain ⟨p, l, e, R, s, m, args, below, meth, c, G, A, rw, Q, kc, ks⟩ := E
  subst hp
  intro H locs ls hP hD hS hl
  exact lv_i2b K.1.1 K.1.2.1 hd rfl (k H locs ls hP hD hS hl)
def jushr (x y : Int32) : Int32 := (x.toUInt32 >>> (y.toUInt32 &&& Int32.toUInt32 31)).toInt32
def jlushr (x : Int64) (y : Int32) : Int64 := (x.toUInt64 >>> (y.toInt64.toUInt64 &&& Int64.toUInt64 63)).toInt64
theorem j_iushr {E : jE} {cc : ByteArray} {nL : Nat} {own : String} {h : Nat} {ws : va_W} {pc pc' : Nat} {lv : List (Nat × Value)} {st : List Value} {x y : Int32} (K : jC E cc nL own h) (hd : decode cc pc = .ok (.iushr, 1))  (hp : pc + 1 = pc') (k : J E nL ws pc' lv (.int (jushr x y) :: st)) : J E nL ws pc lv (.int y :: .int x :: st) := by
  obtain ⟨p, l, e, R, s, m, args, below, meth, c, G, A, rw, Q, kc, ks⟩ := E
  subst hp
  intro H locs ls hP hD hS hl
  exact lv_iushr K.1.1 K.1.2.1 hd rfl (k H locs ls hP hD hS hl)
theorem j_lushr {E : jE} {cc : ByteArray} {nL : Nat} {own : String} {h : Nat} {ws : va_W} {pc pc' : Nat} {lv : List (Nat × Value)} {st : List Value} {x : Int64} {y : Int32} (K : jC E cc nL own h) (hd : decode cc pc = .ok (.lushr, 1))  (hp : pc + 1 = pc') (k : J E nL ws pc' lv (.long (jlushr x y) :: st)) : J E nL ws pc lv (.int y :: .long x :: st) := by
  obtain ⟨p, l, e, R, s, m, args, below, meth, c, G, A, rw, Q, kc, ks⟩ := E
  subst hp
  intro H locs ls hP hD hS hl
  exact lv_lushr K.1.1 K.1.2.1 hd rfl (k H locs ls hP hD hS hl)
theorem j_lshl {E : jE} {cc : ByteArray} {nL : Nat} {own : String} {h : Nat} {ws : va_W} {pc pc' : Nat} {lv : List (Nat × Value)} {st : List Value} {x : Int64} {y : Int32} (K : jC E cc nL own h) (hd : decode cc pc = .ok (.lshl, 1))  (hp : pc + 1 = pc') (k : J E nL ws pc' lv (.long (x <<< (y.toInt64 &&& 63)) :: st)) : J E nL ws pc lv (.int y :: .long x :: st) := by
  obtain ⟨p, l, e, R, s, m, args, below, meth, c, G, A, rw, Q, kc, ks⟩ := E
  subst hp
  intro H locs ls hP hD hS hl
  exact lv_lshl K.1.1 K.1.2.1 hd rfl (k H locs ls hP hD hS hl)
theorem j_lshr {E : jE} {cc : ByteArray} {nL : Nat} {own : String} {h : Nat} {ws : va_W} {pc pc' : Nat} {lv : List (Nat × Value)} {st : List Value} {x : Int64} {y : Int32} (K : jC E cc nL own h) (hd : decode cc pc = .ok (.lshr, 1))  (hp : pc + 1 = pc') (k : J E nL ws pc' lv (.long (x >>> (y.toInt64 &&& 63)) :: st)) : J E nL ws pc lv (.int y :: .long x :: st) := by
  obtain ⟨p, l, e, R, s, m, args, below, meth, c, G, A, rw, Q, kc, ks⟩ := E
  subst hp
  intro H locs ls hP hD hS hl
  exact lv_lshr K.1.1 K.1.2.1 hd rfl (k H locs ls hP hD hS hl)
theorem j_dup {E : jE} {cc : ByteArray} {nL : Nat} {own : String} {h : Nat} {ws : va_W} {pc pc' : Nat} {lv : List (Nat × Value)} {st : List Value} {va : Value} (K : jC E cc nL own h) (hd : decode cc pc = .ok (.dup, 1)) (hva : va.category = 1) (hp : pc + 1 = pc') (k : J E nL ws pc' lv (va :: va :: st)) : J E nL ws pc lv (va :: st) := by
  obtain ⟨p, l, e, R, s, m, args, below, meth, c, G, A, rw, Q, kc, ks⟩ := E
  subst hp
  intro H locs ls hP hD hS hl
  exact lv_dup K.1.1 K.1.2.1 hd hva (k H locs ls hP hD hS hl)
theorem j_pop {E : jE} {cc : ByteArray} {nL : Nat} {own : String} {h : Nat} {ws : va_W} {pc pc' : Nat} {lv : List (Nat × Value)} {st : List Value} {va : Value} (K : jC E cc nL own h) (hd : decode cc pc = .ok (.pop, 1)) (hva : va.category = 1) (hp : pc + 1 = pc') (k : J E nL ws pc' lv (st)) : J E nL ws pc lv (va :: st) := by
  obtain ⟨p, l, e, R, s, m, args, below, meth, c, G, A, rw, Q, kc, ks⟩ := E
  subst hp
  intro H locs ls hP hD hS hl
  exact lv_pop K.1.1 K.1.2.1 hd hva (k H locs ls hP hD hS hl)
theorem j_dup2_11 {E : jE} {cc : ByteArray} {nL : Nat} {own : String} {h : Nat} {ws : va_W} {pc pc' : Nat} {lv : List (Nat × Value)} {st : List Value} {va vb : Value} (K : jC E cc nL own h) (hd : decode cc pc = .ok (.dup2, 1)) (hva : va.category = 1) (hvb : vb.category = 1) (hp : pc + 1 = pc') (k : J E nL ws pc' lv (va :: vb :: va :: vb :: st)) : J E nL ws pc lv (va :: vb :: st) := by
  obtain ⟨p, l, e, R, s, m, args, below, meth, c, G, A, rw, Q, kc, ks⟩ := E
  subst hp
  intro H locs ls hP hD hS hl
  exact lv_dup2_11 K.1.1 K.1.2.1 hd hva hvb (k H locs ls hP hD hS hl)
theorem j_dup2_2 {E : jE} {cc : ByteArray} {nL : Nat} {own : String} {h : Nat} {ws : va_W} {pc pc' : Nat} {lv : List (Nat × Value)} {st : List Value} {va : Value} (K : jC E cc nL own h) (hd : decode cc pc = .ok (.dup2, 1)) (hva : va.category = 2) (hp : pc + 1 = pc') (k : J E nL ws pc' lv (va :: va :: st)) : J E nL ws pc lv (va :: st) := by
  obtain ⟨p, l, e, R, s, m, args, below, meth, c, G, A, rw, Q, kc, ks⟩ := E
  subst hp
  intro H locs ls hP hD hS hl
  exact lv_dup2_2 K.1.1 K.1.2.1 hd hva (k H locs ls hP hD hS hl)
theorem j_lcmp {E : jE} {cc : ByteArray} {nL : Nat} {own : String} {h : Nat} {ws : va_W} {pc pc' : Nat} {lv : List (Nat × Value)} {st : List Value} {x y : Int64} (K : jC E cc nL own h) (hd : decode cc pc = .ok (.lcmp, 1))  (hp : pc + 1 = pc') (k : J E nL ws pc' lv (.int (lg_cmp x y) :: st)) : J E nL ws pc lv (.long y :: .long x :: st) := by
  obtain ⟨p, l, e, R, s, m, args, below, meth, c, G, A, rw, Q, kc, ks⟩ := E
  subst hp
  intro H locs ls hP hD hS hl
  exact W.lcmp K.1.1 K.1.2.1 hd  (k H locs ls hP hD hS hl)
theorem j_ldc2 {E : jE} {cc : ByteArray} {nL : Nat} {own : String} {h : Nat} {ws : va_W} {pc pc' : Nat} {lv : List (Nat × Value)} {st : List Value} {index : Nat} {v : Int64} (K : jC E cc nL own h) (hd : decode cc pc = .ok (.ldc2_w index, 3)) (hc : Cond.constantLong own index v ∈ UW) (hp : pc + 3 = pc') (k : J E nL ws pc' lv (.long v :: st)) : J E nL ws pc lv st := by
  obtain ⟨p, l, e, R, s, m, args, below, meth, c, G, A, rw, Q, kc, ks⟩ := E
  subst hp
  intro H locs ls hP hD hS hl
  exact lv_ldc2 K.1.1 K.1.2.1 K.1.2.2.2.1 (K.1.2.2.2.2 _ hc) hd (k H locs ls hP hD hS hl)
theorem j_ldc {E : jE} {cc : ByteArray} {nL : Nat} {own : String} {h : Nat} {ws : va_W} {pc pc' : Nat} {lv : List (Nat × Value)} {st : List Value} {index : Nat} {v : Int32} (K : jC E cc nL own h) (hd : decode cc pc = .ok (.ldc index, 2)) (hc : Cond.constant own index v ∈ UW) (hp : pc + 2 = pc') (k : J E nL ws pc' lv (.int v :: st)) : J E nL ws pc lv st := by
  obtain ⟨p, l, e, R, s, m, args, below, meth, c, G, A, rw, Q, kc, ks⟩ := E
  subst hp
  intro H locs ls hP hD hS hl
  exact lv_ldc K.1.1 K.1.2.1 K.1.2.2.2.1 (K.1.2.2.2.2 _ hc) hd (k H locs ls hP hD hS hl)
theorem j_ldcw {E : jE} {cc : ByteArray} {nL : Nat} {own : String} {h : Nat} {ws : va_W} {pc pc' : Nat} {lv : List (Nat × Value)} {st : List Value} {index : Nat} {v : Int32} (K : jC E cc nL own h) (hd : decode cc pc = .ok (.ldc_w index, 3)) (hc : Cond.constant own index v ∈ UW) (hp : pc + 3 = pc') (k : J E nL ws pc' lv (.int v :: st)) : J E nL ws pc lv st := by
  obtain ⟨p, l, e, R, s, m, args, below, meth, c, G, A, rw, Q, kc, ks⟩ := E
  subst hp
  intro H locs ls hP hD hS hl
  exact lv_ldcw K.1.1 K.1.2.1 K.1.2.2.2.1 (K.1.2.2.2.2 _ hc) hd (k H locs ls hP hD hS hl)
theorem j_istore_n {E : jE} {cc : ByteArray} {nL : Nat} {own : String} {h : Nat} {ws : va_W} {pc pc' : Nat} {lv : List (Nat × Value)} {st : List Value} {q : Fin 4} {i : Nat} {x : Int32} {lv' : List (Nat × Value)} (K : jC E cc nL own h) (hd : decode cc pc = .ok (.istore_n q, 1)) (hi : (q : Nat) = i) (hn : i < nL) (hl' : (i, Value.int x) :: lv.filter (fun q => !(q.1 == i) && !(q.1 + 1 == i && q.2.category == 2)) = lv') (hp : pc + 1 = pc') (k : J E nL ws pc' lv' st) : J E nL ws pc lv (.int x :: st) := by
  obtain ⟨p, l, e, R, s, m, args, below, meth, c, G, A, rw, Q, kc, ks⟩ := E
  subst hp
  intro H locs ls hP hD hS hl
  exact lv_istore_n K.1.1 K.1.2.1 hd hi hl hn hl' (fun ls2 hl2 => k H locs ls2 hP hD hS hl2)
theorem j_istore {E : jE} {cc : ByteArray} {nL : Nat} {own : String} {h : Nat} {ws : va_W} {pc pc' : Nat} {lv : List (Nat × Value)} {st : List Value} {i : Nat} {x : Int32} {lv' : List (Nat × Value)} (K : jC E cc nL own h) (hd : decode cc pc = .ok (.istore i, 2)) (hn : i < nL) (hl' : (i, Value.int x) :: lv.filter (fun q => !(q.1 == i) && !(q.1 + 1 == i && q.2.category == 2)) = lv') (hp : pc + 2 = pc') (k : J E nL ws pc' lv' st) : J E nL ws pc lv (.int x :: st) := by
  obtain ⟨p, l, e, R, s, m, args, below, meth, c, G, A, rw, Q, kc, ks⟩ := E
  subst hp
  intro H locs ls hP hD hS hl
  exact lv_istore K.1.1 K.1.2.1 hd hl hn hl' (fun ls2 hl2 => k H locs ls2 hP hD hS hl2)
theorem j_lstore_n {E : jE} {cc : ByteArray} {nL : Nat} {own : String} {h : Nat} {ws : va_W} {pc pc' : Nat} {lv : List (Nat × Value)} {st : List Value} {q : Fin 4} {i : Nat} {x : Int64} {lv' : List (Nat × Value)} (K : jC E cc nL own h) (hd : decode cc pc = .ok (.lstore_n q, 1)) (hi : (q : Nat) = i) (hn : i + 1 < nL) (hl' : (i, Value.long x) :: lv.filter (fun q => !(q.1 == i) && (!(q.1 == i + 1) && !(q.1 + 1 == i && q.2.category == 2))) = lv') (hp : pc + 1 = pc') (k : J E nL ws pc' lv' st) : J E nL ws pc lv (.long x :: st) := by
  obtain ⟨p, l, e, R, s, m, args, below, meth, c, G, A, rw, Q, kc, ks⟩ := E
  subst hp
  intro H locs ls hP hD hS hl
  exact lv_lstore_n K.1.1 K.1.2.1 hd hi hl hn hl' (fun ls2 hl2 => k H locs ls2 hP hD hS hl2)
theorem j_lstore {E : jE} {cc : ByteArray} {nL : Nat} {own : String} {h : Nat} {ws : va_W} {pc pc' : Nat} {lv : List (Nat × Value)} {st : List Value} {i : Nat} {x : Int64} {lv' : List (Nat × Value)} (K : jC E cc nL own h) (hd : decode cc pc = .ok (.lstore i, 2)) (hn : i + 1 < nL) (hl' : (i, Value.long x) :: lv.filter (fun q => !(q.1 == i) && (!(q.1 == i + 1) && !(q.1 + 1 == i && q.2.category == 2))) = lv') (hp : pc + 2 = pc') (k : J E nL ws pc' lv' st) : J E nL ws pc lv (.long x :: st) := by
  obtain ⟨p, l, e, R, s, m, args, below, meth, c, G, A, rw, Q, kc, ks⟩ := E
  subst hp
  intro H locs ls hP hD hS hl
  exact lv_lstore K.1.1 K.1.2.1 hd hl hn hl' (fun ls2 hl2 => k H locs ls2 hP hD hS hl2)
theorem j_astore_n {E : jE} {cc : ByteArray} {nL : Nat} {own : String} {h : Nat} {ws : va_W} {pc pc' : Nat} {lv : List (Nat × Value)} {st : List Value} {q : Fin 4} {i : Nat} {x : Nat} {lv' : List (Nat × Value)} (K : jC E cc nL own h) (hd : decode cc pc = .ok (.astore_n q, 1)) (hi : (q : Nat) = i) (hn : i < nL) (hl' : (i, Value.ref x) :: lv.filter (fun q => !(q.1 == i) && !(q.1 + 1 == i && q.2.category == 2)) = lv') (hp : pc + 1 = pc') (k : J E nL ws pc' lv' st) : J E nL ws pc lv (.ref x :: st) := by
  obtain ⟨p, l, e, R, s, m, args, below, meth, c, G, A, rw, Q, kc, ks⟩ := E
  subst hp
  intro H locs ls hP hD hS hl
  exact lv_astore_n K.1.1 K.1.2.1 hd hi hl hn hl' (fun ls2 hl2 => k H locs ls2 hP hD hS hl2)
theorem j_astore {E : jE} {cc : ByteArray} {nL : Nat} {own : String} {h : Nat} {ws : va_W} {pc pc' : Nat} {lv : List (Nat × Value)} {st : List Value} {i : Nat} {x : Nat} {lv' : List (Nat × Value)} (K : jC E cc nL own h) (hd : decode cc pc = .ok (.astore i, 2)) (hn : i < nL) (hl' : (i, Value.ref x) :: lv.filter (fun q => !(q.1 == i) && !(q.1 + 1 == i && q.2.category == 2)) = lv') (hp : pc + 2 = pc') (k : J E nL ws pc' lv' st) : J E nL ws pc lv (.ref x :: st) := by
  obtain ⟨p, l, e, R, s, m, args, below, meth, c, G, A, rw, Q, kc, ks⟩ := E
  subst hp
  intro H locs ls hP hD hS hl
  exact lv_astore K.1.1 K.1.2.1 hd hl hn hl' (fun ls2 hl2 => k H locs ls2 hP hD hS hl2)
theorem j_iinc {E : jE} {cc : ByteArray} {nL : Nat} {own : String} {h : Nat} {ws : va_W} {pc pc' : Nat} {lv : List (Nat × Value)} {st : List Value} {i j : Nat} {n : Int} {x v : Int32} {lv' : List (Nat × Value)} (K : jC E cc nL own h) (hd : decode cc pc = .ok (.iinc i n, 3)) (hj : lv[j]? = some (i, .int x)) (hv : x + Int32.ofInt n = v) (hn : i < nL) (hl' : (i, Value.int v) :: lv.filter (fun q => !(q.1 == i) && !(q.1 + 1 == i && q.2.category == 2)) = lv') (hp : pc + 3 = pc') (k : J E nL ws pc' lv' st) : J E nL ws pc lv st := by
  obtain ⟨p, l, e, R, s, m, args, below, meth, c, G, A, rw, Q, kc, ks⟩ := E
  subst hp
  intro H locs ls hP hD hS hl
  exact lv_iinc K.1.1 K.1.2.1 hd hl hj hv hn hl' (fun ls2 hl2 => k H locs ls2 hP hD hS hl2)
theorem j_if_eq {E : jE} {cc : ByteArray} {nL : Nat} {own : String} {h : Nat} {ws : va_W} {pc pc' : Nat} {lv : List (Nat × Value)} {st : List Value} {x : Int32} {off : Int} {tgt : Nat} (K : jC E cc nL own h) (hd : decode cc pc = .ok (.ifCond .eq off, 3)) (ht : (pc : Int) + off = (tgt : Int)) (hp : pc + 3 = pc') (kt : x = 0 → J E nL ws tgt lv st) (kf : ¬ (x = 0) → J E nL ws pc' lv st) : J E nL ws pc lv (.int x :: st) := by
  obtain ⟨p, l, e, R, s, m, args, below, meth, c, G, A, rw, Q, kc, ks⟩ := E
  subst hp
  intro H locs ls hP hD hS hl
  exact lv_if_eq K.1.1 K.1.2.1 hd ht (fun q => kt q H locs ls hP hD hS hl) (fun q => kf q H locs ls hP hD hS hl)
theorem j_icmp_eq {E : jE} {cc : ByteArray} {nL : Nat} {own : String} {h : Nat} {ws : va_W} {pc pc' : Nat} {lv : List (Nat × Value)} {st : List Value} {x y : Int32} {off : Int} {tgt : Nat} (K : jC E cc nL own h) (hd : decode cc pc = .ok (.if_icmp .eq off, 3)) (ht : (pc : Int) + off = (tgt : Int)) (hp : pc + 3 = pc') (kt : x = y → J E nL ws tgt lv st) (kf : ¬ (x = y) → J E nL ws pc' lv st) : J E nL ws pc lv (.int y :: .int x :: st) := by
  obtain ⟨p, l, e, R, s, m, args, below, meth, c, G, A, rw, Q, kc, ks⟩ := E
  subst hp
  intro H locs ls hP hD hS hl
  exact lv_icmp_eq K.1.1 K.1.2.1 hd ht (fun q => kt q H locs ls hP hD hS hl) (fun q => kf q H locs ls hP hD hS hl)
theorem j_if_ne {E : jE} {cc : ByteArray} {nL : Nat} {own : String} {h : Nat} {ws : va_W} {pc pc' : Nat} {lv : List (Nat × Value)} {st : List Value} {x : Int32} {off : Int} {tgt : Nat} (K : jC E cc nL own h) (hd : decode cc pc = .ok (.ifCond .ne off, 3)) (ht : (pc : Int) + off = (tgt : Int)) (hp : pc + 3 = pc') (kt : ¬ x = 0 → J E nL ws tgt lv st) (kf : x = 0 → J E nL ws pc' lv st) : J E nL ws pc lv (.int x :: st) := by
  obtain ⟨p, l, e, R, s, m, args, below, meth, c, G, A, rw, Q, kc, ks⟩ := E
  subst hp
  intro H locs ls hP hD hS hl
  exact lv_if_ne K.1.1 K.1.2.1 hd ht (fun q => kt q H locs ls hP hD hS hl) (fun q => kf q H locs ls hP hD hS hl)
theorem j_icmp_ne {E : jE} {cc : ByteArray} {nL : Nat} {own : String} {h : Nat} {ws : va_W} {pc pc' : Nat} {lv : List (Nat × Value)} {st : List Value} {x y : Int32} {off : Int} {tgt : Nat} (K : jC E cc nL own h) (hd : decode cc pc = .ok (.if_icmp .ne off, 3)) (ht : (pc : Int) + off = (tgt : Int)) (hp : pc + 3 = pc') (kt : ¬ x = y → J E nL ws tgt lv st) (kf : x = y → J E nL ws pc' lv st) : J E nL ws pc lv (.int y :: .int x :: st) := by
  obtain ⟨p, l, e, R, s, m, args, below, meth, c, G, A, rw, Q, kc, ks⟩ := E
  subst hp
  intro H locs ls hP hD hS hl
  exact lv_icmp_ne K.1.1 K.1.2.1 hd ht (fun q => kt q H locs ls hP hD hS hl) (fun q => kf q H locs ls hP hD hS hl)
theorem j_if_lt {E : jE} {cc : ByteArray} {nL : Nat} {own : String} {h : Nat} {ws : va_W} {pc pc' : Nat} {lv : List (Nat × Value)} {st : List Value} {x : Int32} {off : Int} {tgt : Nat} (K : jC E cc nL own h) (hd : decode cc pc = .ok (.ifCond .lt off, 3)) (ht : (pc : Int) + off = (tgt : Int)) (hp : pc + 3 = pc') (kt : x < 0 → J E nL ws tgt lv st) (kf : ¬ (x < 0) → J E nL ws pc' lv st) : J E nL ws pc lv (.int x :: st) := by
  obtain ⟨p, l, e, R, s, m, args, below, meth, c, G, A, rw, Q, kc, ks⟩ := E
  subst hp
  intro H locs ls hP hD hS hl
  exact lv_if_lt K.1.1 K.1.2.1 hd ht (fun q => kt q H locs ls hP hD hS hl) (fun q => kf q H locs ls hP hD hS hl)
theorem j_icmp_lt {E : jE} {cc : ByteArray} {nL : Nat} {own : String} {h : Nat} {ws : va_W} {pc pc' : Nat} {lv : List (Nat × Value)} {st : List Value} {x y : Int32} {off : Int} {tgt : Nat} (K : jC E cc nL own h) (hd : decode cc pc = .ok (.if_icmp .lt off, 3)) (ht : (pc : Int) + off = (tgt : Int)) (hp : pc + 3 = pc') (kt : x < y → J E nL ws tgt lv st) (kf : ¬ (x < y) → J E nL ws pc' lv st) : J E nL ws pc lv (.int y :: .int x :: st) := by
  obtain ⟨p, l, e, R, s, m, args, below, meth, c, G, A, rw, Q, kc, ks⟩ := E
  subst hp
  intro H locs ls hP hD hS hl
  exact lv_icmp_lt K.1.1 K.1.2.1 hd ht (fun q => kt q H locs ls hP hD hS hl) (fun q => kf q H locs ls hP hD hS hl)
theorem j_if_ge {E : jE} {cc : ByteArray} {nL : Nat} {own : String} {h : Nat} {ws : va_W} {pc pc' : Nat} {lv : List (Nat × Value)} {st : List Value} {x : Int32} {off : Int} {tgt : Nat} (K : jC E cc nL own h) (hd : decode cc pc = .ok (.ifCond .ge off, 3)) (ht : (pc : Int) + off = (tgt : Int)) (hp : pc + 3 = pc') (kt : 0 ≤ x → J E nL ws tgt lv st) (kf : ¬ (0 ≤ x) → J E nL ws pc' lv st) : J E nL ws pc lv (.int x :: st) := by
  obtain ⟨p, l, e, R, s, m, args, below, meth, c, G, A, rw, Q, kc, ks⟩ := E
  subst hp
  intro H locs ls hP hD hS hl
  exact lv_if_ge K.1.1 K.1.2.1 hd ht (fun q => kt q H locs ls hP hD hS hl) (fun q => kf q H locs ls hP hD hS hl)
theorem j_icmp_ge {E : jE} {cc : ByteArray} {nL : Nat} {own : String} {h : Nat} {ws : va_W} {pc pc' : Nat} {lv : List (Nat × Value)} {st : List Value} {x y : Int32} {off : Int} {tgt : Nat} (K : jC E cc nL own h) (hd : decode cc pc = .ok (.if_icmp .ge off, 3)) (ht : (pc : Int) + off = (tgt : Int)) (hp : pc + 3 = pc') (kt : y ≤ x → J E nL ws tgt lv st) (kf : ¬ (y ≤ x) → J E nL ws pc' lv st) : J E nL ws pc lv (.int y :: .int x :: st) := by
  obtain ⟨p, l, e, R, s, m, args, below, meth, c, G, A, rw, Q, kc, ks⟩ := E
  subst hp
  intro H locs ls hP hD hS hl
  exact lv_icmp_ge K.1.1 K.1.2.1 hd ht (fun q => kt q H locs ls hP hD hS hl) (fun q => kf q H locs ls hP hD hS hl)
theorem j_if_gt {E : jE} {cc : ByteArray} {nL : Nat} {own : String} {h : Nat} {ws : va_W} {pc pc' : Nat} {lv : List (Nat × Value)} {st : List Value} {x : Int32} {off : Int} {tgt : Nat} (K : jC E cc nL own h) (hd : decode cc pc = .ok (.ifCond .gt off, 3)) (ht : (pc : Int) + off = (tgt : Int)) (hp : pc + 3 = pc') (kt : 0 < x → J E nL ws tgt lv st) (kf : ¬ (0 < x) → J E nL ws pc' lv st) : J E nL ws pc lv (.int x :: st) := by
  obtain ⟨p, l, e, R, s, m, args, below, meth, c, G, A, rw, Q, kc, ks⟩ := E
  subst hp
  intro H locs ls hP hD hS hl
  exact lv_if_gt K.1.1 K.1.2.1 hd ht (fun q => kt q H locs ls hP hD hS hl) (fun q => kf q H locs ls hP hD hS hl)
theorem j_icmp_gt {E : jE} {cc : ByteArray} {nL : Nat} {own : String} {h : Nat} {ws : va_W} {pc pc' : Nat} {lv : List (Nat × Value)} {st : List Value} {x y : Int32} {off : Int} {tgt : Nat} (K : jC E cc nL own h) (hd : decode cc pc = .ok (.if_icmp .gt off, 3)) (ht : (pc : Int) + off = (tgt : Int)) (hp : pc + 3 = pc') (kt : y < x → J E nL ws tgt lv st) (kf : ¬ (y < x) → J E nL ws pc' lv st) : J E nL ws pc lv (.int y :: .int x :: st) := by
  obtain ⟨p, l, e, R, s, m, args, below, meth, c, G, A, rw, Q, kc, ks⟩ := E
  subst hp
  intro H locs ls hP hD hS hl
  exact lv_icmp_gt K.1.1 K.1.2.1 hd ht (fun q => kt q H locs ls hP hD hS hl) (fun q => kf q H locs ls hP hD hS hl)
theorem j_if_le {E : jE} {cc : ByteArray} {nL : Nat} {own : String} {h : Nat} {ws : va_W} {pc pc' : Nat} {lv : List (Nat × Value)} {st : List Value} {x : Int32} {off : Int} {tgt : Nat} (K : jC E cc nL own h) (hd : decode cc pc = .ok (.ifCond .le off, 3)) (ht : (pc : Int) + off = (tgt : Int)) (hp : pc + 3 = pc') (kt : x ≤ 0 → J E nL ws tgt lv st) (kf : ¬ (x ≤ 0) → J E nL ws pc' lv st) : J E nL ws pc lv (.int x :: st) := by
  obtain ⟨p, l, e, R, s, m, args, below, meth, c, G, A, rw, Q, kc, ks⟩ := E
  subst hp
  intro H locs ls hP hD hS hl
  exact lv_if_le K.1.1 K.1.2.1 hd ht (fun q => kt q H locs ls hP hD hS hl) (fun q => kf q H locs ls hP hD hS hl)
theorem j_icmp_le {E : jE} {cc : ByteArray} {nL : Nat} {own : String} {h : Nat} {ws : va_W} {pc pc' : Nat} {lv : List (Nat × Value)} {st : List Value} {x y : Int32} {off : Int} {tgt : Nat} (K : jC E cc nL own h) (hd : decode cc pc = .ok (.if_icmp .le off, 3)) (ht : (pc : Int) + off = (tgt : Int)) (hp : pc + 3 = pc') (kt : x ≤ y → J E nL ws tgt lv st) (kf : ¬ (x ≤ y) → J E nL ws pc' lv st) : J E nL ws pc lv (.int y :: .int x :: st) := by
  obtain ⟨p, l, e, R, s, m, args, below, meth, c, G, A, rw, Q, kc, ks⟩ := E
  subst hp
  intro H locs ls hP hD hS hl
  exact lv_icmp_le K.1.1 K.1.2.1 hd ht (fun q => kt q H locs ls hP hD hS hl) (fun q => kf q H locs ls hP hD hS hl)
theorem j_goto {E : jE} {cc : ByteArray} {nL : Nat} {own : String} {h : Nat} {ws : va_W} {pc pc' : Nat} {lv : List (Nat × Value)} {st : List Value} {off : Int} {tgt : Nat} (K : jC E cc nL own h) (hd : decode cc pc = .ok (.goto off, 3)) (ht : (pc : Int) + off = (tgt : Int)) (k : J E nL ws tgt lv st) : J E nL ws pc lv st := by
  obtain ⟨p, l, e, R, s, m, args, below, meth, c, G, A, rw, Q, kc, ks⟩ := E
  intro H locs ls hP hD hS hl
  exact lv_goto K.1.1 K.1.2.1 hd ht (k H locs ls hP hD hS hl)
theorem j_tabOut {E : jE} {cc : ByteArray} {nL : Nat} {own : String} {h : Nat} {ws : va_W} {pc pc' : Nat} {lv : List (Nat × Value)} {st : List Value} {dflt lo hi : Int} {offs : Array Int} {len : Nat} {x : Int32} {tgt : Nat} (K : jC E cc nL own h) (hd : decode cc pc = .ok (.tableswitch dflt lo hi offs, len)) (hx : x.toInt < lo ∨ hi < x.toInt) (ht : (pc : Int) + dflt = (tgt : Int)) (k : J E nL ws tgt lv st) : J E nL ws pc lv (.int x :: st) := by
  obtain ⟨p, l, e, R, s, m, args, below, meth, c, G, A, rw, Q, kc, ks⟩ := E
  intro H locs ls hP hD hS hl
  exact lv_tableOut K.1.1 K.1.2.1 hd hx ht (k H locs ls hP hD hS hl)
theorem j_tabIn {E : jE} {cc : ByteArray} {nL : Nat} {own : String} {h : Nat} {ws : va_W} {pc pc' : Nat} {lv : List (Nat × Value)} {st : List Value} {dflt lo hi : Int} {offs : Array Int} {len : Nat} {x : Int32} {off : Int} {tgt : Nat} (K : jC E cc nL own h) (hd : decode cc pc = .ok (.tableswitch dflt lo hi offs, len)) (h1 : ¬ x.toInt < lo) (h2 : ¬ hi < x.toInt) (ho : offs[(x.toInt - lo).toNat]? = some off) (ht : (pc : Int) + off = (tgt : Int)) (k : J E nL ws tgt lv st) : J E nL ws pc lv (.int x :: st) := by
  obtain ⟨p, l, e, R, s, m, args, below, meth, c, G, A, rw, Q, kc, ks⟩ := E
  intro H locs ls hP hD hS hl
  exact lv_tableIn K.1.1 K.1.2.1 hd h1 h2 ho ht (k H locs ls hP hD hS hl)
theorem j_sub {E : jE} {nL : Nat} {ws : va_W} {pc : Nat} {lv lv' : List (Nat × Value)} {st : List Value} (ks : List Nat) (hl' : lv_pick lv ks = lv') (k : J E nL ws pc lv' st) : J E nL ws pc lv st := by
  obtain ⟨p, l, e, R, s, m, args, below, meth, c, G, A, rw, Q, kc, ks0⟩ := E
  intro H locs ls hP hD hS hl
  exact k H locs ls hP hD hS (lv_sub hl ks hl')
theorem j_get {E : jE} {cc : ByteArray} {nL : Nat} {own : String} {h : Nat} {ws : va_W} {pc pc' : Nat} {lv : List (Nat × Value)} {st : List Value} {ref C : String} {T : u_T} {N ci index a : Nat} (K : jC E cc nL own h) (hd : decode cc pc = .ok (.getfield index, 3)) (hin : ∀ w ∈ u_ws C T N, w ∈ UW) (q0 : Nat) {fs : List Value} (he : ws[q0]? = some (a, .inr (ci, fs))) (hc : vwCl[ci]? = some (C, T, N)) (k0 : Nat) (hk : k0 < N) (hlink : Cond.fieldLink own index ref (T k0).2.1 (T k0).2.2.1 ∈ UW) (hr : ref = (T k0).1) {v : Value} (hv : fs[k0]? = some v) (hp : pc + 3 = pc') (k : J E nL ws pc' lv (v :: st)) : J E nL ws pc lv (.ref a :: st) := by
  obtain ⟨p, l, e, R, s, m, args, below, meth, c, G, A, rw, Q, kc, ks⟩ := E
  subst hp
  subst hr
  intro H locs ls hP hD hS hl
  exact va_get K.1.1 K.1.2.1 K.1.2.2.2.2 hin K.1.2.2.2.1 K.2.1.1 hP q0 he hc k0 hk (K.1.2.2.2.2 _ hlink) (fun _ q => q) hv hd (k H locs ls hP hD hS hl)
theorem j_put {E : jE} {cc : ByteArray} {nL : Nat} {own : String} {h : Nat} {ws : va_W} {pc pc' : Nat} {lv : List (Nat × Value)} {st : List Value} {ref C : String} {T : u_T} {N ci index a : Nat} {ws' : va_W} (K : jC E cc nL own h) (hd : decode cc pc = .ok (.putfield index, 3)) (hrw : jrw E) (hin : ∀ w ∈ u_ws C T N, w ∈ UW) (ty0 : Nat → FieldType) (hty : ∀ k, k < N → parseFieldDescriptor (T k).2.2.1 = some (ty0 k)) (hnm : ∀ a, a < N → ∀ b, b < N → a ≠ b → (T a).2.1 ≠ (T b).2.1) (q0 : Nat) {fs : List Value} (he : ws[q0]? = some (a, .inr (ci, fs))) (hc : vwCl[ci]? = some (C, T, N)) (k0 : Nat) (hk : k0 < N) (hlink : Cond.fieldLink own index ref (T k0).2.1 (T k0).2.2.1 ∈ UW) (hr : ref = (T k0).1) (hfin : (T k0).2.2.2 = false) {v : Value} (hn : narrow (ty0 k0) v = v) (hfit : fits (ty0 k0) v = true) (hl0 : k0 < fs.length) (hw : ws.set q0 (a, .inr (ci, fs.set k0 v)) = ws') (hp : pc + 3 = pc') (k : J E nL ws' pc' lv st) : J E nL ws pc lv (v :: .ref a :: st) := by
  obtain ⟨p, l, e, R, s, m, args, below, meth, c, G, A, rw, Q, kc, ks⟩ := E
  subst hp
  subst hr
  subst hw
  intro H locs ls hP hD hS hl
  exact va_put K.1.1 K.1.2.1 K.1.2.2.2.2 hin ty0 hty hnm K.1.2.2.2.1 K.2.1.1 hP (hD hrw) hS q0 he hc k0 hk (K.1.2.2.2.2 _ hlink) (fun _ q => q) hfin (hty k0 hk) hn hfit hl0 hd (fun H1 locs1 hP1 hD1 hS1 => k H1 locs1 ls hP1 (fun _ => hD1) hS1 hl)
theorem j_iald {E : jE} {cc : ByteArray} {nL : Nat} {own : String} {h : Nat} {ws : va_W} {pc pc' : Nat} {lv : List (Nat × Value)} {st : List Value} {a n : Nat} {f : Nat → Int32} {i : Int32} (K : jC E cc nL own h) (hd : decode cc pc = .ok (.iaload, 1)) (q0 : Nat) (ha : ws[q0]? = some (a, .inl ((jg E).2.1 0, n, .inl f))) (hi : vp_in i n) (hp : pc + 1 = pc') (k : J E nL ws pc' lv (.int (f i.toNatClampNeg) :: st)) : J E nL ws pc lv (.int i :: .ref a :: st) := by
  obtain ⟨p, l, e, R, s, m, args, below, meth, c, G, A, rw, Q, kc, ks⟩ := E
  subst hp
  intro H locs ls hP hD hS hl
  exact va_iald K.1.1 K.1.2.1 K.2.1.1 hP q0 0 ha rfl hi hd (k H locs ls hP hD hS hl)
theorem j_bald {E : jE} {cc : ByteArray} {nL : Nat} {own : String} {h : Nat} {ws : va_W} {pc pc' : Nat} {lv : List (Nat × Value)} {st : List Value} {a n : Nat} {f : Nat → Int32} {i : Int32} (K : jC E cc nL own h) (hd : decode cc pc = .ok (.baload, 1)) (q0 : Nat) (ha : ws[q0]? = some (a, .inl ((jg E).2.1 2, n, .inl f))) (hi : vp_in i n) (hp : pc + 1 = pc') (k : J E nL ws pc' lv (.int (f i.toNatClampNeg) :: st)) : J E nL ws pc lv (.int i :: .ref a :: st) := by
  obtain ⟨p, l, e, R, s, m, args, below, meth, c, G, A, rw, Q, kc, ks⟩ := E
  subst hp
  intro H locs ls hP hD hS hl
  exact va_bald K.1.1 K.1.2.1 K.2.1.1 hP q0 2 ha rfl hi hd (k H locs ls hP hD hS hl)
theorem j_zald {E : jE} {cc : ByteArray} {nL : Nat} {own : String} {h : Nat} {ws : va_W} {pc pc' : Nat} {lv : List (Nat × Value)} {st : List Value} {a n : Nat} {f : Nat → Int32} {i : Int32} (K : jC E cc nL own h) (hd : decode cc pc = .ok (.baload, 1)) (q0 : Nat) (ha : ws[q0]? = some (a, .inl ((jg E).2.1 3, n, .inl f))) (hi : vp_in i n) (hp : pc + 1 = pc') (k : J E nL ws pc' lv (.int (f i.toNatClampNeg) :: st)) : J E nL ws pc lv (.int i :: .ref a :: st) := by
  obtain ⟨p, l, e, R, s, m, args, below, meth, c, G, A, rw, Q, kc, ks⟩ := E
  subst hp
  intro H locs ls hP hD hS hl
  exact va_zald K.1.1 K.1.2.1 K.2.1.1 hP q0 3 ha rfl hi hd (k H locs ls hP hD hS hl)
theorem j_lald {E : jE} {cc : ByteArray} {nL : Nat} {own : String} {h : Nat} {ws : va_W} {pc pc' : Nat} {lv : List (Nat × Value)} {st : List Value} {a n : Nat} {f : Nat → Int64} {i : Int32} (K : jC E cc nL own h) (hd : decode cc pc = .ok (.laload, 1)) (q0 : Nat) (ha : ws[q0]? = some (a, .inl ((jg E).2.1 1, n, .inr (.inl f)))) (hi : vp_in i n) (hp : pc + 1 = pc') (k : J E nL ws pc' lv (.long (f i.toNatClampNeg) :: st)) : J E nL ws pc lv (.int i :: .ref a :: st) := by
  obtain ⟨p, l, e, R, s, m, args, below, meth, c, G, A, rw, Q, kc, ks⟩ := E
  subst hp
  intro H locs ls hP hD hS hl
  exact va_lald K.1.1 K.1.2.1 K.2.1.1 hP q0 1 ha rfl hi hd (k H locs ls hP hD hS hl)
theorem j_iast {E : jE} {cc : ByteArray} {nL : Nat} {own : String} {h : Nat} {ws : va_W} {pc pc' : Nat} {lv : List (Nat × Value)} {st : List Value} {a n : Nat} {f : Nat → Int32} {i : Int32} {x : Int32} {ws' : va_W} (K : jC E cc nL own h) (hd : decode cc pc = .ok (.iastore, 1)) (hrw : jrw E) (q0 : Nat) (ha : ws[q0]? = some (a, .inl ((jg E).2.1 0, n, .inl f))) (hi : vp_in i n) (hw : ws.set q0 (a, .inl ((jg E).2.1 0, n, .inl (upd f i.toNatClampNeg x))) = ws') (hp : pc + 1 = pc') (k : J E nL ws' pc' lv st) : J E nL ws pc lv (.int x :: .int i :: .ref a :: st) := by
  obtain ⟨p, l, e, R, s, m, args, below, meth, c, G, A, rw, Q, kc, ks⟩ := E
  subst hp
  subst hw
  intro H locs ls hP hD hS hl
  exact va_iast K.1.1 K.1.2.1 K.2.1.1 hP (hD hrw) hS q0 0 ha rfl hi hd (fun H1 locs1 hP1 hD1 hS1 => k H1 locs1 ls hP1 (fun _ => hD1) hS1 hl)
theorem j_bast {E : jE} {cc : ByteArray} {nL : Nat} {own : String} {h : Nat} {ws : va_W} {pc pc' : Nat} {lv : List (Nat × Value)} {st : List Value} {a n : Nat} {f : Nat → Int32} {i : Int32} {x : Int32} {ws' : va_W} (K : jC E cc nL own h) (hd : decode cc pc = .ok (.bastore, 1)) (hrw : jrw E) (q0 : Nat) (ha : ws[q0]? = some (a, .inl ((jg E).2.1 2, n, .inl f))) (hi : vp_in i n) (hw : ws.set q0 (a, .inl ((jg E).2.1 2, n, .inl (upd f i.toNatClampNeg (vp_nar .byte x)))) = ws') (hp : pc + 1 = pc') (k : J E nL ws' pc' lv st) : J E nL ws pc lv (.int x :: .int i :: .ref a :: st) := by
  obtain ⟨p, l, e, R, s, m, args, below, meth, c, G, A, rw, Q, kc, ks⟩ := E
  subst hp
  subst hw
  intro H locs ls hP hD hS hl
  exact va_bast K.1.1 K.1.2.1 K.2.1.1 hP (hD hrw) hS q0 2 ha rfl hi hd (fun H1 locs1 hP1 hD1 hS1 => k H1 locs1 ls hP1 (fun _ => hD1) hS1 hl)
theorem j_zast {E : jE} {cc : ByteArray} {nL : Nat} {own : String} {h : Nat} {ws : va_W} {pc pc' : Nat} {lv : List (Nat × Value)} {st : List Value} {a n : Nat} {f : Nat → Int32} {i : Int32} {x : Int32} {ws' : va_W} (K : jC E cc nL own h) (hd : decode cc pc = .ok (.bastore, 1)) (hrw : jrw E) (q0 : Nat) (ha : ws[q0]? = some (a, .inl ((jg E).2.1 3, n, .inl f))) (hi : vp_in i n) (hw : ws.set q0 (a, .inl ((jg E).2.1 3, n, .inl (upd f i.toNatClampNeg (vp_nar .boolean x)))) = ws') (hp : pc + 1 = pc') (k : J E nL ws' pc' lv st) : J E nL ws pc lv (.int x :: .int i :: .ref a :: st) := by
  obtain ⟨p, l, e, R, s, m, args, below, meth, c, G, A, rw, Q, kc, ks⟩ := E
  subst hp
  subst hw
  intro H locs ls hP hD hS hl
  exact va_zast K.1.1 K.1.2.1 K.2.1.1 hP (hD hrw) hS q0 3 ha rfl hi hd (fun H1 locs1 hP1 hD1 hS1 => k H1 locs1 ls hP1 (fun _ => hD1) hS1 hl)
theorem j_last {E : jE} {cc : ByteArray} {nL : Nat} {own : String} {h : Nat} {ws : va_W} {pc pc' : Nat} {lv : List (Nat × Value)} {st : List Value} {a n : Nat} {f : Nat → Int64} {i : Int32} {x : Int64} {ws' : va_W} (K : jC E cc nL own h) (hd : decode cc pc = .ok (.lastore, 1)) (hrw : jrw E) (q0 : Nat) (ha : ws[q0]? = some (a, .inl ((jg E).2.1 1, n, .inr (.inl f)))) (hi : vp_in i n) (hw : ws.set q0 (a, .inl ((jg E).2.1 1, n, .inr (.inl (vp_updL f i.toNatClampNeg x)))) = ws') (hp : pc + 1 = pc') (k : J E nL ws' pc' lv st) : J E nL ws pc lv (.long x :: .int i :: .ref a :: st) := by
  obtain ⟨p, l, e, R, s, m, args, below, meth, c, G, A, rw, Q, kc, ks⟩ := E
  subst hp
  subst hw
  intro H locs ls hP hD hS hl
  exact va_last K.1.1 K.1.2.1 K.2.1.1 hP (hD hrw) hS q0 1 ha rfl hi hd (fun H1 locs1 hP1 hD1 hS1 => k H1 locs1 ls hP1 (fun _ => hD1) hS1 hl)
theorem j_alen {E : jE} {cc : ByteArray} {nL : Nat} {own : String} {h : Nat} {ws : va_W} {pc pc' : Nat} {lv : List (Nat × Value)} {st : List Value} {a : Nat} {cA : ClassId} {x : vp_A} {ty : FieldType} {v : Int32} (K : jC E cc nL own h) (hd : decode cc pc = .ok (.arraylength, 1)) (q0 t0 : Nat) (ha : ws[q0]? = some (a, .inl (cA, x))) (ht : (jTY (jg E).2.1)[t0]? = some (cA, ty)) (hv : Int32.ofNat x.1 = v) (hp : pc + 1 = pc') (k : J E nL ws pc' lv (.int v :: st)) : J E nL ws pc lv (.ref a :: st) := by
  obtain ⟨p, l, e, R, s, m, args, below, meth, c, G, A, rw, Q, kc, ks⟩ := E
  subst hp
  intro H locs ls hP hD hS hl
  exact va_alen K.1.1 K.1.2.1 K.2.1.1 hP q0 t0 ha ht hv hd (k H locs ls hP hD hS hl)
theorem j_aald {E : jE} {cc : ByteArray} {nL : Nat} {own : String} {h : Nat} {ws : va_W} {pc pc' : Nat} {lv : List (Nat × Value)} {st : List Value} {a n r : Nat} {C : String} {cA : ClassId} {f : Nat → Option Nat} {i : Int32} (K : jC E cc nL own h) (hd : decode cc pc = .ok (.aaload, 1)) (q0 t0 : Nat) (ha : ws[q0]? = some (a, .inl (cA, n, .inr (.inr (.inr (.inr f)))))) (ht : (jTY (jg E).2.1)[t0]? = some (cA, .object C)) (hi : vp_in i n) (hr : f i.toNatClampNeg = some r) (hp : pc + 1 = pc') (k : J E nL ws pc' lv (.ref r :: st)) : J E nL ws pc lv (.int i :: .ref a :: st) := by
  obtain ⟨p, l, e, R, s, m, args, below, meth, c, G, A, rw, Q, kc, ks⟩ := E
  subst hp
  intro H locs ls hP hD hS hl
  refine va_aldq K.1.1 K.1.2.1 K.2.1.1 hP q0 t0 ha ht hi hd ?_
  rw [hr]
  exact k H locs ls hP hD hS hl
theorem j_getsN {E : jE} {cc : ByteArray} {nL : Nat} {own : String} {h : Nat} {ws : va_W} {pc pc' : Nat} {lv : List (Nat × Value)} {st : List Value} {index : Nat} {host : String} (K : jC E cc nL own h) (hd : decode cc pc = .ok (.getstatic index, 3)) (hlink : (own, index, "CountTriangles", "FACTORIALS", "[I", host) ∈ jNF) (hp : pc + 3 = pc') (k : J E nL ws pc' lv (.ref (jg E).2.2 :: st)) : J E nL ws pc lv st := by
  obtain ⟨p, l, e, R, s, m, args, below, meth, c, G, A, rw, Q, kc, ks⟩ := E
  subst hp
  intro H locs ls hP hD hS hl
  exact va_getsN K.1.1 K.1.2.1 K.2.2.1.1 hS K.1.2.2.2.1 (va_Nw.use rfl (K.2.1.2.1 _ hlink)) (fun _ q => q) hd (k H locs ls hP hD hS hl)
theorem j_fald {E : jE} {cc : ByteArray} {nL : Nat} {own : String} {h : Nat} {ws : va_W} {pc pc' : Nat} {lv : List (Nat × Value)} {st : List Value} {i : Int32} (K : jC E cc nL own h) (hd : decode cc pc = .ok (.iaload, 1)) (hi : vp_in i 9) (hp : pc + 1 = pc') (k : J E nL ws pc' lv (.int (jfac i.toNatClampNeg) :: st)) : J E nL ws pc lv (.int i :: .ref (jg E).2.2 :: st) := by
  obtain ⟨p, l, e, R, s, m, args, below, meth, c, G, A, rw, Q, kc, ks⟩ := E
  subst hp
  intro H locs ls hP hD hS hl
  obtain ⟨cell, h1, h2, h3, h4, h5, h6, h7⟩ := K.2.2.1.2
  have hlt : i.toNatClampNeg < 9 := Nat.not_le.mp fun q => hi (Or.inr q)
  have hcell : H[G.2.2]? = some cell := by rw [hS.2.1 _ (Array.getElem?_eq_some_iff.mp h1).1 h7]; exact h1
  exact W.iald K.1.1 K.1.2.1 hcell h2 h3 (fun q => hi (q.imp id (fun z => Nat.le_trans h4 z))) (h6 _ hlt) rfl rfl hd (k H locs ls hP hD hS hl)
end
section
/-! ===== contracts out of J, calls ===== -/
theorem jad_D {ws : va_W} (h : va_D (fun _ => True) ws) : va_D (jad ws) ws := ⟨h.1, fun k q hk => List.mem_map.mpr ⟨q, List.mem_of_getElem? hk, rfl⟩⟩
theorem va_D_addr {A : Nat → Prop} {ws ws' : va_W} (ha : ws'.map Prod.fst = ws.map Prod.fst) (h : va_D A ws) : va_D A ws' := by
  have key : ∀ (k : Nat) (q : Nat × va_E), ws'[k]? = some q → ∃ q2, ws[k]? = some q2 ∧ q2.1 = q.1 := by
    intro k q hk
    have h1 : (ws'.map Prod.fst)[k]? = some q.1 := by rw [List.getElem?_map, hk]; rfl
    rw [ha, List.getElem?_map] at h1
    obtain ⟨q2, e1, e2⟩ := Option.map_eq_some_iff.mp h1
    exact ⟨q2, e1, e2⟩
  refine ⟨fun i j p q hi hj hpq => ?_, fun k q hk => ?_⟩
  · obtain ⟨p2, a1, a2⟩ := key i p hi
    obtain ⟨q2, b1, b2⟩ := key j q hj
    exact h.1 i j p2 q2 a1 b1 (by rw [a2, b2]; exact hpq)
  · obtain ⟨q2, b1, b2⟩ := key k q hk
    rw [← b2]
    exact h.2 k q2 b1
theorem jC.hts {p : Program} {l : Launch} {e : Env} {R : Room} {s : State} {m : MethodId} {args : Array Value} {below : List Frame} {meth : Method} {c : Code} {G : jG} {A : Nat → Prop} {rw : Prop} {Q : State → Prop} {kc ks : Nat} {cc : ByteArray} {nL : Nat} {own : String} {h : Nat} (K : jC (p, l, e, R, s, m, args, below, meth, c, G, A, rw, Q, kc, ks) cc nL own h) : ∀ w ∈ UW, w.before args s = true := K.1.2.2.2.2
/-- what a return needs -/
def jRI (E : jE) (cc : ByteArray) (n : Nat) (ws' : va_W) (r : Int32) : Prop := ∀ (pc : Nat) (lv : List (Nat × Value)), decode cc pc = .ok (.ireturn, 1) → J E n ws' pc lv [.int r]
def jRL (E : jE) (cc : ByteArray) (n : Nat) (ws' : va_W) (r : Int64) : Prop := ∀ (pc : Nat) (lv : List (Nat × Value)), decode cc pc = .ok (.lreturn, 1) → J E n ws' pc lv [.long r]
def jRV (E : jE) (cc : ByteArray) (n : Nat) (ws' : va_W) : Prop := ∀ (pc : Nat) (lv : List (Nat × Value)), decode cc pc = .ok (.return_, 1) → J E n ws' pc lv []
section MCof
variable {l : Launch} {y : MethodName} {cc : ByteArray} {n h : Nat} {G : jG} {A : Nat → Prop} {rw : Prop} {ws ws' : va_W} {av : List Value}
theorem mc_of {ret : Option FieldType} {o : Option Value} (hy : plainName y.cls = true) (hn : (lg_sl av).length ≤ n)
    (body : ∀ (p : Program) (e : Env) (s : State) (m : MethodId) (below : List Frame) (meth : Method) (c : Code),
      jC (p, l, e, jR h, s, m, av.toArray, below, meth, c, G, A, rw, MQ below (fun _ st oc t => oc = .returned o ∧ va_P G.1 vwCl ws' t.heap ∧ va_F A st t) av.toArray s 0 0 A, 0, 0) cc n y.cls h →
      meth.sig.returnType = ret → meth.locks = false →
      J (p, l, e, jR h, s, m, av.toArray, below, meth, c, G, A, rw, MQ below (fun _ st oc t => oc = .returned o ∧ va_P G.1 vwCl ws' t.heap ∧ va_F A st t) av.toArray s 0 0 A, 0, 0) n ws 0 (lv_args 0 av) []) :
    MC l y cc n ret h G A rw ws ws' av o := by
  refine Met.ofW (cc := cc) (maxL := n) (ret := ret) hy rfl ?_
  intro p e s m args below meth c s₁ B hml hv
  obtain ⟨rfl, hP, hD, hU, hF⟩ := hv
  have hx := B.exec
  have hb := B.bytes
  have hr := B.returns
  have hts := atoms_spec (ws := Cond.code y cc n ret :: UW) B.pre
  have hown : s.vm.findClass y.cls = some m.cls := findClass_of_methodNamed B.named
  have hl := lv_entry av (n := n) hn
  rw [lg_entry_eq]
  generalize (lg_sl av ++ List.replicate (n - (lg_sl av).length) Slot.unset).toArray = ls at hl ⊢
  exact body p e s m below meth c ⟨⟨hx, hb, hml, hown, fun w hw => hts w (List.mem_cons_of_mem _ hw)⟩, hU, hF, Nat.le_refl _, Nat.le_refl _, Nat.le_refl _, Nat.le_refl _⟩ hr B.notSynchronized s.heap [] ls hP hD va_S.rf hl
theorem mc_int {r : Int32} (hy : plainName y.cls = true) (hn : (lg_sl av).length ≤ n)
    (body : ∀ E : jE, jl E = l → jg E = G → jA E = A → jrw E = rw → jC E cc n y.cls h → jRI E cc n ws' r → J E n ws 0 (lv_args 0 av) []) : MC l y cc n (some .int) h G A rw ws ws' av (some (.int r)) := by
  refine mc_of hy hn fun p e s m below meth c K hr hlocks => body _ rfl rfl rfl rfl K ?_
  intro pc lv hd H locs ls hP hD hS hl
  exact W.iret K.1.1 K.1.2.1 hr (fun t ht hW => ⟨rfl, by rw [ht]; exact hP, hS.F ht⟩) hS.2.2 hd hlocks
theorem mc_bool {r : Int32} (hz : r = 0 ∨ r = 1) (hy : plainName y.cls = true) (hn : (lg_sl av).length ≤ n)
    (body : ∀ E : jE, jl E = l → jg E = G → jA E = A → jrw E = rw → jC E cc n y.cls h → jRI E cc n ws' r → J E n ws 0 (lv_args 0 av) []) : MC l y cc n (some .boolean) h G A rw ws ws' av (some (.int r)) := by
  refine mc_of hy hn fun p e s m below meth c K hr hlocks => body _ rfl rfl rfl rfl K ?_
  intro pc lv hd H locs ls hP hD hS hl
  exact W.zret K.1.1 K.1.2.1 hr (jzb_n hz) (fun t ht hW => ⟨rfl, by rw [ht]; exact hP, hS.F ht⟩) hS.2.2 hd hlocks
theorem mc_long {r : Int64} (hy : plainName y.cls = true) (hn : (lg_sl av).length ≤ n)
    (body : ∀ E : jE, jl E = l → jg E = G → jA E = A → jrw E = rw → jC E cc n y.cls h → jRL E cc n ws' r → J E n ws 0 (lv_args 0 av) []) : MC l y cc n (some .long) h G A rw ws ws' av (some (.long r)) := by
  refine mc_of hy hn fun p e s m below meth c K hr hlocks => body _ rfl rfl rfl rfl K ?_
  intro pc lv hd H locs ls hP hD hS hl
  exact W.lret K.1.1 K.1.2.1 hr (fun t ht hW => ⟨rfl, by rw [ht]; exact hP, hS.F ht⟩) hS.2.2 hd hlocks
theorem mc_void (hy : plainName y.cls = true) (hn : (lg_sl av).length ≤ n)
    (body : ∀ E : jE, jl E = l → jg E = G → jA E = A → jrw E = rw → jC E cc n y.cls h → jRV E cc n ws' → J E n ws 0 (lv_args 0 av) []) : MC l y cc n none h G A rw ws ws' av none := by
  refine mc_of hy hn fun p e s m below meth c K hr hlocks => body _ rfl rfl rfl rfl K ?_
  intro pc lv hd H locs ls hP hD hS hl
  exact W.vret K.1.1 K.1.2.1 hr (fun t ht hW => ⟨rfl, by rw [ht]; exact hP, hS.F ht⟩) hS.2.2 hd hlocks
end MCof
/-! behind a call -/
theorem j_after {p : Program} {l : Launch} {e : Env} {R : Room} {s : State} {m : MethodId} {args : Array Value} {below : List Frame} {meth : Method} {c : Code} {H : Heap} {locs : List Loc} {cells slots : Nat} {Q : State → Prop} {pc : Nat} {ls : Array Slot} {rest st0 : List Value} {A0 A2 : Nat → Prop} {H0 : Heap} {D : va_G} {cl : List vw_C} {ws2 : va_W} {o : Option Value}
    (hr : va_Run p l e R s m args below meth c H locs cells slots 0 0 (F0 m pc ls st0) rest (fun st oc t => oc = .returned o ∧ va_P D cl ws2 t.heap ∧ va_F A2 st t) A2) (hS : va_S A0 H0 H locs) (hA : ∀ q, A2 q → A0 q)
    (kk : ∀ (H1 : Heap) (locs1 : List Loc), va_P D cl ws2 H1 → H.size ≤ H1.size → (∀ q : Nat, q < H.size → ¬ A2 q → H1[q]? = H[q]?) → va_S A0 H0 H1 locs1 → W p l e R s m args below meth c H1 locs1 cells slots Q (F0 m (pc + 3) ls (o.toList ++ rest))) : W p l e R s m args below meth c H locs cells slots Q (F0 m pc ls st0) := by
  intro T hT X
  obtain ⟨v, st₀, t, T', L, h0, X', hL, e1, e2, ⟨hv, hp, hz, hk⟩, st⟩ := hr T hT X
  cases hv
  rw [h0] at hz hk
  obtain ⟨t2, a1, b1⟩ := kk T'.heap (locs ++ L) (by rw [e1]; exact hp) (by rw [e1]; exact hz) (fun q h1 h2 => by rw [e1]; exact hk q h1 h2)
    ⟨Nat.le_trans hS.1 (by rw [e1]; exact hz), fun q h1 h2 => by rw [e1, hk q (Nat.lt_of_lt_of_le h1 hS.1) (fun z => h2 (hA q z))]; exact hS.2.1 q h1 h2, fun q hq => by
      rcases List.mem_append.mp hq with h | h
      · exact hS.2.2 q h
      · exact hA _ (hL q h)⟩ T' rfl X'
  exact ⟨t2, st t2 a1, b1⟩
/-- cells of ws at the places is replaced by those of w2 -/
def jmrg (ws : va_W) : List Nat → va_W → va_W
  | i :: is, q :: w2 => (jmrg ws is w2).set i q
  | _, _ => ws
theorem jmrg_at {ws : va_W} : ∀ {is : List Nat} {w2 : va_W} {k : Nat} {q : Nat × va_E}, (jmrg ws is w2)[k]? = some q → q ∈ w2 ∨ (k ∉ is.take w2.length ∧ ws[k]? = some q)
  | [], w2, k, q, h => Or.inr ⟨by simp, by cases w2 <;> exact h⟩
  | i :: is, [], k, q, h => Or.inr ⟨by simp, h⟩
  | i :: is, q0 :: w2, k, q, h => by
    have h1 : ((jmrg ws is w2).set i q0)[k]? = some q := h
    by_cases c : i = k
    · subst c
      rw [List.getElem?_set] at h1
      simp only [if_true] at h1
      split at h1
      · left
        rw [← Option.some.inj h1]
        exact List.mem_cons_self
      · cases h1
    · rw [List.getElem?_set_ne c] at h1
      rcases jmrg_at h1 with z | ⟨z1, z2⟩
      · exact Or.inl (List.mem_cons_of_mem _ z)
      · refine Or.inr ⟨?_, z2⟩
        simp only [List.length_cons, List.take_succ_cons, List.mem_cons, not_or]
        exact ⟨fun e => c e.symm, z1⟩
theorem j_mrgP {A : Nat → Prop} {D : va_G} {cl : List vw_C} {ws ws2 ws2' : va_W} {H H1 : Heap} {is : List Nat} (hP : va_P D cl ws H) (hD : va_D A ws) (hs : is.map (fun i => ws[i]?) = ws2.map some) (hlen : ws2'.length = ws2.length) (hP2 : va_P D cl ws2' H1)
    (hk : ∀ q : Nat, q < H.size → ¬ jad ws2 q → H1[q]? = H[q]?) : va_P D cl (jmrg ws is ws2') H1 := by
  have hll : is.length = ws2.length := by have h := congrArg List.length hs; simpa using h
  intro k q hq
  rcases jmrg_at hq with z | ⟨z1, z2⟩
  · obtain ⟨j, hj⟩ := List.getElem?_of_mem z
    exact hP2 j q hj
  · refine (hP k q z2).kept (hk _ (hP k q z2).lt fun hmem => ?_)
    obtain ⟨q2, m1, m2⟩ := List.mem_map.mp hmem
    obtain ⟨j, hj⟩ := List.getElem?_of_mem m1
    have h1 : (ws2.map some)[j]? = some (some q2) := by rw [List.getElem?_map, hj]; rfl
    rw [← hs, List.getElem?_map] at h1
    obtain ⟨i, e1, e2⟩ := Option.map_eq_some_iff.mp h1
    have := hD.1 i k q2 q e2 z2 m2
    subst this
    rw [hlen, ← hll, List.take_length] at z1
    exact z1 (List.mem_of_getElem? e1)
section JCALL
variable {E : jE} {cc : ByteArray} {nL : Nat} {own : String} {h : Nat} {ws : va_W} {pc pc' : Nat} {lv : List (Nat × Value)} {st st0 : List Value}
variable {y : MethodName} {cc2 : ByteArray} {n2 h2 index b ci : Nat} {ret : Option FieldType} {ws2 ws2' : va_W} {av : List Value} {o : Option Value} {fs : List Value} {C : String} {T : u_T} {N : Nat}
theorem goodUW (hc : Cond.code y cc2 n2 ret ∈ UW) : GoodIn UW (Cond.code y cc2 n2 ret :: UW) := fun w hw => by
  rcases List.mem_cons.mp hw with rfl | hw
  · exact ⟨hc, UW_good _ hc⟩
  · exact ⟨hw, UW_good _ hw⟩
def jOk (y : MethodName) (n2 h2 h k : Nat) : Prop := (y.cls ≠ "java/lang/invoke/MethodHandle" ∧ y.cls ≠ "java/lang/invoke/VarHandle" ∧ (parseMethodDescriptor y.desc).map (fun d => d.parameters.length) = some k) ∧ h2 + 1 ≤ h ∧ n2 ≤ 17
theorem jroom {n2 h2 h L : Nat} (h1 : h2 + 1 ≤ h) (h3 : n2 ≤ 17) (hL : 36 * h ≤ L) : 8 + (n2 + 11) + (jR h2).locals ≤ L := by
  show 8 + (n2 + 11) + 36 * h2 ≤ L
  omega
/-- the four ways of a call, as one: what the machine does, given the callee's contract and what it asks -/
def jRun (E : jE) (pc : Nat) (nL : Nat) (st0 rest : List Value) (Pc : Array Value → State → Prop) (Qc : Array Value → State → Outcome → State → Prop) (A2 : Nat → Prop) (as : List Value) (H : Heap) : Prop := match E with
  | (p, l, e, R, s, m, args, below, meth, c, _, _, _, _, kc, ks) => (∀ U : State, U.heap = H → s.WarmedH U.vm → Pc as.toArray U) → ∀ (locs : List Loc) (ls : Array Slot), ls.size = nL → va_Run p l e R s m args below meth c H locs kc ks 0 0 (F0 m pc ls st0) rest (Qc as.toArray) A2
theorem mc_blind {G : jG} {A : Nat → Prop} {rw : Prop} {ws : va_W} {av : List Value} : FrameBlind (va_Pc av (fun U => va_P G.1 vwCl ws U.heap ∧ (rw → va_D A ws) ∧ jU G U ∧ jF A G U U.heap)) := fun a U g mk q =>
  ⟨q.1, q.2.1, q.2.2.1, q.2.2.2.1.vm rfl, q.2.2.2.2.moved (u := U) (U := U.calling g mk a) (Vm.Alike.refl U.vm)⟩
abbrev jP (G : jG) (A : Nat → Prop) (rw : Prop) (ws : va_W) (av : List Value) : Array Value → State → Prop := va_Pc av (fun U => va_P G.1 vwCl ws U.heap ∧ (rw → va_D A ws) ∧ jU G U ∧ jF A G U U.heap)
abbrev jQ (G : jG) (A : Nat → Prop) (ws' : va_W) (o : Option Value) : Array Value → State → Outcome → State → Prop := fun _ st oc t => oc = .returned o ∧ va_P G.1 vwCl ws' t.heap ∧ va_F A st t
variable {A2 : Nat → Prop} {rw2 : Prop}
theorem jrun_S (K : jC E cc nL own h) (hd : decode cc pc = .ok (.invokestatic index, 3)) (hM : MC (jl E) y cc2 n2 ret h2 (jg E) A2 rw2 ws2 ws2' av o) (hc : Cond.code y cc2 n2 ret ∈ UW) (hlk : Cond.methodLink own index y ∈ UW) (hst : Cond.static y ∈ UW) (hini : Cond.initialized y.cls ∈ UW) (hok : jOk y n2 h2 h av.length) (hstk : st0 = av.reverse ++ st) (hroom : (st.map fun v => v.category).sum ≤ 8) (H : Heap) :
    jRun E pc nL st0 st (jP (jg E) A2 rw2 ws2 av) (jQ (jg E) A2 ws2' o) A2 av H := by
  obtain ⟨p, l, e, R, s, m, args, below, meth, c, G, A, rw, Q, kc, ks⟩ := E
  intro hPc locs ls hls
  refine va_runS K.1 hM ⟨callB_of (ws := Cond.code y cc2 n2 ret :: UW) av.length K.hts (goodUW hc) rfl rfl rfl (K.hts _ hini) (K.hts _ hlk) hok.1 ⟨Nat.le_trans hok.2.1 K.2.2.2.1, jroom hok.2.1 hok.2.2 K.2.2.2.2.1⟩, K.hts _ hst⟩ ⟨mc_blind, hPc⟩ rfl rfl hls hstk (lv_room hroom) hd ⟨K.2.2.2.2.2.1, K.2.2.2.2.2.2⟩
theorem jrun_SN (K : jC E cc nL own h) (hd : decode cc pc = .ok (.invokestatic index, 3)) {host : String} (hM : MC (jl E) y cc2 n2 ret h2 (jg E) A2 rw2 ws2 ws2' av o) (hc : Cond.code y cc2 n2 ret ∈ UW) (hlk : (own, index, y, host) ∈ jNM) (hst : Cond.static y ∈ UW) (hini : Cond.initialized y.cls ∈ UW) (hok : jOk y n2 h2 h av.length) (hstk : st0 = av.reverse ++ st) (hroom : (st.map fun v => v.category).sum ≤ 8) (H : Heap) :
    jRun E pc nL st0 st (jP (jg E) A2 rw2 ws2 av) (jQ (jg E) A2 ws2' o) A2 av H := by
  obtain ⟨p, l, e, R, s, m, args, below, meth, c, G, A, rw, Q, kc, ks⟩ := E
  intro hPc locs ls hls
  refine va_runSN (host := host) K.1 hM ⟨va_cnB (ws := Cond.code y cc2 n2 ret :: UW) av.length K.hts (goodUW hc) rfl rfl rfl (K.2.1.2.2.1 _ hlk) (K.hts _ hini) hok.1 ⟨Nat.le_trans hok.2.1 K.2.2.2.1, jroom hok.2.1 hok.2.2 K.2.2.2.2.1⟩, K.hts _ hst, trivial⟩ ⟨mc_blind, hPc⟩ rfl rfl hls hstk (lv_room hroom) hd ⟨K.2.2.2.2.2.1, K.2.2.2.2.2.2⟩
theorem jrun_V (K : jC E cc nL own h) (hd : decode cc pc = .ok (.invokevirtual index, 3)) (hM : MC (jl E) y cc2 n2 ret h2 (jg E) A2 rw2 ws2 ws2' (.ref b :: av) o) (hc : Cond.code y cc2 n2 ret ∈ UW) (hlk : Cond.methodLink own index y ∈ UW) (hins : Cond.instanceMethod y ∈ UW) (hsel : Cond.selects C y y ∈ UW) (hini : Cond.initialized y.cls ∈ UW) (hok : jOk y n2 h2 h av.length) (hstk : st0 = av.reverse ++ .ref b :: st) (hroom : (st.map fun v => v.category).sum ≤ 8) (q0 : Nat) (he : ws[q0]? = some (b, .inr (ci, fs))) (hcl : vwCl[ci]? = some (C, T, N)) (H : Heap) (hP : va_P (jg E).1 vwCl ws H) :
    jRun E pc nL st0 st (jP (jg E) A2 rw2 ws2 (.ref b :: av)) (jQ (jg E) A2 ws2' o) A2 (.ref b :: av) H := by
  obtain ⟨p, l, e, R, s, m, args, below, meth, c, G, A, rw, Q, kc, ks⟩ := E
  intro hPc locs ls hls
  refine va_runV (C := C) K.1 hM ⟨callB_of (ws := Cond.code y cc2 n2 ret :: UW) av.length K.hts (goodUW hc) rfl rfl rfl (K.hts _ hini) (K.hts _ hlk) hok.1 ⟨Nat.le_trans hok.2.1 K.2.2.2.1, jroom hok.2.1 hok.2.2 K.2.2.2.2.1⟩, K.hts _ hins, K.hts _ hsel⟩ ⟨mc_blind, va_recv K.2.1.1 hP hcl he, hPc⟩ rfl rfl hls hstk (lv_room hroom) hd ⟨K.2.2.2.2.2.1, K.2.2.2.2.2.2⟩
/-- a call of an abstract method x that selects y -/
theorem jrun_A {x : MethodName} (K : jC E cc nL own h) (hd : decode cc pc = .ok (.invokevirtual index, 3)) (hM : MC (jl E) y cc2 n2 ret h2 (jg E) A2 rw2 ws2 ws2' (.ref b :: av) o) (hc : Cond.code y cc2 n2 ret ∈ UW) (hlk : Cond.methodLink own index x ∈ UW) (hsm : Cond.sameMethod x.cls x.cls x.name x.desc ∈ UW) (hins : Cond.instanceMethod y ∈ UW) (hsel : Cond.selects C x y ∈ UW) (hini : Cond.initialized y.cls ∈ UW) (hdc : x ∈ jND) (hok : jOk x n2 h2 h av.length) (hstk : st0 = av.reverse ++ .ref b :: st) (hroom : (st.map fun v => v.category).sum ≤ 8) (q0 : Nat) (he : ws[q0]? = some (b, .inr (ci, fs))) (hcl : vwCl[ci]? = some (C, T, N)) (H : Heap) (hP : va_P (jg E).1 vwCl ws H) :
    jRun E pc nL st0 st (jP (jg E) A2 rw2 ws2 (.ref b :: av)) (jQ (jg E) A2 ws2' o) A2 (.ref b :: av) H := by
  obtain ⟨p, l, e, R, s, m, args, below, meth, c, G, A, rw, Q, kc, ks⟩ := E
  intro hPc locs ls hls
  have hT : GoodIn UW (va_wsU own index C x.cls x y (Cond.code y cc2 n2 ret :: UW)) := fun w hw => by
    unfold va_wsU at hw
    rcases List.mem_append.mp hw with hw | hw
    · simp only [List.mem_cons, List.not_mem_nil, or_false] at hw
      rcases hw with rfl | rfl | rfl | rfl | rfl
      · exact ⟨hlk, UW_good _ hlk⟩
      · exact ⟨hsm, UW_good _ hsm⟩
      · exact ⟨hsel, UW_good _ hsel⟩
      · exact ⟨hins, UW_good _ hins⟩
      · exact ⟨hini, UW_good _ hini⟩
    · exact goodUW hc w hw
  refine va_runU (C := C) (owner := x.cls) K.1 hM (va_cwA (ws := Cond.code y cc2 n2 ret :: UW) av.length K.hts hT rfl rfl rfl (K.2.1.2.2.2 _ hdc) hok.1 ⟨Nat.le_trans hok.2.1 K.2.2.2.1, jroom hok.2.1 hok.2.2 K.2.2.2.2.1⟩) ⟨mc_blind, va_recv K.2.1.1 hP hcl he, hPc⟩ rfl rfl hls hstk (lv_room hroom) hd ⟨K.2.2.2.2.2.1, K.2.2.2.2.2.2⟩
/-- a callee that changes nothing -/
theorem j_ro {as : List Value} (K : jC E cc nL own h) (hr : ∀ H : Heap, va_P (jg E).1 vwCl ws H → jRun E pc nL st0 st (jP (jg E) jNo False ws2 as) (jQ (jg E) jNo ws2' o) jNo as H) (is : List Nat) (hs : is.filterMap (fun i => ws[i]?) = ws2) (hp : pc + 3 = pc') (k : J E nL ws pc' lv (o.toList ++ st)) : J E nL ws pc lv st0 := by
  obtain ⟨p, l, e, R, s, m, args, below, meth, c, G, A, rw, Q, kc, ks⟩ := E
  subst hp
  intro H locs ls hP hD hS hl
  have h1 := hr H hP (fun U hU hW => ⟨rfl, by rw [hU]; exact hP.sub is hs, fun z => z.elim, K.2.1.warm hW, by
    rw [hU]
    exact ((K.2.2.1.kept (H1 := H) (fun a h1 h2 => hS.2.1 a h1 h2)).narrow (fun q z => z.elim)).moved hW.alike⟩) locs ls hl.1
  refine j_after h1 hS (fun q z => z.elim) fun H1 locs1 hP1 hz hk hS1 => ?_
  exact k H1 locs1 ls (hP.kept fun k q hkq => hk _ (hP k q hkq).lt (fun z => z)) hD hS1 hl
/-- a callee that changes its own cells -/
theorem j_rw {as : List Value} {ws' : va_W} (K : jC E cc nL own h) (hr : ∀ H : Heap, va_P (jg E).1 vwCl ws H → jRun E pc nL st0 st (jP (jg E) (jad ws2) True ws2 as) (jQ (jg E) (jad ws2) ws2' o) (jad ws2) as H) (hrw : jrw E) (is : List Nat) (hn : va_nd is = true) (hs : is.map (fun i => ws[i]?) = ws2.map some) (hlen : ws2'.length = ws2.length) (hm : jmrg ws is ws2' = ws') (had : ws'.map Prod.fst = ws.map Prod.fst) (hp : pc + 3 = pc') (k : J E nL ws' pc' lv (o.toList ++ st)) : J E nL ws pc lv st0 := by
  obtain ⟨p, l, e, R, s, m, args, below, meth, c, G, A, rw, Q, kc, ks⟩ := E
  subst hp
  intro H locs ls hP hD hS hl
  have hD0 := hD hrw
  have hs2 : is.filterMap (fun i => ws[i]?) = ws2 := by
    have h9 : (is.map (fun i => ws[i]?)).filterMap id = (ws2.map some).filterMap id := by rw [hs]
    simpa [List.filterMap_map, Function.comp_def] using h9
  have hA2 : ∀ q, jad ws2 q → A q := fun q hq => by
    obtain ⟨q2, m1, m2⟩ := List.mem_map.mp hq
    rw [← hs2] at m1
    obtain ⟨i, -, hi⟩ := List.mem_filterMap.mp m1
    rw [← m2]
    exact hD0.2 i q2 hi
  have h1 := hr H hP (fun U hU hW => ⟨rfl, by rw [hU]; exact hP.sub is hs2, fun _ => jad_D ((hD0.sub is hn hs).weaken (fun _ _ _ _ => trivial)), K.2.1.warm hW, by
    rw [hU]
    exact ((K.2.2.1.kept (H1 := H) (fun a h1 h2 => hS.2.1 a h1 h2)).narrow hA2).moved hW.alike⟩) locs ls hl.1
  refine j_after h1 hS hA2 fun H1 locs1 hP1 hz hk hS1 => ?_
  subst hm
  exact k H1 locs1 ls (j_mrgP hP hD0 hs hlen hP1 hk) (fun _ => va_D_addr had hD0) hS1 hl
end JCALL
end
