section
-- ===== PART A: goes FIRST, ahead of the names: the tables' words, and 'selects' of the private methods out of them =====
/-- a private method of a class that the tables say can be made, by its rows of tables_1 -/
def lw_okq (q : MethodName × Nat) : Prop := (q.1.cls ≠ "java/lang/invoke/MethodHandle" ∧ q.1.cls ≠ "java/lang/invoke/VarHandle") ∧ Cond.instantiable q.1.cls q.2 ∈ tables_1 ∧ Cond.privateMethod q.1 ∈ tables_1 ∧ Cond.instanceMethod q.1 ∈ tables_1
theorem lw_p0 : lw_okq (⟨"LetterNeedles", "layScript", "()V"⟩, 9) := ⟨⟨by decide +kernel, by decide +kernel⟩, List.mem_of_getElem? (i := 19) (by decide +kernel), List.mem_of_getElem? (i := 269) (by decide +kernel), List.mem_of_getElem? (i := 270) (by decide +kernel)⟩
theorem lw_p1 : lw_okq (⟨"LetterNeedles$Script", "itemEnd", "(I)I"⟩, 2) := ⟨⟨by decide +kernel, by decide +kernel⟩, List.mem_of_getElem? (i := 27) (by decide +kernel), List.mem_of_getElem? (i := 285) (by decide +kernel), List.mem_of_getElem? (i := 286) (by decide +kernel)⟩
theorem lw_p2 : lw_okq (⟨"LetterNeedles$Script", "letterAt", "(I)C"⟩, 2) := ⟨⟨by decide +kernel, by decide +kernel⟩, List.mem_of_getElem? (i := 27) (by decide +kernel), List.mem_of_getElem? (i := 289) (by decide +kernel), List.mem_of_getElem? (i := 290) (by decide +kernel)⟩
theorem lw_p3 : lw_okq (⟨"LetterNeedles$Script", "needleEnd", "(I)I"⟩, 2) := ⟨⟨by decide +kernel, by decide +kernel⟩, List.mem_of_getElem? (i := 27) (by decide +kernel), List.mem_of_getElem? (i := 293) (by decide +kernel), List.mem_of_getElem? (i := 294) (by decide +kernel)⟩
theorem lw_p4 : lw_okq (⟨"LetterNeedles$Script", "figureAt", "(I)I"⟩, 2) := ⟨⟨by decide +kernel, by decide +kernel⟩, List.mem_of_getElem? (i := 27) (by decide +kernel), List.mem_of_getElem? (i := 297) (by decide +kernel), List.mem_of_getElem? (i := 298) (by decide +kernel)⟩
theorem lw_p5 : lw_okq (⟨"LetterNeedles$Script", "wireEnd", "(II)I"⟩, 2) := ⟨⟨by decide +kernel, by decide +kernel⟩, List.mem_of_getElem? (i := 27) (by decide +kernel), List.mem_of_getElem? (i := 308) (by decide +kernel), List.mem_of_getElem? (i := 309) (by decide +kernel)⟩
theorem lw_p6 : lw_okq (⟨"LetterNeedles$Script", "messageEnd", "(I)I"⟩, 2) := ⟨⟨by decide +kernel, by decide +kernel⟩, List.mem_of_getElem? (i := 27) (by decide +kernel), List.mem_of_getElem? (i := 312) (by decide +kernel), List.mem_of_getElem? (i := 313) (by decide +kernel)⟩
theorem lw_p7 : lw_okq (⟨"LetterNeedles$Script", "tellItem", "(IILLetterNeedles$Line;LLetterNeedles$Messages;)V"⟩, 2) := ⟨⟨by decide +kernel, by decide +kernel⟩, List.mem_of_getElem? (i := 27) (by decide +kernel), List.mem_of_getElem? (i := 316) (by decide +kernel), List.mem_of_getElem? (i := 317) (by decide +kernel)⟩
theorem lw_p8 : lw_okq (⟨"LetterNeedles$Script", "tellMessage", "(IILLetterNeedles$Messages;)V"⟩, 2) := ⟨⟨by decide +kernel, by decide +kernel⟩, List.mem_of_getElem? (i := 27) (by decide +kernel), List.mem_of_getElem? (i := 320) (by decide +kernel), List.mem_of_getElem? (i := 321) (by decide +kernel)⟩
theorem lw_p9 : lw_okq (⟨"LetterNeedles", "isMessage", "(I)Z"⟩, 9) := ⟨⟨by decide +kernel, by decide +kernel⟩, List.mem_of_getElem? (i := 19) (by decide +kernel), List.mem_of_getElem? (i := 419) (by decide +kernel), List.mem_of_getElem? (i := 420) (by decide +kernel)⟩
theorem lw_p10 : lw_okq (⟨"LetterNeedles$Line", "shareFrom", "(I)V"⟩, 7) := ⟨⟨by decide +kernel, by decide +kernel⟩, List.mem_of_getElem? (i := 60) (by decide +kernel), List.mem_of_getElem? (i := 460) (by decide +kernel), List.mem_of_getElem? (i := 461) (by decide +kernel)⟩
theorem lw_p11 : lw_okq (⟨"LetterNeedles", "isSaying", "(III)Z"⟩, 9) := ⟨⟨by decide +kernel, by decide +kernel⟩, List.mem_of_getElem? (i := 19) (by decide +kernel), List.mem_of_getElem? (i := 535) (by decide +kernel), List.mem_of_getElem? (i := 536) (by decide +kernel)⟩
theorem lw_p12 : lw_okq (⟨"LetterNeedles", "isAllRightMended", "(IIII)Z"⟩, 9) := ⟨⟨by decide +kernel, by decide +kernel⟩, List.mem_of_getElem? (i := 19) (by decide +kernel), List.mem_of_getElem? (i := 580) (by decide +kernel), List.mem_of_getElem? (i := 581) (by decide +kernel)⟩
theorem lw_p13 : lw_okq (⟨"LetterNeedles$Arrangement", "noteShown", "(LLetterNeedles$Line;II)V"⟩, 4) := ⟨⟨by decide +kernel, by decide +kernel⟩, List.mem_of_getElem? (i := 195) (by decide +kernel), List.mem_of_getElem? (i := 600) (by decide +kernel), List.mem_of_getElem? (i := 601) (by decide +kernel)⟩
theorem lw_p14 : lw_okq (⟨"LetterNeedles$Arrangement", "fillFrom", "(III)V"⟩, 4) := ⟨⟨by decide +kernel, by decide +kernel⟩, List.mem_of_getElem? (i := 195) (by decide +kernel), List.mem_of_getElem? (i := 611) (by decide +kernel), List.mem_of_getElem? (i := 612) (by decide +kernel)⟩
theorem lw_p15 : lw_okq (⟨"LetterNeedles$Arrangement", "keepIfBetter", "(I)V"⟩, 4) := ⟨⟨by decide +kernel, by decide +kernel⟩, List.mem_of_getElem? (i := 195) (by decide +kernel), List.mem_of_getElem? (i := 616) (by decide +kernel), List.mem_of_getElem? (i := 617) (by decide +kernel)⟩
def lw_privs_1 : List (MethodName × Nat) := [(⟨"LetterNeedles", "layScript", "()V"⟩, 9), (⟨"LetterNeedles$Script", "itemEnd", "(I)I"⟩, 2), (⟨"LetterNeedles$Script", "letterAt", "(I)C"⟩, 2), (⟨"LetterNeedles$Script", "needleEnd", "(I)I"⟩, 2), (⟨"LetterNeedles$Script", "figureAt", "(I)I"⟩, 2), (⟨"LetterNeedles$Script", "wireEnd", "(II)I"⟩, 2), (⟨"LetterNeedles$Script", "messageEnd", "(I)I"⟩, 2), (⟨"LetterNeedles$Script", "tellItem", "(IILLetterNeedles$Line;LLetterNeedles$Messages;)V"⟩, 2), (⟨"LetterNeedles$Script", "tellMessage", "(IILLetterNeedles$Messages;)V"⟩, 2), (⟨"LetterNeedles", "isMessage", "(I)Z"⟩, 9), (⟨"LetterNeedles$Line", "shareFrom", "(I)V"⟩, 7), (⟨"LetterNeedles", "isSaying", "(III)Z"⟩, 9), (⟨"LetterNeedles", "isAllRightMended", "(IIII)Z"⟩, 9), (⟨"LetterNeedles$Arrangement", "noteShown", "(LLetterNeedles$Line;II)V"⟩, 4), (⟨"LetterNeedles$Arrangement", "fillFrom", "(III)V"⟩, 4), (⟨"LetterNeedles$Arrangement", "keepIfBetter", "(I)V"⟩, 4)]
theorem lw_r1 : ∀ q ∈ lw_privs_1, lw_okq q := List.forall_mem_cons.mpr ⟨lw_p0, List.forall_mem_cons.mpr ⟨lw_p1, List.forall_mem_cons.mpr ⟨lw_p2, List.forall_mem_cons.mpr ⟨lw_p3, List.forall_mem_cons.mpr ⟨lw_p4, List.forall_mem_cons.mpr ⟨lw_p5, List.forall_mem_cons.mpr ⟨lw_p6, List.forall_mem_cons.mpr ⟨lw_p7, List.forall_mem_cons.mpr ⟨lw_p8, List.forall_mem_cons.mpr ⟨lw_p9, List.forall_mem_cons.mpr ⟨lw_p10, List.forall_mem_cons.mpr ⟨lw_p11, List.forall_mem_cons.mpr ⟨lw_p12, List.forall_mem_cons.mpr ⟨lw_p13, List.forall_mem_cons.mpr ⟨lw_p14, List.forall_mem_cons.mpr ⟨lw_p15, fun _ h => absurd h List.not_mem_nil⟩⟩⟩⟩⟩⟩⟩⟩⟩⟩⟩⟩⟩⟩⟩⟩
theorem lw_p16 : lw_okq (⟨"LetterNeedles$Suspects", "workOutReadings", "(LLetterNeedles$Line;)V"⟩, 6) := ⟨⟨by decide +kernel, by decide +kernel⟩, List.mem_of_getElem? (i := 132) (by decide +kernel), List.mem_of_getElem? (i := 637) (by decide +kernel), List.mem_of_getElem? (i := 638) (by decide +kernel)⟩
theorem lw_p17 : lw_okq (⟨"LetterNeedles$Suspects", "agrees", "(I)Z"⟩, 6) := ⟨⟨by decide +kernel, by decide +kernel⟩, List.mem_of_getElem? (i := 132) (by decide +kernel), List.mem_of_getElem? (i := 646) (by decide +kernel), List.mem_of_getElem? (i := 647) (by decide +kernel)⟩
theorem lw_p18 : lw_okq (⟨"LetterNeedles$Contest", "endOf", "(II)I"⟩, 5) := ⟨⟨by decide +kernel, by decide +kernel⟩, List.mem_of_getElem? (i := 173) (by decide +kernel), List.mem_of_getElem? (i := 703) (by decide +kernel), List.mem_of_getElem? (i := 704) (by decide +kernel)⟩
theorem lw_p19 : lw_okq (⟨"LetterNeedles$Contest", "layOut", "(II)V"⟩, 5) := ⟨⟨by decide +kernel, by decide +kernel⟩, List.mem_of_getElem? (i := 173) (by decide +kernel), List.mem_of_getElem? (i := 707) (by decide +kernel), List.mem_of_getElem? (i := 708) (by decide +kernel)⟩
theorem lw_p20 : lw_okq (⟨"LetterNeedles$Contest", "mendableBehind", "(II)I"⟩, 5) := ⟨⟨by decide +kernel, by decide +kernel⟩, List.mem_of_getElem? (i := 173) (by decide +kernel), List.mem_of_getElem? (i := 715) (by decide +kernel), List.mem_of_getElem? (i := 716) (by decide +kernel)⟩
theorem lw_p21 : lw_okq (⟨"LetterNeedles", "slackChances", "(II)I"⟩, 9) := ⟨⟨by decide +kernel, by decide +kernel⟩, List.mem_of_getElem? (i := 19) (by decide +kernel), List.mem_of_getElem? (i := 726) (by decide +kernel), List.mem_of_getElem? (i := 727) (by decide +kernel)⟩
theorem lw_p22 : lw_okq (⟨"LetterNeedles", "doDrawn", "(II)V"⟩, 9) := ⟨⟨by decide +kernel, by decide +kernel⟩, List.mem_of_getElem? (i := 19) (by decide +kernel), List.mem_of_getElem? (i := 755) (by decide +kernel), List.mem_of_getElem? (i := 756) (by decide +kernel)⟩
theorem lw_p23 : lw_okq (⟨"LetterNeedlesModel", "tells", "(JI)V"⟩, 29) := ⟨⟨by decide +kernel, by decide +kernel⟩, List.mem_of_getElem? (i := 783) (by decide +kernel), List.mem_of_getElem? (i := 790) (by decide +kernel), List.mem_of_getElem? (i := 791) (by decide +kernel)⟩
theorem lw_p24 : lw_okq (⟨"LetterNeedlesModel", "reading", "()I"⟩, 29) := ⟨⟨by decide +kernel, by decide +kernel⟩, List.mem_of_getElem? (i := 783) (by decide +kernel), List.mem_of_getElem? (i := 803) (by decide +kernel), List.mem_of_getElem? (i := 804) (by decide +kernel)⟩
theorem lw_p25 : lw_okq (⟨"LetterNeedlesModel", "readItem", "()V"⟩, 29) := ⟨⟨by decide +kernel, by decide +kernel⟩, List.mem_of_getElem? (i := 783) (by decide +kernel), List.mem_of_getElem? (i := 807) (by decide +kernel), List.mem_of_getElem? (i := 808) (by decide +kernel)⟩
theorem lw_p26 : lw_okq (⟨"LetterNeedlesModel", "here", "()I"⟩, 29) := ⟨⟨by decide +kernel, by decide +kernel⟩, List.mem_of_getElem? (i := 783) (by decide +kernel), List.mem_of_getElem? (i := 811) (by decide +kernel), List.mem_of_getElem? (i := 812) (by decide +kernel)⟩
theorem lw_p27 : lw_okq (⟨"LetterNeedlesModel", "figure", "(I)I"⟩, 29) := ⟨⟨by decide +kernel, by decide +kernel⟩, List.mem_of_getElem? (i := 783) (by decide +kernel), List.mem_of_getElem? (i := 815) (by decide +kernel), List.mem_of_getElem? (i := 816) (by decide +kernel)⟩
theorem lw_p28 : lw_okq (⟨"LetterNeedlesModel", "sign", "(I)V"⟩, 29) := ⟨⟨by decide +kernel, by decide +kernel⟩, List.mem_of_getElem? (i := 783) (by decide +kernel), List.mem_of_getElem? (i := 822) (by decide +kernel), List.mem_of_getElem? (i := 823) (by decide +kernel)⟩
theorem lw_p29 : lw_okq (⟨"LetterNeedlesModel", "readMessage", "()V"⟩, 29) := ⟨⟨by decide +kernel, by decide +kernel⟩, List.mem_of_getElem? (i := 783) (by decide +kernel), List.mem_of_getElem? (i := 826) (by decide +kernel), List.mem_of_getElem? (i := 827) (by decide +kernel)⟩
theorem lw_p30 : lw_okq (⟨"LetterNeedlesModel", "isMessage", "(I)Z"⟩, 29) := ⟨⟨by decide +kernel, by decide +kernel⟩, List.mem_of_getElem? (i := 783) (by decide +kernel), List.mem_of_getElem? (i := 952) (by decide +kernel), List.mem_of_getElem? (i := 953) (by decide +kernel)⟩
theorem lw_p31 : lw_okq (⟨"LetterNeedlesModel", "notes", "()V"⟩, 29) := ⟨⟨by decide +kernel, by decide +kernel⟩, List.mem_of_getElem? (i := 783) (by decide +kernel), List.mem_of_getElem? (i := 960) (by decide +kernel), List.mem_of_getElem? (i := 961) (by decide +kernel)⟩
def lw_privs_2 : List (MethodName × Nat) := [(⟨"LetterNeedles$Suspects", "workOutReadings", "(LLetterNeedles$Line;)V"⟩, 6), (⟨"LetterNeedles$Suspects", "agrees", "(I)Z"⟩, 6), (⟨"LetterNeedles$Contest", "endOf", "(II)I"⟩, 5), (⟨"LetterNeedles$Contest", "layOut", "(II)V"⟩, 5), (⟨"LetterNeedles$Contest", "mendableBehind", "(II)I"⟩, 5), (⟨"LetterNeedles", "slackChances", "(II)I"⟩, 9), (⟨"LetterNeedles", "doDrawn", "(II)V"⟩, 9), (⟨"LetterNeedlesModel", "tells", "(JI)V"⟩, 29), (⟨"LetterNeedlesModel", "reading", "()I"⟩, 29), (⟨"LetterNeedlesModel", "readItem", "()V"⟩, 29), (⟨"LetterNeedlesModel", "here", "()I"⟩, 29), (⟨"LetterNeedlesModel", "figure", "(I)I"⟩, 29), (⟨"LetterNeedlesModel", "sign", "(I)V"⟩, 29), (⟨"LetterNeedlesModel", "readMessage", "()V"⟩, 29), (⟨"LetterNeedlesModel", "isMessage", "(I)Z"⟩, 29), (⟨"LetterNeedlesModel", "notes", "()V"⟩, 29)]
theorem lw_r2 : ∀ q ∈ lw_privs_2, lw_okq q := List.forall_mem_cons.mpr ⟨lw_p16, List.forall_mem_cons.mpr ⟨lw_p17, List.forall_mem_cons.mpr ⟨lw_p18, List.forall_mem_cons.mpr ⟨lw_p19, List.forall_mem_cons.mpr ⟨lw_p20, List.forall_mem_cons.mpr ⟨lw_p21, List.forall_mem_cons.mpr ⟨lw_p22, List.forall_mem_cons.mpr ⟨lw_p23, List.forall_mem_cons.mpr ⟨lw_p24, List.forall_mem_cons.mpr ⟨lw_p25, List.forall_mem_cons.mpr ⟨lw_p26, List.forall_mem_cons.mpr ⟨lw_p27, List.forall_mem_cons.mpr ⟨lw_p28, List.forall_mem_cons.mpr ⟨lw_p29, List.forall_mem_cons.mpr ⟨lw_p30, List.forall_mem_cons.mpr ⟨lw_p31, fun _ h => absurd h List.not_mem_nil⟩⟩⟩⟩⟩⟩⟩⟩⟩⟩⟩⟩⟩⟩⟩⟩
theorem lw_p32 : lw_okq (⟨"LetterNeedlesModel", "beat", "([II)V"⟩, 29) := ⟨⟨by decide +kernel, by decide +kernel⟩, List.mem_of_getElem? (i := 783) (by decide +kernel), List.mem_of_getElem? (i := 964) (by decide +kernel), List.mem_of_getElem? (i := 965) (by decide +kernel)⟩
theorem lw_p33 : lw_okq (⟨"LetterNeedlesModel", "carries", "([II)V"⟩, 29) := ⟨⟨by decide +kernel, by decide +kernel⟩, List.mem_of_getElem? (i := 783) (by decide +kernel), List.mem_of_getElem? (i := 968) (by decide +kernel), List.mem_of_getElem? (i := 969) (by decide +kernel)⟩
theorem lw_p34 : lw_okq (⟨"LetterNeedlesModel", "stands", "([II)I"⟩, 29) := ⟨⟨by decide +kernel, by decide +kernel⟩, List.mem_of_getElem? (i := 783) (by decide +kernel), List.mem_of_getElem? (i := 975) (by decide +kernel), List.mem_of_getElem? (i := 976) (by decide +kernel)⟩
theorem lw_p35 : lw_okq (⟨"LetterNeedlesModel", "stiff", "([II)I"⟩, 29) := ⟨⟨by decide +kernel, by decide +kernel⟩, List.mem_of_getElem? (i := 783) (by decide +kernel), List.mem_of_getElem? (i := 979) (by decide +kernel), List.mem_of_getElem? (i := 980) (by decide +kernel)⟩
theorem lw_p36 : lw_okq (⟨"LetterNeedlesModel", "readOf", "([I)I"⟩, 29) := ⟨⟨by decide +kernel, by decide +kernel⟩, List.mem_of_getElem? (i := 783) (by decide +kernel), List.mem_of_getElem? (i := 983) (by decide +kernel), List.mem_of_getElem? (i := 984) (by decide +kernel)⟩
theorem lw_p37 : lw_okq (⟨"LetterNeedlesModel", "isSign", "([II)Z"⟩, 29) := ⟨⟨by decide +kernel, by decide +kernel⟩, List.mem_of_getElem? (i := 783) (by decide +kernel), List.mem_of_getElem? (i := 987) (by decide +kernel), List.mem_of_getElem? (i := 988) (by decide +kernel)⟩
theorem lw_p38 : lw_okq (⟨"LetterNeedlesModel", "asItIs", "()V"⟩, 29) := ⟨⟨by decide +kernel, by decide +kernel⟩, List.mem_of_getElem? (i := 783) (by decide +kernel), List.mem_of_getElem? (i := 1041) (by decide +kernel), List.mem_of_getElem? (i := 1042) (by decide +kernel)⟩
theorem lw_p39 : lw_okq (⟨"LetterNeedlesModel", "says", "(III)I"⟩, 29) := ⟨⟨by decide +kernel, by decide +kernel⟩, List.mem_of_getElem? (i := 783) (by decide +kernel), List.mem_of_getElem? (i := 1045) (by decide +kernel), List.mem_of_getElem? (i := 1046) (by decide +kernel)⟩
theorem lw_p40 : lw_okq (⟨"LetterNeedlesModel", "rests", "()V"⟩, 29) := ⟨⟨by decide +kernel, by decide +kernel⟩, List.mem_of_getElem? (i := 783) (by decide +kernel), List.mem_of_getElem? (i := 1049) (by decide +kernel), List.mem_of_getElem? (i := 1050) (by decide +kernel)⟩
theorem lw_p41 : lw_okq (⟨"LetterNeedlesModel", "clearOf", "(II)I"⟩, 29) := ⟨⟨by decide +kernel, by decide +kernel⟩, List.mem_of_getElem? (i := 783) (by decide +kernel), List.mem_of_getElem? (i := 1061) (by decide +kernel), List.mem_of_getElem? (i := 1062) (by decide +kernel)⟩
theorem lw_p42 : lw_okq (⟨"LetterNeedlesModel", "sent", "(II)I"⟩, 29) := ⟨⟨by decide +kernel, by decide +kernel⟩, List.mem_of_getElem? (i := 783) (by decide +kernel), List.mem_of_getElem? (i := 1065) (by decide +kernel), List.mem_of_getElem? (i := 1066) (by decide +kernel)⟩
theorem lw_p43 : lw_okq (⟨"LetterNeedlesModel", "nextOrder", "()Z"⟩, 29) := ⟨⟨by decide +kernel, by decide +kernel⟩, List.mem_of_getElem? (i := 783) (by decide +kernel), List.mem_of_getElem? (i := 1088) (by decide +kernel), List.mem_of_getElem? (i := 1089) (by decide +kernel)⟩
theorem lw_p44 : lw_okq (⟨"LetterNeedlesModel", "readBy", "(II)I"⟩, 29) := ⟨⟨by decide +kernel, by decide +kernel⟩, List.mem_of_getElem? (i := 783) (by decide +kernel), List.mem_of_getElem? (i := 1100) (by decide +kernel), List.mem_of_getElem? (i := 1101) (by decide +kernel)⟩
theorem lw_p45 : lw_okq (⟨"LetterNeedlesModel", "greatest", "(II)I"⟩, 29) := ⟨⟨by decide +kernel, by decide +kernel⟩, List.mem_of_getElem? (i := 783) (by decide +kernel), List.mem_of_getElem? (i := 1109) (by decide +kernel), List.mem_of_getElem? (i := 1110) (by decide +kernel)⟩
theorem lw_p46 : lw_okq (⟨"LetterNeedlesModel", "worthOf", "(III)I"⟩, 29) := ⟨⟨by decide +kernel, by decide +kernel⟩, List.mem_of_getElem? (i := 783) (by decide +kernel), List.mem_of_getElem? (i := 1129) (by decide +kernel), List.mem_of_getElem? (i := 1130) (by decide +kernel)⟩
theorem lw_p47 : lw_okq (⟨"LetterNeedlesModel", "chosen", "(IZ)I"⟩, 29) := ⟨⟨by decide +kernel, by decide +kernel⟩, List.mem_of_getElem? (i := 783) (by decide +kernel), List.mem_of_getElem? (i := 1133) (by decide +kernel), List.mem_of_getElem? (i := 1134) (by decide +kernel)⟩
def lw_privs_3 : List (MethodName × Nat) := [(⟨"LetterNeedlesModel", "beat", "([II)V"⟩, 29), (⟨"LetterNeedlesModel", "carries", "([II)V"⟩, 29), (⟨"LetterNeedlesModel", "stands", "([II)I"⟩, 29), (⟨"LetterNeedlesModel", "stiff", "([II)I"⟩, 29), (⟨"LetterNeedlesModel", "readOf", "([I)I"⟩, 29), (⟨"LetterNeedlesModel", "isSign", "([II)Z"⟩, 29), (⟨"LetterNeedlesModel", "asItIs", "()V"⟩, 29), (⟨"LetterNeedlesModel", "says", "(III)I"⟩, 29), (⟨"LetterNeedlesModel", "rests", "()V"⟩, 29), (⟨"LetterNeedlesModel", "clearOf", "(II)I"⟩, 29), (⟨"LetterNeedlesModel", "sent", "(II)I"⟩, 29), (⟨"LetterNeedlesModel", "nextOrder", "()Z"⟩, 29), (⟨"LetterNeedlesModel", "readBy", "(II)I"⟩, 29), (⟨"LetterNeedlesModel", "greatest", "(II)I"⟩, 29), (⟨"LetterNeedlesModel", "worthOf", "(III)I"⟩, 29), (⟨"LetterNeedlesModel", "chosen", "(IZ)I"⟩, 29)]
theorem lw_r3 : ∀ q ∈ lw_privs_3, lw_okq q := List.forall_mem_cons.mpr ⟨lw_p32, List.forall_mem_cons.mpr ⟨lw_p33, List.forall_mem_cons.mpr ⟨lw_p34, List.forall_mem_cons.mpr ⟨lw_p35, List.forall_mem_cons.mpr ⟨lw_p36, List.forall_mem_cons.mpr ⟨lw_p37, List.forall_mem_cons.mpr ⟨lw_p38, List.forall_mem_cons.mpr ⟨lw_p39, List.forall_mem_cons.mpr ⟨lw_p40, List.forall_mem_cons.mpr ⟨lw_p41, List.forall_mem_cons.mpr ⟨lw_p42, List.forall_mem_cons.mpr ⟨lw_p43, List.forall_mem_cons.mpr ⟨lw_p44, List.forall_mem_cons.mpr ⟨lw_p45, List.forall_mem_cons.mpr ⟨lw_p46, List.forall_mem_cons.mpr ⟨lw_p47, fun _ h => absurd h List.not_mem_nil⟩⟩⟩⟩⟩⟩⟩⟩⟩⟩⟩⟩⟩⟩⟩⟩
theorem lw_p48 : lw_okq (⟨"LetterNeedlesModel", "likely", "(II)I"⟩, 29) := ⟨⟨by decide +kernel, by decide +kernel⟩, List.mem_of_getElem? (i := 783) (by decide +kernel), List.mem_of_getElem? (i := 1141) (by decide +kernel), List.mem_of_getElem? (i := 1142) (by decide +kernel)⟩
theorem lw_p49 : lw_okq (⟨"LetterNeedlesModel", "notUpright", "()I"⟩, 29) := ⟨⟨by decide +kernel, by decide +kernel⟩, List.mem_of_getElem? (i := 783) (by decide +kernel), List.mem_of_getElem? (i := 1178) (by decide +kernel), List.mem_of_getElem? (i := 1179) (by decide +kernel)⟩
def lw_privs_4 : List (MethodName × Nat) := [(⟨"LetterNeedlesModel", "likely", "(II)I"⟩, 29), (⟨"LetterNeedlesModel", "notUpright", "()I"⟩, 29)]
theorem lw_r4 : ∀ q ∈ lw_privs_4, lw_okq q := List.forall_mem_cons.mpr ⟨lw_p48, List.forall_mem_cons.mpr ⟨lw_p49, fun _ h => absurd h List.not_mem_nil⟩⟩
def lw_privs : List (MethodName × Nat) := lw_privs_1 ++ (lw_privs_2 ++ (lw_privs_3 ++ (lw_privs_4)))
def lw_tbl : List Cond := k2_sels lw_privs ++ tables_1
theorem lw_privs_ok : ∀ q ∈ lw_privs, lw_okq q := by
  show ∀ q ∈ lw_privs_1 ++ (lw_privs_2 ++ (lw_privs_3 ++ (lw_privs_4))), lw_okq q
  exact List.forall_mem_append.mpr ⟨lw_r1, List.forall_mem_append.mpr ⟨lw_r2, List.forall_mem_append.mpr ⟨lw_r3, lw_r4⟩⟩⟩
/-! ===== BEGIN words of one list among another's, by their places ===== -/
theorem goodIn_r {big : List Cond} (ws : List Cond) (ps : List Nat) (hp : ws = ps.filterMap (fun i => big[i]?)) (h : ws.all goodWord = true) : GoodIn big ws := by
  intro w hw
  have h1 := List.all_eq_true.mp h w hw
  rw [hp] at hw
  obtain ⟨i, -, hi⟩ := List.mem_filterMap.mp hw
  have hm : w ∈ big := by first | exact List.mem_of_getElem? hi | exact List.getElem?_mem hi
  exact ⟨hm, good_of_word h1⟩
theorem goodIn_app {big a b : List Cond} (ha : GoodIn big a) (hb : GoodIn big b) : GoodIn big (a ++ b) := fun w h => (List.mem_append.mp h).elim (ha w) (hb w)
theorem goodIn_ca {big a b : List Cond} {c : Cond} (ha : GoodIn big (c :: a)) (hb : GoodIn big b) : GoodIn big (c :: (a ++ b)) := fun w h => (List.mem_cons.mp h).elim (fun e => ha w (List.mem_cons.mpr (Or.inl e))) (fun h => (List.mem_append.mp h).elim (fun h => ha w (List.mem_cons.mpr (Or.inr h))) (hb w))
theorem goodIn_sub {big ws : List Cond} (hm : ∀ w ∈ ws, w ∈ big) (h : ws.all goodWord = true) : GoodIn big ws := fun w hw => ⟨hm w hw, good_of_word (List.all_eq_true.mp h w hw)⟩
/-! ===== END ===== -/

/-! ===== BEGIN printed: names, fields, word lists, decode rows ===== -/
def RX0 : String := "LetterNeedles$Arrangement"
def TX0 : u_T := fun k => match k with
  | 0 => ("LetterNeedles$Arrangement", "shown", "[I", true)
  | 1 => ("LetterNeedles$Arrangement", "chosen", "[I", true)
  | 2 => ("LetterNeedles$Arrangement", "best", "[I", true)
  | _ => ("LetterNeedles$Arrangement", "most", "I", false)
def tyX0 : Nat → FieldType := fun k => match k with
  | 0 => .array .int
  | 1 => .array .int
  | 2 => .array .int
  | _ => .int
abbrev wsX00 : List Cond := u_ws RX0 TX0 4
theorem nmX0 : ∀ a, a < 4 → ∀ b, b < 4 → a ≠ b → (TX0 a).2.1 ≠ (TX0 b).2.1 := by decide +kernel
theorem tyX0_ok : ∀ k, k < 4 → parseFieldDescriptor (TX0 k).2.2.1 = some (tyX0 k) := by decide +kernel
abbrev cX0_init : ByteArray := prog_2_method_1_code
def yX0_init : MethodName := ⟨RX0, "<init>", "()V"⟩
abbrev cX0_find : ByteArray := prog_2_method_2_code
def yX0_find : MethodName := ⟨RX0, "find", "(LLetterNeedles$Line;I)V"⟩
abbrev cX0_noteShown : ByteArray := prog_2_method_3_code
def yX0_noteShown : MethodName := ⟨RX0, "noteShown", "(LLetterNeedles$Line;II)V"⟩
abbrev cX0_standsBehind : ByteArray := prog_2_method_4_code
def yX0_standsBehind : MethodName := ⟨RX0, "standsBehind", "(LLetterNeedles$Line;III)I"⟩
abbrev cX0_fillFrom : ByteArray := prog_2_method_5_code
def yX0_fillFrom : MethodName := ⟨RX0, "fillFrom", "(III)V"⟩
abbrev cX0_keepIfBetter : ByteArray := prog_2_method_6_code
def yX0_keepIfBetter : MethodName := ⟨RX0, "keepIfBetter", "(I)V"⟩
def RX1 : String := "LetterNeedles$Contest"
def TX1 : u_T := fun k => match k with
  | 0 => ("LetterNeedles$Contest", "start", "LLetterNeedles$Line;", true)
  | 1 => ("LetterNeedles$Contest", "scratch", "LLetterNeedles$Line;", true)
  | 2 => ("LetterNeedles$Contest", "messages", "LLetterNeedles$Messages;", true)
  | 3 => ("LetterNeedles$Contest", "ends", "[I", true)
  | _ => ("LetterNeedles$Contest", "message", "I", false)
def tyX1 : Nat → FieldType := fun k => match k with
  | 0 => .object "LetterNeedles$Line"
  | 1 => .object "LetterNeedles$Line"
  | 2 => .object "LetterNeedles$Messages"
  | 3 => .array .int
  | _ => .int
abbrev wsX10 : List Cond := u_ws RX1 TX1 5
theorem nmX1 : ∀ a, a < 5 → ∀ b, b < 5 → a ≠ b → (TX1 a).2.1 ≠ (TX1 b).2.1 := by decide +kernel
theorem tyX1_ok : ∀ k, k < 5 → parseFieldDescriptor (TX1 k).2.2.1 = some (tyX1 k) := by decide +kernel
abbrev cX1_init : ByteArray := prog_3_method_1_code
def yX1_init : MethodName := ⟨RX1, "<init>", "(LLetterNeedles$Line;LLetterNeedles$Line;LLetterNeedles$Messages;)V"⟩
abbrev cX1_beginFor : ByteArray := prog_3_method_2_code
def yX1_beginFor : MethodName := ⟨RX1, "beginFor", "(I)V"⟩
abbrev cX1_outcome : ByteArray := prog_3_method_3_code
def yX1_outcome : MethodName := ⟨RX1, "outcome", "(IZII)I"⟩
abbrev cX1_mendableBehind : ByteArray := prog_3_method_4_code
def yX1_mendableBehind : MethodName := ⟨RX1, "mendableBehind", "(II)I"⟩
abbrev cX1_endOf : ByteArray := prog_3_method_5_code
def yX1_endOf : MethodName := ⟨RX1, "endOf", "(II)I"⟩
abbrev cX1_layOut : ByteArray := prog_3_method_6_code
def yX1_layOut : MethodName := ⟨RX1, "layOut", "(II)V"⟩
def RX2 : String := "LetterNeedles$Hearing"
def TX2 : u_T := fun k => match k with
  | 0 => ("LetterNeedles$Hearing", "signs", "[I", true)
  | _ => ("LetterNeedles$Hearing", "heard", "I", false)
def tyX2 : Nat → FieldType := fun k => match k with
  | 0 => .array .int
  | _ => .int
abbrev wsX20 : List Cond := u_ws RX2 TX2 2
theorem nmX2 : ∀ a, a < 2 → ∀ b, b < 2 → a ≠ b → (TX2 a).2.1 ≠ (TX2 b).2.1 := by decide +kernel
theorem tyX2_ok : ∀ k, k < 2 → parseFieldDescriptor (TX2 k).2.2.1 = some (tyX2 k) := by decide +kernel
abbrev cX2_init : ByteArray := prog_4_method_1_code
def yX2_init : MethodName := ⟨RX2, "<init>", "()V"⟩
abbrev cX2_add : ByteArray := prog_4_method_2_code
def yX2_add : MethodName := ⟨RX2, "add", "(I)V"⟩
abbrev cX2_empty : ByteArray := prog_4_method_3_code
def yX2_empty : MethodName := ⟨RX2, "empty", "()I"⟩
abbrev cX2_isLike : ByteArray := prog_4_method_4_code
def yX2_isLike : MethodName := ⟨RX2, "isLike", "(LLetterNeedles$Messages;I)Z"⟩
def RX3 : String := "LetterNeedles$Line"
def TX3 : u_T := fun k => match k with
  | 0 => ("LetterNeedles$Line", "kinds", "[I", true)
  | 1 => ("LetterNeedles$Line", "stands", "[I", true)
  | 2 => ("LetterNeedles$Line", "got", "[I", true)
  | 3 => ("LetterNeedles$Line", "carried", "[I", true)
  | 4 => ("LetterNeedles$Line", "cutWires", "I", false)
  | 5 => ("LetterNeedles$Line", "turnedWires", "I", false)
  | _ => ("LetterNeedles$Line", "touching", "I", false)
def tyX3 : Nat → FieldType := fun k => match k with
  | 0 => .array .int
  | 1 => .array .int
  | 2 => .array .int
  | 3 => .array .int
  | 4 => .int
  | 5 => .int
  | _ => .int
abbrev wsX30 : List Cond := u_ws RX3 TX3 7
theorem nmX3 : ∀ a, a < 7 → ∀ b, b < 7 → a ≠ b → (TX3 a).2.1 ≠ (TX3 b).2.1 := by decide +kernel
theorem tyX3_ok : ∀ k, k < 7 → parseFieldDescriptor (TX3 k).2.2.1 = some (tyX3 k) := by decide +kernel
abbrev cX3_init : ByteArray := prog_5_method_1_code
def yX3_init : MethodName := ⟨RX3, "<init>", "()V"⟩
abbrev cX3_copyFrom : ByteArray := prog_5_method_2_code
def yX3_copyFrom : MethodName := ⟨RX3, "copyFrom", "(LLetterNeedles$Line;)V"⟩
abbrev cX3_makeWhole : ByteArray := prog_5_method_3_code
def yX3_makeWhole : MethodName := ⟨RX3, "makeWhole", "()V"⟩
abbrev cX3_rest : ByteArray := prog_5_method_4_code
def yX3_rest : MethodName := ⟨RX3, "rest", "()V"⟩
abbrev cX3_sendFromRest : ByteArray := prog_5_method_5_code
def yX3_sendFromRest : MethodName := ⟨RX3, "sendFromRest", "(II)I"⟩
abbrev cX3_sendFor : ByteArray := prog_5_method_6_code
def yX3_sendFor : MethodName := ⟨RX3, "sendFor", "(II)I"⟩
abbrev cX3_carrySign : ByteArray := prog_5_method_7_code
def yX3_carrySign : MethodName := ⟨RX3, "carrySign", "(I)V"⟩
abbrev cX3_shareFrom : ByteArray := prog_5_method_8_code
def yX3_shareFrom : MethodName := ⟨RX3, "shareFrom", "(I)V"⟩
abbrev cX3_aheadOf : ByteArray := prog_5_method_9_code
def yX3_aheadOf : MethodName := ⟨RX3, "aheadOf", "(I)I"⟩
abbrev cX3_standing : ByteArray := prog_5_method_10_code
def yX3_standing : MethodName := ⟨RX3, "standing", "(IIIII)I"⟩
abbrev cX3_otherWay : ByteArray := prog_5_method_11_code
def yX3_otherWay : MethodName := ⟨RX3, "otherWay", "(I)I"⟩
abbrev cX3_readSign : ByteArray := prog_5_method_12_code
def yX3_readSign : MethodName := ⟨RX3, "readSign", "()I"⟩
abbrev cX3_notUpright : ByteArray := prog_5_method_13_code
def yX3_notUpright : MethodName := ⟨RX3, "notUpright", "()I"⟩
abbrev cX3_mendableWires : ByteArray := prog_5_method_14_code
def yX3_mendableWires : MethodName := ⟨RX3, "mendableWires", "()I"⟩
abbrev cX3_mendAll : ByteArray := prog_5_method_15_code
def yX3_mendAll : MethodName := ⟨RX3, "mendAll", "(I)V"⟩
abbrev cX3_swapNeedles : ByteArray := prog_5_method_16_code
def yX3_swapNeedles : MethodName := ⟨RX3, "swapNeedles", "(II)V"⟩
abbrev cX3_swapIn : ByteArray := prog_5_method_17_code
def yX3_swapIn : MethodName := ⟨RX3, "swapIn", "([III)V"⟩
def RX4 : String := "LetterNeedles$Messages"
def TX4 : u_T := fun k => match k with
  | 0 => ("LetterNeedles$Messages", "signs", "[I", true)
  | 1 => ("LetterNeedles$Messages", "lengths", "[I", true)
  | _ => ("LetterNeedles$Messages", "many", "I", false)
def tyX4 : Nat → FieldType := fun k => match k with
  | 0 => .array .int
  | 1 => .array .int
  | _ => .int
abbrev wsX40 : List Cond := u_ws RX4 TX4 3
theorem nmX4 : ∀ a, a < 3 → ∀ b, b < 3 → a ≠ b → (TX4 a).2.1 ≠ (TX4 b).2.1 := by decide +kernel
theorem tyX4_ok : ∀ k, k < 3 → parseFieldDescriptor (TX4 k).2.2.1 = some (tyX4 k) := by decide +kernel
abbrev cX4_init : ByteArray := prog_6_method_1_code
def yX4_init : MethodName := ⟨RX4, "<init>", "()V"⟩
abbrev cX4_begin : ByteArray := prog_6_method_2_code
def yX4_begin : MethodName := ⟨RX4, "begin", "()V"⟩
abbrev cX4_spell : ByteArray := prog_6_method_3_code
def yX4_spell : MethodName := ⟨RX4, "spell", "(C)V"⟩
abbrev cX4_lengthOf : ByteArray := prog_6_method_4_code
def yX4_lengthOf : MethodName := ⟨RX4, "lengthOf", "(I)I"⟩
abbrev cX4_signOf : ByteArray := prog_6_method_5_code
def yX4_signOf : MethodName := ⟨RX4, "signOf", "(II)I"⟩
abbrev cX4_readOn : ByteArray := prog_6_method_6_code
def yX4_readOn : MethodName := ⟨RX4, "readOn", "(LLetterNeedles$Line;IIII)I"⟩
abbrev cX4_rightOn : ByteArray := prog_6_method_7_code
def yX4_rightOn : MethodName := ⟨RX4, "rightOn", "(LLetterNeedles$Line;III)I"⟩
abbrev cX4_isAllRightOn : ByteArray := prog_6_method_8_code
def yX4_isAllRightOn : MethodName := ⟨RX4, "isAllRightOn", "(LLetterNeedles$Line;III)Z"⟩
def RX5 : String := "LetterNeedles$Past"
def TX5 : u_T := fun k => match k with
  | 0 => ("LetterNeedles$Past", "ahead", "[LLetterNeedles$Line;", true)
  | 1 => ("LetterNeedles$Past", "keptLines", "[LLetterNeedles$Line;", true)
  | 2 => ("LetterNeedles$Past", "next", "I", false)
  | 3 => ("LetterNeedles$Past", "deeds", "I", false)
  | _ => ("LetterNeedles$Past", "kept", "I", false)
def tyX5 : Nat → FieldType := fun k => match k with
  | 0 => .array (.object "LetterNeedles$Line")
  | 1 => .array (.object "LetterNeedles$Line")
  | 2 => .int
  | 3 => .int
  | _ => .int
abbrev wsX50 : List Cond := u_ws RX5 TX5 5
theorem nmX5 : ∀ a, a < 5 → ∀ b, b < 5 → a ≠ b → (TX5 a).2.1 ≠ (TX5 b).2.1 := by decide +kernel
theorem tyX5_ok : ∀ k, k < 5 → parseFieldDescriptor (TX5 k).2.2.1 = some (tyX5 k) := by decide +kernel
abbrev cX5_init : ByteArray := prog_7_method_1_code
def yX5_init : MethodName := ⟨RX5, "<init>", "()V"⟩
abbrev cX5_empty : ByteArray := prog_7_method_2_code
def yX5_empty : MethodName := ⟨RX5, "empty", "()V"⟩
abbrev cX5_remember : ByteArray := prog_7_method_3_code
def yX5_remember : MethodName := ⟨RX5, "remember", "(LLetterNeedles$Line;)V"⟩
abbrev cX5_undoOn : ByteArray := prog_7_method_4_code
def yX5_undoOn : MethodName := ⟨RX5, "undoOn", "(LLetterNeedles$Line;)V"⟩
abbrev cX5_keepLine : ByteArray := prog_7_method_5_code
def yX5_keepLine : MethodName := ⟨RX5, "keepLine", "(LLetterNeedles$Line;)V"⟩
abbrev cX5_backOn : ByteArray := prog_7_method_6_code
def yX5_backOn : MethodName := ⟨RX5, "backOn", "(LLetterNeedles$Line;)V"⟩
def RX6 : String := "LetterNeedles$Script"
def TX6 : u_T := fun k => match k with
  | 0 => ("LetterNeedles$Script", "letters", "[C", true)
  | _ => ("LetterNeedles$Script", "length", "I", false)
def tyX6 : Nat → FieldType := fun k => match k with
  | 0 => .array .char
  | _ => .int
abbrev wsX60 : List Cond := u_ws RX6 TX6 2
theorem nmX6 : ∀ a, a < 2 → ∀ b, b < 2 → a ≠ b → (TX6 a).2.1 ≠ (TX6 b).2.1 := by decide +kernel
theorem tyX6_ok : ∀ k, k < 2 → parseFieldDescriptor (TX6 k).2.2.1 = some (tyX6 k) := by decide +kernel
abbrev cX6_init : ByteArray := prog_8_method_1_code
def yX6_init : MethodName := ⟨RX6, "<init>", "()V"⟩
abbrev cX6_append : ByteArray := prog_8_method_2_code
def yX6_append : MethodName := ⟨RX6, "append", "(C)V"⟩
abbrev cX6_empty : ByteArray := prog_8_method_3_code
def yX6_empty : MethodName := ⟨RX6, "empty", "()I"⟩
abbrev cX6_firstFault : ByteArray := prog_8_method_4_code
def yX6_firstFault : MethodName := ⟨RX6, "firstFault", "()I"⟩
abbrev cX6_tellsMessage : ByteArray := prog_8_method_5_code
def yX6_tellsMessage : MethodName := ⟨RX6, "tellsMessage", "()Z"⟩
abbrev cX6_tell : ByteArray := prog_8_method_6_code
def yX6_tell : MethodName := ⟨RX6, "tell", "(LLetterNeedles$Line;LLetterNeedles$Messages;)V"⟩
abbrev cX6_tellItem : ByteArray := prog_8_method_7_code
def yX6_tellItem : MethodName := ⟨RX6, "tellItem", "(IILLetterNeedles$Line;LLetterNeedles$Messages;)V"⟩
abbrev cX6_tellMessage : ByteArray := prog_8_method_8_code
def yX6_tellMessage : MethodName := ⟨RX6, "tellMessage", "(IILLetterNeedles$Messages;)V"⟩
abbrev cX6_itemEnd : ByteArray := prog_8_method_9_code
def yX6_itemEnd : MethodName := ⟨RX6, "itemEnd", "(I)I"⟩
abbrev cX6_needleEnd : ByteArray := prog_8_method_10_code
def yX6_needleEnd : MethodName := ⟨RX6, "needleEnd", "(I)I"⟩
abbrev cX6_wireEnd : ByteArray := prog_8_method_11_code
def yX6_wireEnd : MethodName := ⟨RX6, "wireEnd", "(II)I"⟩
abbrev cX6_messageEnd : ByteArray := prog_8_method_12_code
def yX6_messageEnd : MethodName := ⟨RX6, "messageEnd", "(I)I"⟩
abbrev cX6_figureAt : ByteArray := prog_8_method_13_code
def yX6_figureAt : MethodName := ⟨RX6, "figureAt", "(I)I"⟩
abbrev cX6_letterAt : ByteArray := prog_8_method_14_code
def yX6_letterAt : MethodName := ⟨RX6, "letterAt", "(I)C"⟩
def RX7 : String := "LetterNeedles$Suspects"
def TX7 : u_T := fun k => match k with
  | 0 => ("LetterNeedles$Suspects", "seenSigns", "[I", true)
  | 1 => ("LetterNeedles$Suspects", "seenReads", "[I", true)
  | 2 => ("LetterNeedles$Suspects", "readings", "[B", true)
  | 3 => ("LetterNeedles$Suspects", "hasReadings", "Z", false)
  | 4 => ("LetterNeedles$Suspects", "parts", "[I", true)
  | _ => ("LetterNeedles$Suspects", "seen", "I", false)
def tyX7 : Nat → FieldType := fun k => match k with
  | 0 => .array .int
  | 1 => .array .int
  | 2 => .array .byte
  | 3 => .boolean
  | 4 => .array .int
  | _ => .int
abbrev wsX70 : List Cond := u_ws RX7 TX7 6
theorem nmX7 : ∀ a, a < 6 → ∀ b, b < 6 → a ≠ b → (TX7 a).2.1 ≠ (TX7 b).2.1 := by decide +kernel
theorem tyX7_ok : ∀ k, k < 6 → parseFieldDescriptor (TX7 k).2.2.1 = some (tyX7 k) := by decide +kernel
abbrev cX7_init : ByteArray := prog_9_method_1_code
def yX7_init : MethodName := ⟨RX7, "<init>", "()V"⟩
abbrev cX7_add : ByteArray := prog_9_method_2_code
def yX7_add : MethodName := ⟨RX7, "add", "(II)V"⟩
abbrev cX7_empty : ByteArray := prog_9_method_3_code
def yX7_empty : MethodName := ⟨RX7, "empty", "()I"⟩
abbrev cX7_possible : ByteArray := prog_9_method_4_code
def yX7_possible : MethodName := ⟨RX7, "possible", "(LLetterNeedles$Line;)I"⟩
abbrev cX7_agrees : ByteArray := prog_9_method_5_code
def yX7_agrees : MethodName := ⟨RX7, "agrees", "(I)Z"⟩
abbrev cX7_bestSign : ByteArray := prog_9_method_6_code
def yX7_bestSign : MethodName := ⟨RX7, "bestSign", "(I)I"⟩
abbrev cX7_greatestPart : ByteArray := prog_9_method_7_code
def yX7_greatestPart : MethodName := ⟨RX7, "greatestPart", "(II)I"⟩
abbrev cX7_workOutReadings : ByteArray := prog_9_method_8_code
def yX7_workOutReadings : MethodName := ⟨RX7, "workOutReadings", "(LLetterNeedles$Line;)V"⟩
abbrev cX7_makeWrong : ByteArray := prog_9_method_9_code
def yX7_makeWrong : MethodName := ⟨RX7, "makeWrong", "(LLetterNeedles$Line;I)V"⟩
def RX8 : String := "LetterNeedles"
def TX8 : u_T := fun k => match k with
  | 0 => ("LetterNeedles", "script", "LLetterNeedles$Script;", true)
  | 1 => ("LetterNeedles", "messages", "LLetterNeedles$Messages;", true)
  | 2 => ("LetterNeedles", "line", "LLetterNeedles$Line;", true)
  | 3 => ("LetterNeedles", "trial", "LLetterNeedles$Line;", true)
  | 4 => ("LetterNeedles", "past", "LLetterNeedles$Past;", true)
  | 5 => ("LetterNeedles", "suspects", "LLetterNeedles$Suspects;", true)
  | 6 => ("LetterNeedles", "hearing", "LLetterNeedles$Hearing;", true)
  | 7 => ("LetterNeedles", "contest", "LLetterNeedles$Contest;", true)
  | _ => ("LetterNeedles", "arrangement", "LLetterNeedles$Arrangement;", true)
def tyX8 : Nat → FieldType := fun k => match k with
  | 0 => .object "LetterNeedles$Script"
  | 1 => .object "LetterNeedles$Messages"
  | 2 => .object "LetterNeedles$Line"
  | 3 => .object "LetterNeedles$Line"
  | 4 => .object "LetterNeedles$Past"
  | 5 => .object "LetterNeedles$Suspects"
  | 6 => .object "LetterNeedles$Hearing"
  | 7 => .object "LetterNeedles$Contest"
  | _ => .object "LetterNeedles$Arrangement"
abbrev wsX80 : List Cond := u_ws RX8 TX8 9
theorem nmX8 : ∀ a, a < 9 → ∀ b, b < 9 → a ≠ b → (TX8 a).2.1 ≠ (TX8 b).2.1 := by decide +kernel
theorem tyX8_ok : ∀ k, k < 9 → parseFieldDescriptor (TX8 k).2.2.1 = some (tyX8 k) := by decide +kernel
abbrev cX8_init : ByteArray := prog_1_method_1_code
def yX8_init : MethodName := ⟨RX8, "<init>", "()V"⟩
abbrev cX8_write : ByteArray := prog_1_method_2_code
def yX8_write : MethodName := ⟨RX8, "write", "(I)I"⟩
abbrev cX8_wipe : ByteArray := prog_1_method_3_code
def yX8_wipe : MethodName := ⟨RX8, "wipe", "()I"⟩
abbrev cX8_fault : ByteArray := prog_1_method_4_code
def yX8_fault : MethodName := ⟨RX8, "fault", "()I"⟩
abbrev cX8_lay : ByteArray := prog_1_method_5_code
def yX8_lay : MethodName := ⟨RX8, "lay", "()I"⟩
abbrev cX8_needle : ByteArray := prog_1_method_6_code
def yX8_needle : MethodName := ⟨RX8, "needle", "(II)I"⟩
abbrev cX8_wire : ByteArray := prog_1_method_7_code
def yX8_wire : MethodName := ⟨RX8, "wire", "(II)I"⟩
abbrev cX8_spelt : ByteArray := prog_1_method_8_code
def yX8_spelt : MethodName := ⟨RX8, "spelt", "(II)I"⟩
abbrev cX8_send : ByteArray := prog_1_method_9_code
def yX8_send : MethodName := ⟨RX8, "send", "(I)I"⟩
abbrev cX8_cut : ByteArray := prog_1_method_10_code
def yX8_cut : MethodName := ⟨RX8, "cut", "(I)I"⟩
abbrev cX8_turn : ByteArray := prog_1_method_11_code
def yX8_turn : MethodName := ⟨RX8, "turn", "(I)I"⟩
abbrev cX8_touch : ByteArray := prog_1_method_12_code
def yX8_touch : MethodName := ⟨RX8, "touch", "(I)I"⟩
abbrev cX8_mend : ByteArray := prog_1_method_13_code
def yX8_mend : MethodName := ⟨RX8, "mend", "(I)I"⟩
abbrev cX8_change : ByteArray := prog_1_method_14_code
def yX8_change : MethodName := ⟨RX8, "change", "(II)I"⟩
abbrev cX8_undo : ByteArray := prog_1_method_15_code
def yX8_undo : MethodName := ⟨RX8, "undo", "()I"⟩
abbrev cX8_reads : ByteArray := prog_1_method_16_code
def yX8_reads : MethodName := ⟨RX8, "reads", "()I"⟩
abbrev cX8_said : ByteArray := prog_1_method_17_code
def yX8_said : MethodName := ⟨RX8, "said", "(IIII)I"⟩
abbrev cX8_pace : ByteArray := prog_1_method_18_code
def yX8_pace : MethodName := ⟨RX8, "pace", "(II)I"⟩
abbrev cX8_clear : ByteArray := prog_1_method_19_code
def yX8_clear : MethodName := ⟨RX8, "clear", "(I)I"⟩
abbrev cX8_like : ByteArray := prog_1_method_20_code
def yX8_like : MethodName := ⟨RX8, "like", "(I)I"⟩
abbrev cX8_mending : ByteArray := prog_1_method_21_code
def yX8_mending : MethodName := ⟨RX8, "mending", "(III)I"⟩
abbrev cX8_changing : ByteArray := prog_1_method_22_code
def yX8_changing : MethodName := ⟨RX8, "changing", "(IIII)I"⟩
abbrev cX8_order : ByteArray := prog_1_method_23_code
def yX8_order : MethodName := ⟨RX8, "order", "(II)I"⟩
abbrev cX8_see : ByteArray := prog_1_method_24_code
def yX8_see : MethodName := ⟨RX8, "see", "(II)I"⟩
abbrev cX8_canBe : ByteArray := prog_1_method_25_code
def yX8_canBe : MethodName := ⟨RX8, "canBe", "()I"⟩
abbrev cX8_tries : ByteArray := prog_1_method_26_code
def yX8_tries : MethodName := ⟨RX8, "tries", "(I)I"⟩
abbrev cX8_hear : ByteArray := prog_1_method_27_code
def yX8_hear : MethodName := ⟨RX8, "hear", "(I)I"⟩
abbrev cX8_fits : ByteArray := prog_1_method_28_code
def yX8_fits : MethodName := ⟨RX8, "fits", "()I"⟩
abbrev cX8_forget : ByteArray := prog_1_method_29_code
def yX8_forget : MethodName := ⟨RX8, "forget", "(I)I"⟩
abbrev cX8_duel : ByteArray := prog_1_method_30_code
def yX8_duel : MethodName := ⟨RX8, "duel", "(II)I"⟩
abbrev cX8_odds : ByteArray := prog_1_method_31_code
def yX8_odds : MethodName := ⟨RX8, "odds", "(III)I"⟩
abbrev cX8_mean : ByteArray := prog_1_method_32_code
def yX8_mean : MethodName := ⟨RX8, "mean", "(III)I"⟩
abbrev cX8_day : ByteArray := prog_1_method_33_code
def yX8_day : MethodName := ⟨RX8, "day", "(III)I"⟩
abbrev cX8_keep : ByteArray := prog_1_method_34_code
def yX8_keep : MethodName := ⟨RX8, "keep", "()I"⟩
abbrev cX8_back : ByteArray := prog_1_method_35_code
def yX8_back : MethodName := ⟨RX8, "back", "()I"⟩
abbrev cX8_count : ByteArray := prog_1_method_36_code
def yX8_count : MethodName := ⟨RX8, "count", "(I)I"⟩
abbrev cX8_within : ByteArray := prog_1_method_37_code
def yX8_within : MethodName := ⟨RX8, "within", "(III)Z"⟩
abbrev cX8_isPlace : ByteArray := prog_1_method_38_code
def yX8_isPlace : MethodName := ⟨RX8, "isPlace", "(I)Z"⟩
abbrev cX8_isBeats : ByteArray := prog_1_method_39_code
def yX8_isBeats : MethodName := ⟨RX8, "isBeats", "(I)Z"⟩
abbrev cX8_isMessage : ByteArray := prog_1_method_40_code
def yX8_isMessage : MethodName := ⟨RX8, "isMessage", "(I)Z"⟩
abbrev cX8_isSaying : ByteArray := prog_1_method_41_code
def yX8_isSaying : MethodName := ⟨RX8, "isSaying", "(III)Z"⟩
abbrev cX8_bitAt : ByteArray := prog_1_method_42_code
def yX8_bitAt : MethodName := ⟨RX8, "bitAt", "(II)I"⟩
abbrev cX8_layScript : ByteArray := prog_1_method_43_code
def yX8_layScript : MethodName := ⟨RX8, "layScript", "()V"⟩
abbrev cX8_isAllRightMended : ByteArray := prog_1_method_44_code
def yX8_isAllRightMended : MethodName := ⟨RX8, "isAllRightMended", "(IIII)Z"⟩
abbrev cX8_slackChances : ByteArray := prog_1_method_45_code
def yX8_slackChances : MethodName := ⟨RX8, "slackChances", "(II)I"⟩
abbrev cX8_slackShare : ByteArray := prog_1_method_46_code
def yX8_slackShare : MethodName := ⟨RX8, "slackShare", "(III)I"⟩
abbrev cX8_lowestTerms : ByteArray := prog_1_method_47_code
def yX8_lowestTerms : MethodName := ⟨RX8, "lowestTerms", "(II)I"⟩
abbrev cX8_commonDivisor : ByteArray := prog_1_method_48_code
def yX8_commonDivisor : MethodName := ⟨RX8, "commonDivisor", "(II)I"⟩
abbrev cX8_drawOf : ByteArray := prog_1_method_49_code
def yX8_drawOf : MethodName := ⟨RX8, "drawOf", "(II)I"⟩
abbrev cX8_doDrawn : ByteArray := prog_1_method_50_code
def yX8_doDrawn : MethodName := ⟨RX8, "doDrawn", "(II)V"⟩
def RX9 : String := "LetterNeedlesModel"
def TX9 : u_T := fun k => match k with
  | 0 => ("LetterNeedlesModel", "text", "[I", true)
  | 1 => ("LetterNeedlesModel", "length", "I", false)
  | 2 => ("LetterNeedlesModel", "given", "[I", true)
  | 3 => ("LetterNeedlesModel", "messages", "I", false)
  | 4 => ("LetterNeedlesModel", "sizes", "[I", true)
  | 5 => ("LetterNeedlesModel", "spelt", "[I", true)
  | 6 => ("LetterNeedlesModel", "st", "[I", true)
  | 7 => ("LetterNeedlesModel", "now", "[I", true)
  | 8 => ("LetterNeedlesModel", "book", "[I", true)
  | 9 => ("LetterNeedlesModel", "undos", "I", false)
  | 10 => ("LetterNeedlesModel", "kept", "[I", true)
  | 11 => ("LetterNeedlesModel", "keeps", "I", false)
  | 12 => ("LetterNeedlesModel", "seen", "[I", true)
  | 13 => ("LetterNeedlesModel", "seenMany", "I", false)
  | 14 => ("LetterNeedlesModel", "heard", "[I", true)
  | 15 => ("LetterNeedlesModel", "heardMany", "I", false)
  | 16 => ("LetterNeedlesModel", "place", "I", false)
  | 17 => ("LetterNeedlesModel", "isWrong", "Z", false)
  | 18 => ("LetterNeedlesModel", "readMany", "I", false)
  | 19 => ("LetterNeedlesModel", "read", "[I", true)
  | 20 => ("LetterNeedlesModel", "readSizes", "[I", true)
  | 21 => ("LetterNeedlesModel", "readSpelt", "[I", true)
  | 22 => ("LetterNeedlesModel", "bears", "[I", true)
  | 23 => ("LetterNeedlesModel", "gets", "[I", true)
  | 24 => ("LetterNeedlesModel", "reads", "[I", true)
  | 25 => ("LetterNeedlesModel", "rank", "[I", true)
  | 26 => ("LetterNeedlesModel", "bestRank", "[I", true)
  | 27 => ("LetterNeedlesModel", "parts", "[I", true)
  | _ => ("LetterNeedlesModel", "worth", "[I", true)
def tyX9 : Nat → FieldType := fun k => match k with
  | 0 => .array .int
  | 1 => .int
  | 2 => .array .int
  | 3 => .int
  | 4 => .array .int
  | 5 => .array .int
  | 6 => .array .int
  | 7 => .array .int
  | 8 => .array .int
  | 9 => .int
  | 10 => .array .int
  | 11 => .int
  | 12 => .array .int
  | 13 => .int
  | 14 => .array .int
  | 15 => .int
  | 16 => .int
  | 17 => .boolean
  | 18 => .int
  | 19 => .array .int
  | 20 => .array .int
  | 21 => .array .int
  | 22 => .array .int
  | 23 => .array .int
  | 24 => .array .int
  | 25 => .array .int
  | 26 => .array .int
  | 27 => .array .int
  | _ => .array .int
abbrev wsX90 : List Cond := u_ws RX9 TX9 29
theorem nmX9 : ∀ a, a < 29 → ∀ b, b < 29 → a ≠ b → (TX9 a).2.1 ≠ (TX9 b).2.1 := by decide +kernel
theorem tyX9_ok : ∀ k, k < 29 → parseFieldDescriptor (TX9 k).2.2.1 = some (tyX9 k) := by decide +kernel
abbrev cX9_init : ByteArray := prog_11_method_1_code
def yX9_init : MethodName := ⟨RX9, "<init>", "()V"⟩
abbrev cX9_in : ByteArray := prog_11_method_3_code
def yX9_in : MethodName := ⟨RX9, "in", "(III)Z"⟩
abbrev cX9_bits : ByteArray := prog_11_method_4_code
def yX9_bits : MethodName := ⟨RX9, "bits", "(I)I"⟩
abbrev cX9_bring : ByteArray := prog_11_method_5_code
def yX9_bring : MethodName := ⟨RX9, "bring", "([II[III)V"⟩
abbrev cX9_tells : ByteArray := prog_11_method_6_code
def yX9_tells : MethodName := ⟨RX9, "tells", "(JI)V"⟩
abbrev cX9_isMessage : ByteArray := prog_11_method_7_code
def yX9_isMessage : MethodName := ⟨RX9, "isMessage", "(I)Z"⟩
abbrev cX9_isPlace : ByteArray := prog_11_method_8_code
def yX9_isPlace : MethodName := ⟨RX9, "isPlace", "(I)Z"⟩
abbrev cX9_here : ByteArray := prog_11_method_9_code
def yX9_here : MethodName := ⟨RX9, "here", "()I"⟩
abbrev cX9_figure : ByteArray := prog_11_method_10_code
def yX9_figure : MethodName := ⟨RX9, "figure", "(I)I"⟩
abbrev cX9_sign : ByteArray := prog_11_method_11_code
def yX9_sign : MethodName := ⟨RX9, "sign", "(I)V"⟩
abbrev cX9_signOf : ByteArray := prog_11_method_12_code
def yX9_signOf : MethodName := ⟨RX9, "signOf", "(I)I"⟩
abbrev cX9_readMessage : ByteArray := prog_11_method_13_code
def yX9_readMessage : MethodName := ⟨RX9, "readMessage", "()V"⟩
abbrev cX9_readItem : ByteArray := prog_11_method_14_code
def yX9_readItem : MethodName := ⟨RX9, "readItem", "()V"⟩
abbrev cX9_reading : ByteArray := prog_11_method_15_code
def yX9_reading : MethodName := ⟨RX9, "reading", "()I"⟩
abbrev cX9_write : ByteArray := prog_11_method_16_code
def yX9_write : MethodName := ⟨RX9, "write", "(I)I"⟩
abbrev cX9_wipe : ByteArray := prog_11_method_17_code
def yX9_wipe : MethodName := ⟨RX9, "wipe", "()I"⟩
abbrev cX9_fault : ByteArray := prog_11_method_18_code
def yX9_fault : MethodName := ⟨RX9, "fault", "()I"⟩
abbrev cX9_lay : ByteArray := prog_11_method_19_code
def yX9_lay : MethodName := ⟨RX9, "lay", "()I"⟩
abbrev cX9_needle : ByteArray := prog_11_method_20_code
def yX9_needle : MethodName := ⟨RX9, "needle", "(II)I"⟩
abbrev cX9_wire : ByteArray := prog_11_method_21_code
def yX9_wire : MethodName := ⟨RX9, "wire", "(II)I"⟩
abbrev cX9_spelt : ByteArray := prog_11_method_22_code
def yX9_spelt : MethodName := ⟨RX9, "spelt", "(II)I"⟩
abbrev cX9_other : ByteArray := prog_11_method_23_code
def yX9_other : MethodName := ⟨RX9, "other", "(I)I"⟩
abbrev cX9_carries : ByteArray := prog_11_method_24_code
def yX9_carries : MethodName := ⟨RX9, "carries", "([II)V"⟩
abbrev cX9_stiff : ByteArray := prog_11_method_25_code
def yX9_stiff : MethodName := ⟨RX9, "stiff", "([II)I"⟩
abbrev cX9_stands : ByteArray := prog_11_method_26_code
def yX9_stands : MethodName := ⟨RX9, "stands", "([II)I"⟩
abbrev cX9_beat : ByteArray := prog_11_method_27_code
def yX9_beat : MethodName := ⟨RX9, "beat", "([II)V"⟩
abbrev cX9_isSign : ByteArray := prog_11_method_28_code
def yX9_isSign : MethodName := ⟨RX9, "isSign", "([II)Z"⟩
abbrev cX9_readOf : ByteArray := prog_11_method_29_code
def yX9_readOf : MethodName := ⟨RX9, "readOf", "([I)I"⟩
abbrev cX9_notes : ByteArray := prog_11_method_30_code
def yX9_notes : MethodName := ⟨RX9, "notes", "()V"⟩
abbrev cX9_sum : ByteArray := prog_11_method_31_code
def yX9_sum : MethodName := ⟨RX9, "sum", "([III)I"⟩
abbrev cX9_send : ByteArray := prog_11_method_32_code
def yX9_send : MethodName := ⟨RX9, "send", "(I)I"⟩
abbrev cX9_cut : ByteArray := prog_11_method_33_code
def yX9_cut : MethodName := ⟨RX9, "cut", "(I)I"⟩
abbrev cX9_turn : ByteArray := prog_11_method_34_code
def yX9_turn : MethodName := ⟨RX9, "turn", "(I)I"⟩
abbrev cX9_touch : ByteArray := prog_11_method_35_code
def yX9_touch : MethodName := ⟨RX9, "touch", "(I)I"⟩
abbrev cX9_touches : ByteArray := prog_11_method_36_code
def yX9_touches : MethodName := ⟨RX9, "touches", "([II)Z"⟩
abbrev cX9_mayMend : ByteArray := prog_11_method_37_code
def yX9_mayMend : MethodName := ⟨RX9, "mayMend", "([II)Z"⟩
abbrev cX9_mends : ByteArray := prog_11_method_38_code
def yX9_mends : MethodName := ⟨RX9, "mends", "([II)V"⟩
abbrev cX9_mend : ByteArray := prog_11_method_39_code
def yX9_mend : MethodName := ⟨RX9, "mend", "(I)I"⟩
abbrev cX9_changes : ByteArray := prog_11_method_40_code
def yX9_changes : MethodName := ⟨RX9, "changes", "([III)V"⟩
abbrev cX9_change : ByteArray := prog_11_method_41_code
def yX9_change : MethodName := ⟨RX9, "change", "(II)I"⟩
abbrev cX9_undo : ByteArray := prog_11_method_42_code
def yX9_undo : MethodName := ⟨RX9, "undo", "()I"⟩
abbrev cX9_reads : ByteArray := prog_11_method_43_code
def yX9_reads : MethodName := ⟨RX9, "reads", "()I"⟩
abbrev cX9_asItIs : ByteArray := prog_11_method_44_code
def yX9_asItIs : MethodName := ⟨RX9, "asItIs", "()V"⟩
abbrev cX9_rests : ByteArray := prog_11_method_45_code
def yX9_rests : MethodName := ⟨RX9, "rests", "()V"⟩
abbrev cX9_says : ByteArray := prog_11_method_46_code
def yX9_says : MethodName := ⟨RX9, "says", "(III)I"⟩
abbrev cX9_isPace : ByteArray := prog_11_method_47_code
def yX9_isPace : MethodName := ⟨RX9, "isPace", "(II)Z"⟩
abbrev cX9_said : ByteArray := prog_11_method_48_code
def yX9_said : MethodName := ⟨RX9, "said", "(IIII)I"⟩
abbrev cX9_pace : ByteArray := prog_11_method_49_code
def yX9_pace : MethodName := ⟨RX9, "pace", "(II)I"⟩
abbrev cX9_sent : ByteArray := prog_11_method_50_code
def yX9_sent : MethodName := ⟨RX9, "sent", "(II)I"⟩
abbrev cX9_clearOf : ByteArray := prog_11_method_51_code
def yX9_clearOf : MethodName := ⟨RX9, "clearOf", "(II)I"⟩
abbrev cX9_clear : ByteArray := prog_11_method_52_code
def yX9_clear : MethodName := ⟨RX9, "clear", "(I)I"⟩
abbrev cX9_like : ByteArray := prog_11_method_53_code
def yX9_like : MethodName := ⟨RX9, "like", "(I)I"⟩
abbrev cX9_mending : ByteArray := prog_11_method_54_code
def yX9_mending : MethodName := ⟨RX9, "mending", "(III)I"⟩
abbrev cX9_changing : ByteArray := prog_11_method_55_code
def yX9_changing : MethodName := ⟨RX9, "changing", "(IIII)I"⟩
abbrev cX9_nextOrder : ByteArray := prog_11_method_56_code
def yX9_nextOrder : MethodName := ⟨RX9, "nextOrder", "()Z"⟩
abbrev cX9_order : ByteArray := prog_11_method_57_code
def yX9_order : MethodName := ⟨RX9, "order", "(II)I"⟩
abbrev cX9_readBy : ByteArray := prog_11_method_58_code
def yX9_readBy : MethodName := ⟨RX9, "readBy", "(II)I"⟩
abbrev cX9_see : ByteArray := prog_11_method_59_code
def yX9_see : MethodName := ⟨RX9, "see", "(II)I"⟩
abbrev cX9_canBe : ByteArray := prog_11_method_60_code
def yX9_canBe : MethodName := ⟨RX9, "canBe", "()I"⟩
abbrev cX9_greatest : ByteArray := prog_11_method_61_code
def yX9_greatest : MethodName := ⟨RX9, "greatest", "(II)I"⟩
abbrev cX9_tries : ByteArray := prog_11_method_62_code
def yX9_tries : MethodName := ⟨RX9, "tries", "(I)I"⟩
abbrev cX9_hear : ByteArray := prog_11_method_63_code
def yX9_hear : MethodName := ⟨RX9, "hear", "(I)I"⟩
abbrev cX9_fits : ByteArray := prog_11_method_64_code
def yX9_fits : MethodName := ⟨RX9, "fits", "()I"⟩
abbrev cX9_forget : ByteArray := prog_11_method_65_code
def yX9_forget : MethodName := ⟨RX9, "forget", "(I)I"⟩
abbrev cX9_worthOf : ByteArray := prog_11_method_66_code
def yX9_worthOf : MethodName := ⟨RX9, "worthOf", "(III)I"⟩
abbrev cX9_chosen : ByteArray := prog_11_method_67_code
def yX9_chosen : MethodName := ⟨RX9, "chosen", "(IZ)I"⟩
abbrev cX9_duel : ByteArray := prog_11_method_68_code
def yX9_duel : MethodName := ⟨RX9, "duel", "(II)I"⟩
abbrev cX9_divisor : ByteArray := prog_11_method_69_code
def yX9_divisor : MethodName := ⟨RX9, "divisor", "(II)I"⟩
abbrev cX9_likely : ByteArray := prog_11_method_70_code
def yX9_likely : MethodName := ⟨RX9, "likely", "(II)I"⟩
abbrev cX9_part : ByteArray := prog_11_method_71_code
def yX9_part : MethodName := ⟨RX9, "part", "(II)I"⟩
abbrev cX9_odds : ByteArray := prog_11_method_72_code
def yX9_odds : MethodName := ⟨RX9, "odds", "(III)I"⟩
abbrev cX9_mean : ByteArray := prog_11_method_73_code
def yX9_mean : MethodName := ⟨RX9, "mean", "(III)I"⟩
abbrev cX9_draw : ByteArray := prog_11_method_74_code
def yX9_draw : MethodName := ⟨RX9, "draw", "(II)I"⟩
abbrev cX9_day : ByteArray := prog_11_method_75_code
def yX9_day : MethodName := ⟨RX9, "day", "(III)I"⟩
abbrev cX9_keep : ByteArray := prog_11_method_76_code
def yX9_keep : MethodName := ⟨RX9, "keep", "()I"⟩
abbrev cX9_back : ByteArray := prog_11_method_77_code
def yX9_back : MethodName := ⟨RX9, "back", "()I"⟩
abbrev cX9_notUpright : ByteArray := prog_11_method_78_code
def yX9_notUpright : MethodName := ⟨RX9, "notUpright", "()I"⟩
abbrev cX9_count : ByteArray := prog_11_method_79_code
def yX9_count : MethodName := ⟨RX9, "count", "(I)I"⟩
def RJ6 : String := "java/lang/Integer"
def TJ6 : u_T := fun k => match k with
  | _ => ("", "", "", false)
def tyJ6 : Nat → FieldType := fun k => match k with
  | _ => .int
abbrev wsJ60 : List Cond := u_ws RJ6 TJ6 0
theorem nmJ6 : ∀ a, a < 0 → ∀ b, b < 0 → a ≠ b → (TJ6 a).2.1 ≠ (TJ6 b).2.1 := by decide +kernel
theorem tyJ6_ok : ∀ k, k < 0 → parseFieldDescriptor (TJ6 k).2.2.1 = some (tyJ6 k) := by decide +kernel
abbrev cJ6_bitCount_0f7a4 : ByteArray := prog_12_method_49_code
def yJ6_bitCount_0f7a4 : MethodName := ⟨RJ6, "bitCount", "(I)I"⟩
def RJ9 : String := "java/lang/Math"
def TJ9 : u_T := fun k => match k with
  | _ => ("", "", "", false)
def tyJ9 : Nat → FieldType := fun k => match k with
  | _ => .int
abbrev wsJ90 : List Cond := u_ws RJ9 TJ9 0
theorem nmJ9 : ∀ a, a < 0 → ∀ b, b < 0 → a ≠ b → (TJ9 a).2.1 ≠ (TJ9 b).2.1 := by decide +kernel
theorem tyJ9_ok : ∀ k, k < 0 → parseFieldDescriptor (TJ9 k).2.2.1 = some (tyJ9 k) := by decide +kernel
abbrev cJ9_max_7cf53 : ByteArray := prog_13_method_65_code
def yJ9_max_7cf53 : MethodName := ⟨RJ9, "max", "(II)I"⟩
abbrev cJ9_min_7cf53 : ByteArray := prog_13_method_69_code
def yJ9_min_7cf53 : MethodName := ⟨RJ9, "min", "(II)I"⟩
def RJ0 : String := "java/lang/String"
def TJ0 : u_T := fun k => match k with
  | _ => ("", "", "", false)
def tyJ0 : Nat → FieldType := fun k => match k with
  | _ => .int
abbrev wsJ00 : List Cond := u_ws RJ0 TJ0 0
theorem nmJ0 : ∀ a, a < 0 → ∀ b, b < 0 → a ≠ b → (TJ0 a).2.1 ≠ (TJ0 b).2.1 := by decide +kernel
theorem tyJ0_ok : ∀ k, k < 0 → parseFieldDescriptor (TJ0 k).2.2.1 = some (tyJ0 k) := by decide +kernel
abbrev cJ0_length_8abf5 : ByteArray := prog_14_method_54_code
def yJ0_length_8abf5 : MethodName := ⟨RJ0, "length", "()I"⟩
abbrev cJ0_charAt_5068e : ByteArray := prog_14_method_56_code
def yJ0_charAt_5068e : MethodName := ⟨RJ0, "charAt", "(I)C"⟩
abbrev cJ0_coder_7d493 : ByteArray := prog_14_method_152_code
def yJ0_coder_7d493 : MethodName := ⟨RJ0, "coder", "()B"⟩
abbrev cJ0_isLatin1_aae02 : ByteArray := prog_14_method_154_code
def yJ0_isLatin1_aae02 : MethodName := ⟨RJ0, "isLatin1", "()Z"⟩
abbrev cJ0_checkIndex_df160 : ByteArray := prog_14_method_155_code
def yJ0_checkIndex_df160 : MethodName := ⟨RJ0, "checkIndex", "(II)V"⟩
def RJ1 : String := "java/lang/StringLatin1"
def TJ1 : u_T := fun k => match k with
  | _ => ("", "", "", false)
def tyJ1 : Nat → FieldType := fun k => match k with
  | _ => .int
abbrev wsJ10 : List Cond := u_ws RJ1 TJ1 0
theorem nmJ1 : ∀ a, a < 0 → ∀ b, b < 0 → a ≠ b → (TJ1 a).2.1 ≠ (TJ1 b).2.1 := by decide +kernel
theorem tyJ1_ok : ∀ k, k < 0 → parseFieldDescriptor (TJ1 k).2.2.1 = some (tyJ1 k) := by decide +kernel
abbrev cJ1_charAt_3b067 : ByteArray := prog_15_method_2_code
def yJ1_charAt_3b067 : MethodName := ⟨RJ1, "charAt", "([BI)C"⟩
def RJ2 : String := "java/lang/StringUTF16"
def TJ2 : u_T := fun k => match k with
  | _ => ("", "", "", false)
def tyJ2 : Nat → FieldType := fun k => match k with
  | _ => .int
abbrev wsJ20 : List Cond := u_ws RJ2 TJ2 0
theorem nmJ2 : ∀ a, a < 0 → ∀ b, b < 0 → a ≠ b → (TJ2 a).2.1 ≠ (TJ2 b).2.1 := by decide +kernel
theorem tyJ2_ok : ∀ k, k < 0 → parseFieldDescriptor (TJ2 k).2.2.1 = some (tyJ2 k) := by decide +kernel
abbrev cJ2_getChar_3b067 : ByteArray := prog_16_method_5_code
def yJ2_getChar_3b067 : MethodName := ⟨RJ2, "getChar", "([BI)C"⟩
abbrev cJ2_length_9d52b : ByteArray := prog_16_method_6_code
def yJ2_length_9d52b : MethodName := ⟨RJ2, "length", "([B)I"⟩
abbrev cJ2_charAt_3b067 : ByteArray := prog_16_method_83_code
def yJ2_charAt_3b067 : MethodName := ⟨RJ2, "charAt", "([BI)C"⟩
abbrev cJ2_checkIndex_2214a : ByteArray := prog_16_method_91_code
def yJ2_checkIndex_2214a : MethodName := ⟨RJ2, "checkIndex", "(I[B)V"⟩
def RJ7 : String := "java/util/Arrays"
def TJ7 : u_T := fun k => match k with
  | _ => ("", "", "", false)
def tyJ7 : Nat → FieldType := fun k => match k with
  | _ => .int
abbrev wsJ70 : List Cond := u_ws RJ7 TJ7 0
theorem nmJ7 : ∀ a, a < 0 → ∀ b, b < 0 → a ≠ b → (TJ7 a).2.1 ≠ (TJ7 b).2.1 := by decide +kernel
theorem tyJ7_ok : ∀ k, k < 0 → parseFieldDescriptor (TJ7 k).2.2.1 = some (tyJ7 k) := by decide +kernel
abbrev cJ7_fill_53178 : ByteArray := prog_17_method_103_code
def yJ7_fill_53178 : MethodName := ⟨RJ7, "fill", "([II)V"⟩
def RJ3 : String := "jdk/internal/util/Preconditions"
def TJ3 : u_T := fun k => match k with
  | _ => ("", "", "", false)
def tyJ3 : Nat → FieldType := fun k => match k with
  | _ => .int
abbrev wsJ30 : List Cond := u_ws RJ3 TJ3 0
theorem nmJ3 : ∀ a, a < 0 → ∀ b, b < 0 → a ≠ b → (TJ3 a).2.1 ≠ (TJ3 b).2.1 := by decide +kernel
theorem tyJ3_ok : ∀ k, k < 0 → parseFieldDescriptor (TJ3 k).2.2.1 = some (tyJ3 k) := by decide +kernel
abbrev cJ3_checkIndex_8e157 : ByteArray := prog_18_method_11_code
def yJ3_checkIndex_8e157 : MethodName := ⟨RJ3, "checkIndex", "(IILjava/util/function/BiFunction;)I"⟩
def RL : String := "LetterNeedlesLaw"
abbrev cL_law : ByteArray := code
def yL_law : MethodName := ⟨RL, "law", "([I)Z"⟩
abbrev vwCl : List vw_C := [(RX0, TX0, 4), (RX1, TX1, 5), (RX2, TX2, 2), (RX3, TX3, 7), (RX4, TX4, 3), (RX5, TX5, 5), (RX6, TX6, 2), (RX7, TX7, 6), (RX8, TX8, 9), (RX9, TX9, 29)]
end
section
/-! an abstract machine for this program: its code as tables, its heap as a list of cells at numbers 0, 1, .. -/
abbrev aC : Type := (Nat × List Int32) ⊕ (List (Option Nat)) ⊕ (Nat × List Value)
abbrev aH : Type := List aC
abbrev aL : Type := List (Option Value)
abbrev aI : Type := Instr × Nat × Nat
abbrev aM : Type := MethodName × Nat × ByteArray × Nat × Option FieldType × List (Nat × aI)
def am_cn : List String := [RX0, RX1, RX2, RX3, RX4, RX5, RX6, RX7, RX8, RX9, RJ6, RJ7]
def am_nm (k : Nat) : String := am_cn.getD k RX0
def am_cl (k : Nat) : vw_C := vwCl.getD k (RX0, TX0, 4)
def k_X0_init : List (Nat × aI) := [(0, .aload_n 0, 1, 0), (1, .invokespecial 3, 4, 0), (4, .aload_n 0, 5, 0), (5, .bipush 25, 7, 25), (7, .newarray .int, 9, 0), (9, .putfield 9, 12, 0), (12, .aload_n 0, 13, 0), (13, .iconst 5, 14, 5), (14, .newarray .int, 16, 0), (16, .putfield 15, 19, 1), (19, .aload_n 0, 20, 0), (20, .iconst 5, 21, 5), (21, .newarray .int, 23, 0), (23, .putfield 18, 26, 2), (26, .return_, 27, 0)]
def m_X0_init : aM := (yX0_init, 0, cX0_init, 1, none, k_X0_init)
def k_X0_find : List (Nat × aI) := [(0, .aload_n 0, 1, 0), (1, .getfield 9, 4, 0), (4, .iconst 0, 5, 0), (5, .invokestatic 21, 8, 1), (8, .iconst 0, 9, 0), (9, .istore_n 3, 10, 0), (10, .iload_n 3, 11, 0), (11, .bipush 20, 13, 20), (13, .if_icmp .ge 21, 16, 34), (16, .aload_n 1, 17, 0), (17, .iload_n 3, 18, 0), (18, .invokevirtual 27, 21, 2), (21, .aload_n 0, 22, 0), (22, .aload_n 1, 23, 0), (23, .iload_n 3, 24, 0), (24, .iload_n 2, 25, 0), (25, .invokevirtual 33, 28, 3), (28, .iinc 3 1, 31, 1), (31, .goto (-21), 34, 10), (34, .aload_n 0, 35, 0), (35, .iconst (-1), 36, 1), (36, .putfield 37, 39, 3), (39, .aload_n 0, 40, 0), (40, .iconst 0, 41, 0), (41, .iconst 0, 42, 0), (42, .ldc 41, 44, 0), (44, .invokevirtual 42, 47, 4), (47, .return_, 48, 0)]
def m_X0_find : aM := (yX0_find, 0, cX0_find, 4, none, k_X0_find)
def k_X0_noteShown : List (Nat × aI) := [(0, .iconst 0, 1, 0), (1, .istore 4, 3, 0), (3, .iload 4, 5, 0), (5, .iconst 5, 6, 5), (6, .if_icmp .ge 73, 9, 79), (9, .iconst 0, 10, 0), (10, .istore 5, 12, 0), (12, .iload 5, 14, 0), (14, .iconst 5, 15, 5), (15, .if_icmp .ge 58, 18, 73), (18, .aload_n 1, 19, 0), (19, .aload_n 1, 20, 0), (20, .getfield 46, 23, 4), (23, .iload 4, 25, 0), (25, .iaload, 26, 0), (26, .iload 5, 28, 0), (28, .iload_n 3, 29, 0), (29, .invokestatic 49, 32, 5), (32, .istore 6, 34, 0), (34, .iload 6, 36, 0), (36, .getstatic 53, 39, 0), (39, .iload_n 2, 40, 0), (40, .iconst 5, 41, 5), (41, .imul, 42, 0), (42, .iload 5, 44, 0), (44, .iadd, 45, 0), (45, .iaload, 46, 0), (46, .if_icmp .ne 21, 49, 67), (49, .aload_n 0, 50, 0), (50, .getfield 9, 53, 0), (53, .iload 4, 55, 0), (55, .iconst 5, 56, 5), (56, .imul, 57, 0), (57, .iload 5, 59, 0), (59, .iadd, 60, 0), (60, .dup2, 61, 0), (61, .iaload, 62, 0), (62, .iconst 1, 63, 1), (63, .iload_n 2, 64, 0), (64, .ishl, 65, 0), (65, .ior, 66, 0), (66, .iastore, 67, 0), (67, .iinc 5 1, 70, 1), (70, .goto (-58), 73, 12), (73, .iinc 4 1, 76, 1), (76, .goto (-73), 79, 3), (79, .return_, 80, 0)]
def m_X0_noteShown : aM := (yX0_noteShown, 0, cX0_noteShown, 7, none, k_X0_noteShown)
def k_X0_standsBehind : List (Nat × aI) := [(0, .iconst 0, 1, 0), (1, .istore 4, 3, 0), (3, .iconst 0, 4, 0), (4, .istore 5, 6, 0), (6, .iconst 0, 7, 0), (7, .istore 6, 9, 0), (9, .iload 6, 11, 0), (11, .iload_n 3, 12, 0), (12, .if_icmp .ge 38, 15, 50), (15, .iload_n 1, 16, 0), (16, .aload_n 0, 17, 0), (17, .getfield 56, 20, 5), (20, .iload_n 2, 21, 0), (21, .iaload, 22, 0), (22, .aload_n 0, 23, 0), (23, .iload_n 2, 24, 0), (24, .invokevirtual 59, 27, 6), (27, .iload 5, 29, 0), (29, .iload 4, 31, 0), (31, .invokestatic 63, 34, 7), (34, .istore 4, 36, 0), (36, .aload_n 0, 37, 0), (37, .getfield 56, 40, 5), (40, .iload_n 2, 41, 0), (41, .iaload, 42, 0), (42, .istore 5, 44, 0), (44, .iinc 6 1, 47, 1), (47, .goto (-38), 50, 9), (50, .iload 4, 52, 0), (52, .ireturn, 53, 0)]
def m_X0_standsBehind : aM := (yX0_standsBehind, 0, cX0_standsBehind, 7, (some .int), k_X0_standsBehind)
def k_X0_fillFrom : List (Nat × aI) := [(0, .iload_n 1, 1, 0), (1, .iconst 5, 2, 5), (2, .if_icmp .lt 12, 5, 14), (5, .aload_n 0, 6, 0), (6, .iload_n 3, 7, 0), (7, .invokestatic 67, 10, 8), (10, .invokevirtual 72, 13, 9), (13, .return_, 14, 0), (14, .iconst 0, 15, 0), (15, .istore 4, 17, 0), (17, .iload 4, 19, 0), (19, .iconst 5, 20, 5), (20, .if_icmp .ge 52, 23, 72), (23, .iload_n 2, 24, 0), (24, .iload 4, 26, 0), (26, .invokestatic 75, 29, 10), (29, .ifCond .ne 37, 32, 66), (32, .aload_n 0, 33, 0), (33, .getfield 15, 36, 1), (36, .iload_n 1, 37, 0), (37, .iload 4, 39, 0), (39, .iastore, 40, 0), (40, .aload_n 0, 41, 0), (41, .iload_n 1, 42, 0), (42, .iconst 1, 43, 1), (43, .iadd, 44, 0), (44, .iload_n 2, 45, 0), (45, .iconst 1, 46, 1), (46, .iload 4, 48, 0), (48, .ishl, 49, 0), (49, .ior, 50, 0), (50, .iload_n 3, 51, 0), (51, .aload_n 0, 52, 0), (52, .getfield 9, 55, 0), (55, .iload 4, 57, 0), (57, .iconst 5, 58, 5), (58, .imul, 59, 0), (59, .iload_n 1, 60, 0), (60, .iadd, 61, 0), (61, .iaload, 62, 0), (62, .iand, 63, 0), (63, .invokevirtual 42, 66, 4), (66, .iinc 4 1, 69, 1), (69, .goto (-52), 72, 17), (72, .return_, 73, 0)]
def m_X0_fillFrom : aM := (yX0_fillFrom, 0, cX0_fillFrom, 5, none, k_X0_fillFrom)
def k_X0_keepIfBetter : List (Nat × aI) := [(0, .iload_n 1, 1, 0), (1, .aload_n 0, 2, 0), (2, .getfield 37, 5, 3), (5, .if_icmp .le 33, 8, 38), (8, .aload_n 0, 9, 0), (9, .iload_n 1, 10, 0), (10, .putfield 37, 13, 3), (13, .iconst 0, 14, 0), (14, .istore_n 2, 15, 0), (15, .iload_n 2, 16, 0), (16, .iconst 5, 17, 5), (17, .if_icmp .ge 21, 20, 38), (20, .aload_n 0, 21, 0), (21, .getfield 18, 24, 2), (24, .iload_n 2, 25, 0), (25, .aload_n 0, 26, 0), (26, .getfield 15, 29, 1), (29, .iload_n 2, 30, 0), (30, .iaload, 31, 0), (31, .iastore, 32, 0), (32, .iinc 2 1, 35, 1), (35, .goto (-20), 38, 15), (38, .return_, 39, 0)]
def m_X0_keepIfBetter : aM := (yX0_keepIfBetter, 0, cX0_keepIfBetter, 3, none, k_X0_keepIfBetter)
def k_X1_init : List (Nat × aI) := [(0, .aload_n 0, 1, 0), (1, .invokespecial 3, 4, 11), (4, .aload_n 0, 5, 0), (5, .sipush 1024, 8, 1024), (8, .newarray .int, 10, 0), (10, .putfield 9, 13, 6), (13, .aload_n 0, 14, 0), (14, .aload_n 1, 15, 0), (15, .putfield 15, 18, 7), (18, .aload_n 0, 19, 0), (19, .aload_n 2, 20, 0), (20, .putfield 19, 23, 8), (23, .aload_n 0, 24, 0), (24, .aload_n 3, 25, 0), (25, .putfield 22, 28, 9), (28, .return_, 29, 0)]
def m_X1_init : aM := (yX1_init, 1, cX1_init, 4, none, k_X1_init)
def k_X1_beginFor : List (Nat × aI) := [(0, .aload_n 0, 1, 0), (1, .getfield 9, 4, 6), (4, .iconst (-1), 5, 1), (5, .invokestatic 26, 8, 12), (8, .aload_n 0, 9, 0), (9, .iload_n 1, 10, 0), (10, .putfield 32, 13, 10), (13, .return_, 14, 0)]
def m_X1_beginFor : aM := (yX1_beginFor, 1, cX1_beginFor, 2, none, k_X1_beginFor)
def k_X1_outcome : List (Nat × aI) := [(0, .iload_n 1, 1, 0), (1, .ifCond .gt 11, 4, 12), (4, .aload_n 0, 5, 0), (5, .iload_n 3, 6, 0), (6, .iload 4, 8, 0), (8, .invokevirtual 36, 11, 13), (11, .ireturn, 12, 0), (12, .aload_n 0, 13, 0), (13, .iload_n 1, 14, 0), (14, .iconst 1, 15, 1), (15, .isub, 16, 0), (16, .iload_n 2, 17, 0), (17, .ifCond .ne 7, 20, 24), (20, .iconst 1, 21, 1), (21, .goto 4, 24, 25), (24, .iconst 0, 25, 0), (25, .iload_n 3, 26, 0), (26, .iload 4, 28, 0), (28, .invokevirtual 40, 31, 14), (31, .istore 5, 33, 0), (33, .iload_n 2, 34, 0), (34, .ifCond .eq 10, 37, 44), (37, .iload 4, 39, 0), (39, .iconst (-1), 40, 1), (40, .ixor, 41, 0), (41, .goto 10, 44, 51), (44, .aload_n 0, 45, 0), (45, .iload_n 3, 46, 0), (46, .iload 4, 48, 0), (48, .invokevirtual 44, 51, 15), (51, .istore 6, 53, 0), (53, .iconst 0, 54, 0), (54, .istore 7, 56, 0), (56, .iload 7, 58, 0), (58, .iconst 5, 59, 5), (59, .if_icmp .ge 80, 62, 139), (62, .iconst 1, 63, 1), (63, .iload 7, 65, 0), (65, .ishl, 66, 0), (66, .istore 8, 68, 0), (68, .iload 6, 70, 0), (70, .iload 8, 72, 0), (72, .iand, 73, 0), (73, .ifCond .ne 6, 76, 79), (76, .goto 57, 79, 133), (79, .iload_n 2, 80, 0), (80, .ifCond .eq 27, 83, 107), (83, .iload 5, 85, 0), (85, .aload_n 0, 86, 0), (86, .iload_n 1, 87, 0), (87, .iconst 1, 88, 1), (88, .isub, 89, 0), (89, .iconst 0, 90, 0), (90, .iload_n 3, 91, 0), (91, .iload 4, 93, 0), (93, .iload 8, 95, 0), (95, .ior, 96, 0), (96, .invokevirtual 40, 99, 14), (99, .invokestatic 47, 102, 16), (102, .istore 5, 104, 0), (104, .goto 29, 107, 133), (107, .iload 5, 109, 0), (109, .aload_n 0, 110, 0), (110, .iload_n 1, 111, 0), (111, .iconst 1, 112, 1), (112, .isub, 113, 0), (113, .iconst 1, 114, 1), (114, .iload_n 3, 115, 0), (115, .iload 8, 117, 0), (117, .ior, 118, 0), (118, .iload 4, 120, 0), (120, .iload 8, 122, 0), (122, .iconst (-1), 123, 1), (123, .ixor, 124, 0), (124, .iand, 125, 0), (125, .invokevirtual 40, 128, 14), (128, .invokestatic 52, 131, 17), (131, .istore 5, 133, 0), (133, .iinc 7 1, 136, 1), (136, .goto (-80), 139, 56), (139, .iload 5, 141, 0), (141, .ireturn, 142, 0)]
def m_X1_outcome : aM := (yX1_outcome, 1, cX1_outcome, 9, (some .int), k_X1_outcome)
def k_X1_mendableBehind : List (Nat × aI) := [(0, .aload_n 0, 1, 0), (1, .iload_n 1, 2, 0), (2, .iload_n 2, 3, 0), (3, .invokevirtual 55, 6, 18), (6, .aload_n 0, 7, 0), (7, .getfield 19, 10, 8), (10, .invokevirtual 59, 13, 19), (13, .ireturn, 14, 0)]
def m_X1_mendableBehind : aM := (yX1_mendableBehind, 1, cX1_mendableBehind, 3, (some .int), k_X1_mendableBehind)
def k_X1_endOf : List (Nat × aI) := [(0, .iload_n 1, 1, 0), (1, .iconst 5, 2, 5), (2, .ishl, 3, 0), (3, .iload_n 2, 4, 0), (4, .ior, 5, 0), (5, .istore_n 3, 6, 0), (6, .iload_n 3, 7, 0), (7, .ifCond .lt 12, 10, 19), (10, .iload_n 3, 11, 0), (11, .aload_n 0, 12, 0), (12, .getfield 9, 15, 6), (15, .arraylength, 16, 0), (16, .if_icmp .lt 5, 19, 21), (19, .iconst 0, 20, 0), (20, .ireturn, 21, 0), (21, .aload_n 0, 22, 0), (22, .getfield 9, 25, 6), (25, .iload_n 3, 26, 0), (26, .iaload, 27, 0), (27, .iconst (-1), 28, 1), (28, .if_icmp .ne 32, 31, 60), (31, .aload_n 0, 32, 0), (32, .iload_n 1, 33, 0), (33, .iload_n 2, 34, 0), (34, .invokevirtual 55, 37, 18), (37, .aload_n 0, 38, 0), (38, .getfield 9, 41, 6), (41, .iload_n 3, 42, 0), (42, .aload_n 0, 43, 0), (43, .getfield 22, 46, 9), (46, .aload_n 0, 47, 0), (47, .getfield 19, 50, 8), (50, .aload_n 0, 51, 0), (51, .getfield 32, 54, 10), (54, .iconst 1, 55, 1), (55, .iconst 1, 56, 1), (56, .invokevirtual 65, 59, 20), (59, .iastore, 60, 0), (60, .aload_n 0, 61, 0), (61, .getfield 9, 64, 6), (64, .iload_n 3, 65, 0), (65, .iaload, 66, 0), (66, .ireturn, 67, 0)]
def m_X1_endOf : aM := (yX1_endOf, 1, cX1_endOf, 4, (some .int), k_X1_endOf)
def k_X1_layOut : List (Nat × aI) := [(0, .aload_n 0, 1, 0), (1, .getfield 19, 4, 8), (4, .aload_n 0, 5, 0), (5, .getfield 15, 8, 7), (8, .invokevirtual 71, 11, 21), (11, .aload_n 0, 12, 0), (12, .getfield 19, 15, 8), (15, .iload_n 1, 16, 0), (16, .invokevirtual 75, 19, 22), (19, .aload_n 0, 20, 0), (20, .getfield 19, 23, 8), (23, .iload_n 2, 24, 0), (24, .putfield 79, 27, 11), (27, .return_, 28, 0)]
def m_X1_layOut : aM := (yX1_layOut, 1, cX1_layOut, 3, none, k_X1_layOut)
def k_X2_init : List (Nat × aI) := [(0, .aload_n 0, 1, 0), (1, .invokespecial 3, 4, 23), (4, .aload_n 0, 5, 0), (5, .bipush 8, 7, 8), (7, .newarray .int, 9, 0), (9, .putfield 9, 12, 12), (12, .return_, 13, 0)]
def m_X2_init : aM := (yX2_init, 2, cX2_init, 1, none, k_X2_init)
def k_X2_add : List (Nat × aI) := [(0, .aload_n 0, 1, 0), (1, .getfield 15, 4, 13), (4, .bipush 8, 6, 8), (6, .if_icmp .ge 23, 9, 29), (9, .aload_n 0, 10, 0), (10, .getfield 9, 13, 12), (13, .aload_n 0, 14, 0), (14, .getfield 15, 17, 13), (17, .iload_n 1, 18, 0), (18, .iastore, 19, 0), (19, .aload_n 0, 20, 0), (20, .dup, 21, 0), (21, .getfield 15, 24, 13), (24, .iconst 1, 25, 1), (25, .iadd, 26, 0), (26, .putfield 15, 29, 13), (29, .return_, 30, 0)]
def m_X2_add : aM := (yX2_add, 2, cX2_add, 2, none, k_X2_add)
def k_X2_empty : List (Nat × aI) := [(0, .aload_n 0, 1, 0), (1, .getfield 15, 4, 13), (4, .istore_n 1, 5, 0), (5, .aload_n 0, 6, 0), (6, .iconst 0, 7, 0), (7, .putfield 15, 10, 13), (10, .iload_n 1, 11, 0), (11, .ireturn, 12, 0)]
def m_X2_empty : aM := (yX2_empty, 2, cX2_empty, 2, (some .int), k_X2_empty)
def k_X2_isLike : List (Nat × aI) := [(0, .aload_n 1, 1, 0), (1, .iload_n 2, 2, 0), (2, .invokevirtual 19, 5, 24), (5, .aload_n 0, 6, 0), (6, .getfield 15, 9, 13), (9, .if_icmp .eq 5, 12, 14), (12, .iconst 0, 13, 0), (13, .ireturn, 14, 0), (14, .iconst 0, 15, 0), (15, .istore_n 3, 16, 0), (16, .iload_n 3, 17, 0), (17, .aload_n 0, 18, 0), (18, .getfield 15, 21, 13), (21, .if_icmp .ge 37, 24, 58), (24, .aload_n 0, 25, 0), (25, .getfield 9, 28, 12), (28, .iload_n 3, 29, 0), (29, .iaload, 30, 0), (30, .bipush 31, 32, 31), (32, .if_icmp .eq 20, 35, 52), (35, .aload_n 0, 36, 0), (36, .getfield 9, 39, 12), (39, .iload_n 3, 40, 0), (40, .iaload, 41, 0), (41, .aload_n 1, 42, 0), (42, .iload_n 2, 43, 0), (43, .iload_n 3, 44, 0), (44, .invokevirtual 25, 47, 25), (47, .if_icmp .eq 5, 50, 52), (50, .iconst 0, 51, 0), (51, .ireturn, 52, 0), (52, .iinc 3 1, 55, 1), (55, .goto (-39), 58, 16), (58, .iconst 1, 59, 1), (59, .ireturn, 60, 0)]
def m_X2_isLike : aM := (yX2_isLike, 2, cX2_isLike, 4, (some .boolean), k_X2_isLike)
def k_X3_init : List (Nat × aI) := [(0, .aload_n 0, 1, 0), (1, .invokespecial 3, 4, 26), (4, .aload_n 0, 5, 0), (5, .iconst 5, 6, 5), (6, .newarray .int, 8, 0), (8, .putfield 9, 11, 14), (11, .aload_n 0, 12, 0), (12, .iconst 5, 13, 5), (13, .newarray .int, 15, 0), (15, .putfield 15, 18, 15), (18, .aload_n 0, 19, 0), (19, .iconst 5, 20, 5), (20, .newarray .int, 22, 0), (22, .putfield 18, 25, 16), (25, .aload_n 0, 26, 0), (26, .iconst 5, 27, 5), (27, .newarray .int, 29, 0), (29, .putfield 21, 32, 17), (32, .return_, 33, 0)]
def m_X3_init : aM := (yX3_init, 3, cX3_init, 1, none, k_X3_init)
def k_X3_copyFrom : List (Nat × aI) := [(0, .iconst 0, 1, 0), (1, .istore_n 2, 2, 0), (2, .iload_n 2, 3, 0), (3, .iconst 5, 4, 5), (4, .if_icmp .ge 45, 7, 49), (7, .aload_n 0, 8, 0), (8, .getfield 9, 11, 14), (11, .iload_n 2, 12, 0), (12, .aload_n 1, 13, 0), (13, .getfield 9, 16, 14), (16, .iload_n 2, 17, 0), (17, .iaload, 18, 0), (18, .iastore, 19, 0), (19, .aload_n 0, 20, 0), (20, .getfield 15, 23, 15), (23, .iload_n 2, 24, 0), (24, .aload_n 1, 25, 0), (25, .getfield 15, 28, 15), (28, .iload_n 2, 29, 0), (29, .iaload, 30, 0), (30, .iastore, 31, 0), (31, .aload_n 0, 32, 0), (32, .getfield 18, 35, 16), (35, .iload_n 2, 36, 0), (36, .aload_n 1, 37, 0), (37, .getfield 18, 40, 16), (40, .iload_n 2, 41, 0), (41, .iaload, 42, 0), (42, .iastore, 43, 0), (43, .iinc 2 1, 46, 1), (46, .goto (-44), 49, 2), (49, .aload_n 0, 50, 0), (50, .aload_n 1, 51, 0), (51, .getfield 24, 54, 18), (54, .putfield 24, 57, 18), (57, .aload_n 0, 58, 0), (58, .aload_n 1, 59, 0), (59, .getfield 28, 62, 19), (62, .putfield 28, 65, 19), (65, .aload_n 0, 66, 0), (66, .aload_n 1, 67, 0), (67, .getfield 31, 70, 20), (70, .putfield 31, 73, 20), (73, .return_, 74, 0)]
def m_X3_copyFrom : aM := (yX3_copyFrom, 3, cX3_copyFrom, 3, none, k_X3_copyFrom)
def k_X3_makeWhole : List (Nat × aI) := [(0, .iconst 0, 1, 0), (1, .istore_n 1, 2, 0), (2, .iload_n 1, 3, 0), (3, .iconst 5, 4, 5), (4, .if_icmp .ge 16, 7, 20), (7, .aload_n 0, 8, 0), (8, .getfield 9, 11, 14), (11, .iload_n 1, 12, 0), (12, .iconst 0, 13, 0), (13, .iastore, 14, 0), (14, .iinc 1 1, 17, 1), (17, .goto (-15), 20, 2), (20, .aload_n 0, 21, 0), (21, .iconst 0, 22, 0), (22, .putfield 24, 25, 18), (25, .aload_n 0, 26, 0), (26, .iconst 0, 27, 0), (27, .putfield 28, 30, 19), (30, .aload_n 0, 31, 0), (31, .iconst 0, 32, 0), (32, .putfield 31, 35, 20), (35, .return_, 36, 0)]
def m_X3_makeWhole : aM := (yX3_makeWhole, 3, cX3_makeWhole, 2, none, k_X3_makeWhole)
def k_X3_rest : List (Nat × aI) := [(0, .iconst 0, 1, 0), (1, .istore_n 1, 2, 0), (2, .iload_n 1, 3, 0), (3, .iconst 5, 4, 5), (4, .if_icmp .ge 23, 7, 27), (7, .aload_n 0, 8, 0), (8, .getfield 15, 11, 15), (11, .iload_n 1, 12, 0), (12, .iconst 0, 13, 0), (13, .iastore, 14, 0), (14, .aload_n 0, 15, 0), (15, .getfield 18, 18, 16), (18, .iload_n 1, 19, 0), (19, .iconst 0, 20, 0), (20, .iastore, 21, 0), (21, .iinc 1 1, 24, 1), (24, .goto (-22), 27, 2), (27, .return_, 28, 0)]
def m_X3_rest : aM := (yX3_rest, 3, cX3_rest, 2, none, k_X3_rest)
def k_X3_sendFromRest : List (Nat × aI) := [(0, .aload_n 0, 1, 0), (1, .invokevirtual 34, 4, 27), (4, .aload_n 0, 5, 0), (5, .iload_n 1, 6, 0), (6, .iload_n 2, 7, 0), (7, .invokevirtual 37, 10, 28), (10, .ireturn, 11, 0)]
def m_X3_sendFromRest : aM := (yX3_sendFromRest, 3, cX3_sendFromRest, 3, (some .int), k_X3_sendFromRest)
def k_X3_sendFor : List (Nat × aI) := [(0, .aload_n 0, 1, 0), (1, .iload_n 1, 2, 0), (2, .invokevirtual 41, 5, 29), (5, .iconst 0, 6, 0), (6, .istore_n 3, 7, 0), (7, .iload_n 3, 8, 0), (8, .iload_n 2, 9, 0), (9, .if_icmp .ge 82, 12, 91), (12, .iconst 0, 13, 0), (13, .istore 4, 15, 0), (15, .iload 4, 17, 0), (17, .iconst 5, 18, 5), (18, .if_icmp .ge 67, 21, 85), (21, .aload_n 0, 22, 0), (22, .getfield 15, 25, 15), (25, .iload 4, 27, 0), (27, .aload_n 0, 28, 0), (28, .getfield 9, 31, 14), (31, .iload 4, 33, 0), (33, .iaload, 34, 0), (34, .aload_n 0, 35, 0), (35, .getfield 21, 38, 17), (38, .iload 4, 40, 0), (40, .iaload, 41, 0), (41, .aload_n 0, 42, 0), (42, .iload 4, 44, 0), (44, .invokevirtual 45, 47, 30), (47, .aload_n 0, 48, 0), (48, .getfield 18, 51, 16), (51, .iload 4, 53, 0), (53, .iaload, 54, 0), (54, .aload_n 0, 55, 0), (55, .getfield 15, 58, 15), (58, .iload 4, 60, 0), (60, .iaload, 61, 0), (61, .invokestatic 49, 64, 31), (64, .iastore, 65, 0), (65, .aload_n 0, 66, 0), (66, .getfield 18, 69, 16), (69, .iload 4, 71, 0), (71, .aload_n 0, 72, 0), (72, .getfield 21, 75, 17), (75, .iload 4, 77, 0), (77, .iaload, 78, 0), (78, .iastore, 79, 0), (79, .iinc 4 1, 82, 1), (82, .goto (-67), 85, 15), (85, .iinc 3 1, 88, 1), (88, .goto (-81), 91, 7), (91, .aload_n 0, 92, 0), (92, .invokevirtual 53, 95, 32), (95, .ireturn, 96, 0)]
def m_X3_sendFor : aM := (yX3_sendFor, 3, cX3_sendFor, 5, (some .int), k_X3_sendFor)
def k_X3_carrySign : List (Nat × aI) := [(0, .iconst 0, 1, 0), (1, .istore_n 2, 2, 0), (2, .iload_n 2, 3, 0), (3, .iconst 5, 4, 5), (4, .if_icmp .ge 65, 7, 69), (7, .getstatic 57, 10, 1), (10, .iload_n 1, 11, 0), (11, .iconst 5, 12, 5), (12, .imul, 13, 0), (13, .iload_n 2, 14, 0), (14, .iadd, 15, 0), (15, .iaload, 16, 0), (16, .istore_n 3, 17, 0), (17, .aload_n 0, 18, 0), (18, .getfield 28, 21, 19), (21, .iload_n 2, 22, 0), (22, .invokestatic 60, 25, 33), (25, .iconst 1, 26, 1), (26, .if_icmp .ne 10, 29, 36), (29, .iload_n 3, 30, 0), (30, .invokestatic 63, 33, 34), (33, .goto 4, 36, 37), (36, .iload_n 3, 37, 0), (37, .istore 4, 39, 0), (39, .aload_n 0, 40, 0), (40, .getfield 21, 43, 17), (43, .iload_n 2, 44, 0), (44, .aload_n 0, 45, 0), (45, .getfield 24, 48, 18), (48, .iload_n 2, 49, 0), (49, .invokestatic 60, 52, 33), (52, .iconst 1, 53, 1), (53, .if_icmp .ne 7, 56, 60), (56, .iconst 0, 57, 0), (57, .goto 5, 60, 62), (60, .iload 4, 62, 0), (62, .iastore, 63, 0), (63, .iinc 2 1, 66, 1), (66, .goto (-64), 69, 2), (69, .iconst 0, 70, 0), (70, .istore_n 2, 71, 0), (71, .iload_n 2, 72, 0), (72, .iconst 4, 73, 4), (73, .if_icmp .ge 60, 76, 133), (76, .aload_n 0, 77, 0), (77, .getfield 31, 80, 20), (80, .ifCond .eq 53, 83, 133), (83, .iload_n 2, 84, 0), (84, .ifCond .eq 16, 87, 100), (87, .aload_n 0, 88, 0), (88, .getfield 31, 91, 20), (91, .iload_n 2, 92, 0), (92, .iconst 1, 93, 1), (93, .isub, 94, 0), (94, .invokestatic 60, 97, 33), (97, .ifCond .ne 7, 100, 104), (100, .iconst 1, 101, 1), (101, .goto 4, 104, 105), (104, .iconst 0, 105, 0), (105, .istore_n 3, 106, 0), (106, .iload_n 3, 107, 0), (107, .ifCond .eq 20, 110, 127), (110, .aload_n 0, 111, 0), (111, .getfield 31, 114, 20), (114, .iload_n 2, 115, 0), (115, .invokestatic 60, 118, 33), (118, .iconst 1, 119, 1), (119, .if_icmp .ne 8, 122, 127), (122, .aload_n 0, 123, 0), (123, .iload_n 2, 124, 0), (124, .invokevirtual 66, 127, 35), (127, .iinc 2 1, 130, 1), (130, .goto (-59), 133, 71), (133, .return_, 134, 0)]
def m_X3_carrySign : aM := (yX3_carrySign, 3, cX3_carrySign, 5, none, k_X3_carrySign)
def k_X3_shareFrom : List (Nat × aI) := [(0, .iload_n 1, 1, 0), (1, .istore_n 2, 2, 0), (2, .iload_n 2, 3, 0), (3, .iconst 4, 4, 4), (4, .if_icmp .ge 20, 7, 24), (7, .aload_n 0, 8, 0), (8, .getfield 31, 11, 20), (11, .iconst 1, 12, 1), (12, .iload_n 2, 13, 0), (13, .ishl, 14, 0), (14, .iand, 15, 0), (15, .ifCond .eq 9, 18, 24), (18, .iinc 2 1, 21, 1), (21, .goto (-19), 24, 2), (24, .iconst 0, 25, 0), (25, .istore_n 3, 26, 0), (26, .iload_n 1, 27, 0), (27, .istore 4, 29, 0), (29, .iload 4, 31, 0), (31, .iload_n 2, 32, 0), (32, .if_icmp .gt 47, 35, 79), (35, .iload_n 3, 36, 0), (36, .aload_n 0, 37, 0), (37, .getfield 21, 40, 17), (40, .iload 4, 42, 0), (42, .iaload, 43, 0), (43, .iconst 1, 44, 1), (44, .if_icmp .ne 7, 47, 51), (47, .iconst 1, 48, 1), (48, .goto 4, 51, 52), (51, .iconst 0, 52, 0), (52, .iadd, 53, 0), (53, .istore_n 3, 54, 0), (54, .iload_n 3, 55, 0), (55, .aload_n 0, 56, 0), (56, .getfield 21, 59, 17), (59, .iload 4, 61, 0), (61, .iaload, 62, 0), (62, .iconst 2, 63, 2), (63, .if_icmp .ne 7, 66, 70), (66, .iconst 1, 67, 1), (67, .goto 4, 70, 71), (70, .iconst 0, 71, 0), (71, .isub, 72, 0), (72, .istore_n 3, 73, 0), (73, .iinc 4 1, 76, 1), (76, .goto (-47), 79, 29), (79, .iload_n 3, 80, 0), (80, .ifCond .le 7, 83, 87), (83, .iconst 1, 84, 1), (84, .goto 12, 87, 96), (87, .iload_n 3, 88, 0), (88, .ifCond .ge 7, 91, 95), (91, .iconst 2, 92, 2), (92, .goto 4, 95, 96), (95, .iconst 0, 96, 0), (96, .istore 4, 98, 0), (98, .iload_n 1, 99, 0), (99, .istore 5, 101, 0), (101, .iload 5, 103, 0), (103, .iload_n 2, 104, 0), (104, .if_icmp .gt 34, 107, 138), (107, .aload_n 0, 108, 0), (108, .getfield 21, 111, 17), (111, .iload 5, 113, 0), (113, .aload_n 0, 114, 0), (114, .getfield 24, 117, 18), (117, .iconst 1, 118, 1), (118, .iload 5, 120, 0), (120, .ishl, 121, 0), (121, .iand, 122, 0), (122, .ifCond .eq 7, 125, 129), (125, .iconst 0, 126, 0), (126, .goto 5, 129, 131), (129, .iload 4, 131, 0), (131, .iastore, 132, 0), (132, .iinc 5 1, 135, 1), (135, .goto (-34), 138, 101), (138, .return_, 139, 0)]
def m_X3_shareFrom : aM := (yX3_shareFrom, 3, cX3_shareFrom, 6, none, k_X3_shareFrom)
def k_X3_aheadOf : List (Nat × aI) := [(0, .iload_n 1, 1, 0), (1, .ifCond .ne 7, 4, 8), (4, .iconst 0, 5, 0), (5, .goto 11, 8, 16), (8, .aload_n 0, 9, 0), (9, .getfield 21, 12, 17), (12, .iload_n 1, 13, 0), (13, .iconst 1, 14, 1), (14, .isub, 15, 0), (15, .iaload, 16, 0), (16, .ireturn, 17, 0)]
def m_X3_aheadOf : aM := (yX3_aheadOf, 3, cX3_aheadOf, 2, (some .int), k_X3_aheadOf)
def k_X3_standing : List (Nat × aI) := [(0, .iload_n 1, 1, 0), (1, .iload_n 3, 2, 0), (2, .if_icmp .ne 7, 5, 9), (5, .iload_n 1, 6, 0), (6, .goto 4, 9, 10), (9, .iconst 0, 10, 0), (10, .istore 5, 12, 0), (12, .iload_n 0, 13, 0), (13, .tableswitch 75 1 5 #[35, 38, 48, 58, 64], 48, 0), (48, .iload 5, 50, 0), (50, .ireturn, 51, 0), (51, .iload_n 1, 52, 0), (52, .ifCond .ne 7, 55, 59), (55, .iload_n 3, 56, 0), (56, .goto 4, 59, 60), (59, .iload_n 1, 60, 0), (60, .ireturn, 61, 0), (61, .iload_n 1, 62, 0), (62, .ifCond .ne 7, 65, 69), (65, .iload_n 2, 66, 0), (66, .goto 4, 69, 70), (69, .iload_n 1, 70, 0), (70, .ireturn, 71, 0), (71, .iload 5, 73, 0), (73, .invokestatic 63, 76, 34), (76, .ireturn, 77, 0), (77, .iload_n 1, 78, 0), (78, .ifCond .ne 8, 81, 86), (81, .iload 4, 83, 0), (83, .goto 4, 86, 87), (86, .iload_n 1, 87, 0), (87, .ireturn, 88, 0), (88, .iload_n 1, 89, 0), (89, .ireturn, 90, 0)]
def m_X3_standing : aM := (yX3_standing, 3, cX3_standing, 6, (some .int), k_X3_standing)
def k_X3_otherWay : List (Nat × aI) := [(0, .iload_n 0, 1, 0), (1, .ifCond .ne 7, 4, 8), (4, .iconst 0, 5, 0), (5, .goto 6, 8, 11), (8, .iconst 3, 9, 3), (9, .iload_n 0, 10, 0), (10, .isub, 11, 0), (11, .ireturn, 12, 0)]
def m_X3_otherWay : aM := (yX3_otherWay, 3, cX3_otherWay, 1, (some .int), k_X3_otherWay)
def k_X3_readSign : List (Nat × aI) := [(0, .iconst 0, 1, 0), (1, .istore_n 1, 2, 0), (2, .iconst 0, 3, 0), (3, .istore_n 2, 4, 0), (4, .iconst 0, 5, 0), (5, .istore_n 3, 6, 0), (6, .iconst 0, 7, 0), (7, .istore 4, 9, 0), (9, .iconst 0, 10, 0), (10, .istore 5, 12, 0), (12, .iload 5, 14, 0), (14, .iconst 5, 15, 5), (15, .if_icmp .ge 47, 18, 62), (18, .aload_n 0, 19, 0), (19, .getfield 15, 22, 15), (22, .iload 5, 24, 0), (24, .iaload, 25, 0), (25, .iconst 1, 26, 1), (26, .if_icmp .ne 12, 29, 38), (29, .iinc 1 1, 32, 1), (32, .iload 5, 34, 0), (34, .istore_n 3, 35, 0), (35, .goto 21, 38, 56), (38, .aload_n 0, 39, 0), (39, .getfield 15, 42, 15), (42, .iload 5, 44, 0), (44, .iaload, 45, 0), (45, .iconst 2, 46, 2), (46, .if_icmp .ne 10, 49, 56), (49, .iinc 2 1, 52, 1), (52, .iload 5, 54, 0), (54, .istore 4, 56, 0), (56, .iinc 5 1, 59, 1), (59, .goto (-47), 62, 12), (62, .iload_n 1, 63, 0), (63, .iconst 1, 64, 1), (64, .if_icmp .gt 8, 67, 72), (67, .iload_n 2, 68, 0), (68, .iconst 1, 69, 1), (69, .if_icmp .le 6, 72, 75), (72, .bipush 31, 74, 31), (74, .ireturn, 75, 0), (75, .iload_n 1, 76, 0), (76, .iconst 1, 77, 1), (77, .if_icmp .ne 26, 80, 103), (80, .iload_n 2, 81, 0), (81, .iconst 1, 82, 1), (82, .if_icmp .ne 16, 85, 98), (85, .getstatic 69, 88, 2), (88, .iload_n 3, 89, 0), (89, .iconst 5, 90, 5), (90, .imul, 91, 0), (91, .iload 4, 93, 0), (93, .iadd, 94, 0), (94, .iaload, 95, 0), (95, .goto 7, 98, 102), (98, .bipush 20, 100, 20), (100, .iload_n 3, 101, 0), (101, .iadd, 102, 0), (102, .ireturn, 103, 0), (103, .iload_n 2, 104, 0), (104, .iconst 1, 105, 1), (105, .if_icmp .ne 11, 108, 116), (108, .bipush 25, 110, 25), (110, .iload 4, 112, 0), (112, .iadd, 113, 0), (113, .goto 5, 116, 118), (116, .bipush 30, 118, 30), (118, .ireturn, 119, 0)]
def m_X3_readSign : aM := (yX3_readSign, 3, cX3_readSign, 6, (some .int), k_X3_readSign)
def k_X3_notUpright : List (Nat × aI) := [(0, .iconst 0, 1, 0), (1, .istore_n 1, 2, 0), (2, .iconst 0, 3, 0), (3, .istore_n 2, 4, 0), (4, .iload_n 2, 5, 0), (5, .iconst 5, 6, 5), (6, .if_icmp .ge 26, 9, 32), (9, .iload_n 1, 10, 0), (10, .aload_n 0, 11, 0), (11, .getfield 15, 14, 15), (14, .iload_n 2, 15, 0), (15, .iaload, 16, 0), (16, .ifCond .ne 7, 19, 23), (19, .iconst 0, 20, 0), (20, .goto 4, 23, 24), (23, .iconst 1, 24, 1), (24, .iadd, 25, 0), (25, .istore_n 1, 26, 0), (26, .iinc 2 1, 29, 1), (29, .goto (-25), 32, 4), (32, .iload_n 1, 33, 0), (33, .ireturn, 34, 0)]
def m_X3_notUpright : aM := (yX3_notUpright, 3, cX3_notUpright, 3, (some .int), k_X3_notUpright)
def k_X3_mendableWires : List (Nat × aI) := [(0, .aload_n 0, 1, 0), (1, .getfield 24, 4, 18), (4, .aload_n 0, 5, 0), (5, .getfield 28, 8, 19), (8, .ior, 9, 0), (9, .aload_n 0, 10, 0), (10, .getfield 31, 13, 20), (13, .ior, 14, 0), (14, .aload_n 0, 15, 0), (15, .getfield 31, 18, 20), (18, .iconst 1, 19, 1), (19, .ishl, 20, 0), (20, .ior, 21, 0), (21, .ireturn, 22, 0)]
def m_X3_mendableWires : aM := (yX3_mendableWires, 3, cX3_mendableWires, 1, (some .int), k_X3_mendableWires)
def k_X3_mendAll : List (Nat × aI) := [(0, .aload_n 0, 1, 0), (1, .dup, 2, 0), (2, .getfield 24, 5, 18), (5, .iload_n 1, 6, 0), (6, .iconst (-1), 7, 1), (7, .ixor, 8, 0), (8, .iand, 9, 0), (9, .putfield 24, 12, 18), (12, .aload_n 0, 13, 0), (13, .dup, 14, 0), (14, .getfield 28, 17, 19), (17, .iload_n 1, 18, 0), (18, .iconst (-1), 19, 1), (19, .ixor, 20, 0), (20, .iand, 21, 0), (21, .putfield 28, 24, 19), (24, .aload_n 0, 25, 0), (25, .dup, 26, 0), (26, .getfield 31, 29, 20), (29, .iload_n 1, 30, 0), (30, .iload_n 1, 31, 0), (31, .iconst 1, 32, 1), (32, .ishr, 33, 0), (33, .ior, 34, 0), (34, .iconst (-1), 35, 1), (35, .ixor, 36, 0), (36, .iand, 37, 0), (37, .putfield 31, 40, 20), (40, .return_, 41, 0)]
def m_X3_mendAll : aM := (yX3_mendAll, 3, cX3_mendAll, 2, none, k_X3_mendAll)
def k_X3_swapNeedles : List (Nat × aI) := [(0, .aload_n 0, 1, 0), (1, .getfield 9, 4, 14), (4, .iload_n 1, 5, 0), (5, .iload_n 2, 6, 0), (6, .invokestatic 72, 9, 36), (9, .aload_n 0, 10, 0), (10, .getfield 15, 13, 15), (13, .iload_n 1, 14, 0), (14, .iload_n 2, 15, 0), (15, .invokestatic 72, 18, 36), (18, .aload_n 0, 19, 0), (19, .getfield 18, 22, 16), (22, .iload_n 1, 23, 0), (23, .iload_n 2, 24, 0), (24, .invokestatic 72, 27, 36), (27, .return_, 28, 0)]
def m_X3_swapNeedles : aM := (yX3_swapNeedles, 3, cX3_swapNeedles, 3, none, k_X3_swapNeedles)
def k_X3_swapIn : List (Nat × aI) := [(0, .aload_n 0, 1, 0), (1, .iload_n 1, 2, 0), (2, .iaload, 3, 0), (3, .istore_n 3, 4, 0), (4, .aload_n 0, 5, 0), (5, .iload_n 1, 6, 0), (6, .aload_n 0, 7, 0), (7, .iload_n 2, 8, 0), (8, .iaload, 9, 0), (9, .iastore, 10, 0), (10, .aload_n 0, 11, 0), (11, .iload_n 2, 12, 0), (12, .iload_n 3, 13, 0), (13, .iastore, 14, 0), (14, .return_, 15, 0)]
def m_X3_swapIn : aM := (yX3_swapIn, 3, cX3_swapIn, 4, none, k_X3_swapIn)
def k_X4_init : List (Nat × aI) := [(0, .aload_n 0, 1, 0), (1, .invokespecial 3, 4, 37), (4, .aload_n 0, 5, 0), (5, .bipush 48, 7, 48), (7, .newarray .int, 9, 0), (9, .putfield 9, 12, 21), (12, .aload_n 0, 13, 0), (13, .bipush 6, 15, 6), (15, .newarray .int, 17, 0), (17, .putfield 15, 20, 22), (20, .return_, 21, 0)]
def m_X4_init : aM := (yX4_init, 4, cX4_init, 1, none, k_X4_init)
def k_X4_begin : List (Nat × aI) := [(0, .aload_n 0, 1, 0), (1, .getfield 18, 4, 23), (4, .bipush 6, 6, 6), (6, .if_icmp .ge 23, 9, 29), (9, .aload_n 0, 10, 0), (10, .getfield 15, 13, 22), (13, .aload_n 0, 14, 0), (14, .getfield 18, 17, 23), (17, .iconst 0, 18, 0), (18, .iastore, 19, 0), (19, .aload_n 0, 20, 0), (20, .dup, 21, 0), (21, .getfield 18, 24, 23), (24, .iconst 1, 25, 1), (25, .iadd, 26, 0), (26, .putfield 18, 29, 23), (29, .return_, 30, 0)]
def m_X4_begin : aM := (yX4_begin, 4, cX4_begin, 1, none, k_X4_begin)
def k_X4_spell : List (Nat × aI) := [(0, .aload_n 0, 1, 0), (1, .getfield 18, 4, 23), (4, .iconst 1, 5, 1), (5, .isub, 6, 0), (6, .istore_n 2, 7, 0), (7, .iload_n 2, 8, 0), (8, .ifCond .lt 25, 11, 33), (11, .aload_n 0, 12, 0), (12, .getfield 15, 15, 22), (15, .iload_n 2, 16, 0), (16, .iaload, 17, 0), (17, .bipush 8, 19, 8), (19, .if_icmp .ge 14, 22, 33), (22, .iload_n 1, 23, 0), (23, .bipush 65, 25, 65), (25, .bipush 90, 27, 90), (27, .invokestatic 22, 30, 38), (30, .ifCond .ne 4, 33, 34), (33, .return_, 34, 0), (34, .aload_n 0, 35, 0), (35, .getfield 9, 38, 21), (38, .iload_n 2, 39, 0), (39, .bipush 8, 41, 8), (41, .imul, 42, 0), (42, .aload_n 0, 43, 0), (43, .getfield 15, 46, 22), (46, .iload_n 2, 47, 0), (47, .iaload, 48, 0), (48, .iadd, 49, 0), (49, .getstatic 26, 52, 3), (52, .iload_n 1, 53, 0), (53, .bipush 65, 55, 65), (55, .isub, 56, 0), (56, .iaload, 57, 0), (57, .iastore, 58, 0), (58, .aload_n 0, 59, 0), (59, .getfield 15, 62, 22), (62, .iload_n 2, 63, 0), (63, .dup2, 64, 0), (64, .iaload, 65, 0), (65, .iconst 1, 66, 1), (66, .iadd, 67, 0), (67, .iastore, 68, 0), (68, .return_, 69, 0)]
def m_X4_spell : aM := (yX4_spell, 4, cX4_spell, 3, none, k_X4_spell)
def k_X4_lengthOf : List (Nat × aI) := [(0, .aload_n 0, 1, 0), (1, .getfield 15, 4, 22), (4, .iload_n 1, 5, 0), (5, .iaload, 6, 0), (6, .ireturn, 7, 0)]
def m_X4_lengthOf : aM := (yX4_lengthOf, 4, cX4_lengthOf, 2, (some .int), k_X4_lengthOf)
def k_X4_signOf : List (Nat × aI) := [(0, .aload_n 0, 1, 0), (1, .getfield 9, 4, 21), (4, .iload_n 1, 5, 0), (5, .bipush 8, 7, 8), (7, .imul, 8, 0), (8, .iload_n 2, 9, 0), (9, .iadd, 10, 0), (10, .iaload, 11, 0), (11, .ireturn, 12, 0)]
def m_X4_signOf : aM := (yX4_signOf, 4, cX4_signOf, 3, (some .int), k_X4_signOf)
def k_X4_readOn : List (Nat × aI) := [(0, .aload_n 1, 1, 0), (1, .invokevirtual 29, 4, 39), (4, .iconst 0, 5, 0), (5, .istore 6, 7, 0), (7, .iload 6, 9, 0), (9, .iload 5, 11, 0), (11, .if_icmp .ge 31, 14, 42), (14, .aload_n 1, 15, 0), (15, .aload_n 0, 16, 0), (16, .iload_n 2, 17, 0), (17, .iload 6, 19, 0), (19, .invokevirtual 34, 22, 40), (22, .iload_n 3, 23, 0), (23, .invokevirtual 38, 26, 41), (26, .pop, 27, 0), (27, .aload_n 1, 28, 0), (28, .bipush 30, 30, 30), (30, .iload 4, 32, 0), (32, .invokevirtual 38, 35, 41), (35, .pop, 36, 0), (36, .iinc 6 1, 39, 1), (39, .goto (-32), 42, 7), (42, .aload_n 1, 43, 0), (43, .aload_n 0, 44, 0), (44, .iload_n 2, 45, 0), (45, .iload 5, 47, 0), (47, .invokevirtual 34, 50, 40), (50, .iload_n 3, 51, 0), (51, .invokevirtual 38, 54, 41), (54, .ireturn, 55, 0)]
def m_X4_readOn : aM := (yX4_readOn, 4, cX4_readOn, 7, (some .int), k_X4_readOn)
def k_X4_rightOn : List (Nat × aI) := [(0, .aload_n 1, 1, 0), (1, .invokevirtual 29, 4, 39), (4, .iconst 0, 5, 0), (5, .istore 5, 7, 0), (7, .iconst 0, 8, 0), (8, .istore 6, 10, 0), (10, .iload 6, 12, 0), (12, .aload_n 0, 13, 0), (13, .getfield 15, 16, 22), (16, .iload_n 2, 17, 0), (17, .iaload, 18, 0), (18, .if_icmp .ge 49, 21, 67), (21, .aload_n 0, 22, 0), (22, .iload_n 2, 23, 0), (23, .iload 6, 25, 0), (25, .invokevirtual 34, 28, 40), (28, .istore 7, 30, 0), (30, .iload 5, 32, 0), (32, .aload_n 1, 33, 0), (33, .iload 7, 35, 0), (35, .iload_n 3, 36, 0), (36, .invokevirtual 38, 39, 41), (39, .iload 7, 41, 0), (41, .if_icmp .ne 7, 44, 48), (44, .iconst 1, 45, 1), (45, .goto 4, 48, 49), (48, .iconst 0, 49, 0), (49, .iadd, 50, 0), (50, .istore 5, 52, 0), (52, .aload_n 1, 53, 0), (53, .bipush 30, 55, 30), (55, .iload 4, 57, 0), (57, .invokevirtual 38, 60, 41), (60, .pop, 61, 0), (61, .iinc 6 1, 64, 1), (64, .goto (-54), 67, 10), (67, .iload 5, 69, 0), (69, .ireturn, 70, 0)]
def m_X4_rightOn : aM := (yX4_rightOn, 4, cX4_rightOn, 8, (some .int), k_X4_rightOn)
def k_X4_isAllRightOn : List (Nat × aI) := [(0, .aload_n 1, 1, 0), (1, .invokevirtual 29, 4, 39), (4, .iconst 0, 5, 0), (5, .istore 5, 7, 0), (7, .iload 5, 9, 0), (9, .aload_n 0, 10, 0), (10, .getfield 15, 13, 22), (13, .iload_n 2, 14, 0), (14, .iaload, 15, 0), (15, .if_icmp .ge 41, 18, 56), (18, .aload_n 0, 19, 0), (19, .iload_n 2, 20, 0), (20, .iload 5, 22, 0), (22, .invokevirtual 34, 25, 40), (25, .istore 6, 27, 0), (27, .aload_n 1, 28, 0), (28, .iload 6, 30, 0), (30, .iload_n 3, 31, 0), (31, .invokevirtual 38, 34, 41), (34, .iload 6, 36, 0), (36, .if_icmp .eq 5, 39, 41), (39, .iconst 0, 40, 0), (40, .ireturn, 41, 0), (41, .aload_n 1, 42, 0), (42, .bipush 30, 44, 30), (44, .iload 4, 46, 0), (46, .invokevirtual 38, 49, 41), (49, .pop, 50, 0), (50, .iinc 5 1, 53, 1), (53, .goto (-46), 56, 7), (56, .iconst 1, 57, 1), (57, .ireturn, 58, 0)]
def m_X4_isAllRightOn : aM := (yX4_isAllRightOn, 4, cX4_isAllRightOn, 7, (some .boolean), k_X4_isAllRightOn)
def k_X5_init : List (Nat × aI) := [(0, .aload_n 0, 1, 0), (1, .invokespecial 3, 4, 42), (4, .aload_n 0, 5, 0), (5, .bipush 8, 7, 8), (7, .anewarray 9, 10, 0), (10, .putfield 11, 13, 24), (13, .aload_n 0, 14, 0), (14, .iconst 2, 15, 2), (15, .anewarray 9, 18, 0), (18, .putfield 17, 21, 25), (21, .iconst 0, 22, 0), (22, .istore_n 1, 23, 0), (23, .iload_n 1, 24, 0), (24, .bipush 8, 26, 8), (26, .if_icmp .ge 22, 29, 48), (29, .aload_n 0, 30, 0), (30, .getfield 11, 33, 24), (33, .iload_n 1, 34, 0), (34, .new 9, 37, 0), (37, .dup, 38, 0), (38, .invokespecial 20, 41, 43), (41, .aastore, 42, 0), (42, .iinc 1 1, 45, 1), (45, .goto (-22), 48, 23), (48, .iconst 0, 49, 0), (49, .istore_n 1, 50, 0), (50, .iload_n 1, 51, 0), (51, .iconst 2, 52, 2), (52, .if_icmp .ge 22, 55, 74), (55, .aload_n 0, 56, 0), (56, .getfield 17, 59, 25), (59, .iload_n 1, 60, 0), (60, .new 9, 63, 0), (63, .dup, 64, 0), (64, .invokespecial 20, 67, 43), (67, .aastore, 68, 0), (68, .iinc 1 1, 71, 1), (71, .goto (-21), 74, 50), (74, .return_, 75, 0)]
def m_X5_init : aM := (yX5_init, 5, cX5_init, 2, none, k_X5_init)
def k_X5_empty : List (Nat × aI) := [(0, .aload_n 0, 1, 0), (1, .iconst 0, 2, 0), (2, .putfield 21, 5, 26), (5, .aload_n 0, 6, 0), (6, .iconst 0, 7, 0), (7, .putfield 25, 10, 27), (10, .return_, 11, 0)]
def m_X5_empty : aM := (yX5_empty, 5, cX5_empty, 1, none, k_X5_empty)
def k_X5_remember : List (Nat × aI) := [(0, .aload_n 0, 1, 0), (1, .getfield 11, 4, 24), (4, .aload_n 0, 5, 0), (5, .getfield 28, 8, 28), (8, .aaload, 9, 0), (9, .aload_n 1, 10, 0), (10, .invokevirtual 31, 13, 44), (13, .aload_n 0, 14, 0), (14, .aload_n 0, 15, 0), (15, .getfield 28, 18, 28), (18, .iconst 1, 19, 1), (19, .iadd, 20, 0), (20, .bipush 8, 22, 8), (22, .irem, 23, 0), (23, .putfield 28, 26, 28), (26, .aload_n 0, 27, 0), (27, .aload_n 0, 28, 0), (28, .getfield 21, 31, 26), (31, .iconst 1, 32, 1), (32, .iadd, 33, 0), (33, .bipush 8, 35, 8), (35, .invokestatic 35, 38, 45), (38, .putfield 21, 41, 26), (41, .return_, 42, 0)]
def m_X5_remember : aM := (yX5_remember, 5, cX5_remember, 2, none, k_X5_remember)
def k_X5_undoOn : List (Nat × aI) := [(0, .aload_n 0, 1, 0), (1, .getfield 21, 4, 26), (4, .ifCond .le 42, 7, 46), (7, .aload_n 0, 8, 0), (8, .aload_n 0, 9, 0), (9, .getfield 28, 12, 28), (12, .bipush 8, 14, 8), (14, .iadd, 15, 0), (15, .iconst 1, 16, 1), (16, .isub, 17, 0), (17, .bipush 8, 19, 8), (19, .irem, 20, 0), (20, .putfield 28, 23, 28), (23, .aload_n 0, 24, 0), (24, .dup, 25, 0), (25, .getfield 21, 28, 26), (28, .iconst 1, 29, 1), (29, .isub, 30, 0), (30, .putfield 21, 33, 26), (33, .aload_n 1, 34, 0), (34, .aload_n 0, 35, 0), (35, .getfield 11, 38, 24), (38, .aload_n 0, 39, 0), (39, .getfield 28, 42, 28), (42, .aaload, 43, 0), (43, .invokevirtual 31, 46, 44), (46, .return_, 47, 0)]
def m_X5_undoOn : aM := (yX5_undoOn, 5, cX5_undoOn, 2, none, k_X5_undoOn)
def k_X5_keepLine : List (Nat × aI) := [(0, .aload_n 0, 1, 0), (1, .getfield 25, 4, 27), (4, .iconst 2, 5, 2), (5, .if_icmp .ge 26, 8, 31), (8, .aload_n 0, 9, 0), (9, .getfield 17, 12, 25), (12, .aload_n 0, 13, 0), (13, .getfield 25, 16, 27), (16, .aaload, 17, 0), (17, .aload_n 1, 18, 0), (18, .invokevirtual 31, 21, 44), (21, .aload_n 0, 22, 0), (22, .dup, 23, 0), (23, .getfield 25, 26, 27), (26, .iconst 1, 27, 1), (27, .iadd, 28, 0), (28, .putfield 25, 31, 27), (31, .return_, 32, 0)]
def m_X5_keepLine : aM := (yX5_keepLine, 5, cX5_keepLine, 2, none, k_X5_keepLine)
def k_X5_backOn : List (Nat × aI) := [(0, .aload_n 0, 1, 0), (1, .getfield 25, 4, 27), (4, .ifCond .le 31, 7, 35), (7, .aload_n 0, 8, 0), (8, .dup, 9, 0), (9, .getfield 25, 12, 27), (12, .iconst 1, 13, 1), (13, .isub, 14, 0), (14, .putfield 25, 17, 27), (17, .aload_n 1, 18, 0), (18, .aload_n 0, 19, 0), (19, .getfield 17, 22, 25), (22, .aload_n 0, 23, 0), (23, .getfield 25, 26, 27), (26, .aaload, 27, 0), (27, .invokevirtual 31, 30, 44), (30, .aload_n 0, 31, 0), (31, .iconst 0, 32, 0), (32, .putfield 21, 35, 26), (35, .return_, 36, 0)]
def m_X5_backOn : aM := (yX5_backOn, 5, cX5_backOn, 2, none, k_X5_backOn)
def k_X6_init : List (Nat × aI) := [(0, .aload_n 0, 1, 0), (1, .invokespecial 3, 4, 46), (4, .aload_n 0, 5, 0), (5, .sipush 200, 8, 200), (8, .newarray .char, 10, 0), (10, .putfield 9, 13, 29), (13, .return_, 14, 0)]
def m_X6_init : aM := (yX6_init, 6, cX6_init, 1, none, k_X6_init)
def k_X6_append : List (Nat × aI) := [(0, .aload_n 0, 1, 0), (1, .getfield 15, 4, 30), (4, .sipush 200, 7, 200), (7, .if_icmp .ge 23, 10, 30), (10, .aload_n 0, 11, 0), (11, .getfield 9, 14, 29), (14, .aload_n 0, 15, 0), (15, .getfield 15, 18, 30), (18, .iload_n 1, 19, 0), (19, .castore, 20, 0), (20, .aload_n 0, 21, 0), (21, .dup, 22, 0), (22, .getfield 15, 25, 30), (25, .iconst 1, 26, 1), (26, .iadd, 27, 0), (27, .putfield 15, 30, 30), (30, .return_, 31, 0)]
def m_X6_append : aM := (yX6_append, 6, cX6_append, 2, none, k_X6_append)
def k_X6_empty : List (Nat × aI) := [(0, .aload_n 0, 1, 0), (1, .getfield 15, 4, 30), (4, .istore_n 1, 5, 0), (5, .aload_n 0, 6, 0), (6, .iconst 0, 7, 0), (7, .putfield 15, 10, 30), (10, .iload_n 1, 11, 0), (11, .ireturn, 12, 0)]
def m_X6_empty : aM := (yX6_empty, 6, cX6_empty, 2, (some .int), k_X6_empty)
def k_X6_firstFault : List (Nat × aI) := [(0, .iconst 0, 1, 0), (1, .istore_n 1, 2, 0), (2, .iconst 0, 3, 0), (3, .istore_n 2, 4, 0), (4, .iconst 0, 5, 0), (5, .istore_n 3, 6, 0), (6, .iload_n 3, 7, 0), (7, .sipush 200, 10, 200), (10, .if_icmp .ge 60, 13, 70), (13, .iload_n 1, 14, 0), (14, .aload_n 0, 15, 0), (15, .getfield 15, 18, 30), (18, .if_icmp .ge 52, 21, 70), (21, .aload_n 0, 22, 0), (22, .iload_n 1, 23, 0), (23, .invokevirtual 19, 26, 47), (26, .istore 4, 28, 0), (28, .iload_n 2, 29, 0), (29, .aload_n 0, 30, 0), (30, .iload_n 1, 31, 0), (31, .invokevirtual 23, 34, 48), (34, .bipush 109, 36, 109), (36, .if_icmp .ne 7, 39, 43), (39, .iconst 1, 40, 1), (40, .goto 4, 43, 44), (43, .iconst 0, 44, 0), (44, .iadd, 45, 0), (45, .istore_n 2, 46, 0), (46, .iload 4, 48, 0), (48, .bipush (-4), 50, 4), (50, .if_icmp .eq 9, 53, 59), (53, .iload_n 2, 54, 0), (54, .bipush 6, 56, 6), (56, .if_icmp .le 5, 59, 61), (59, .iload_n 1, 60, 0), (60, .ireturn, 61, 0), (61, .iload 4, 63, 0), (63, .istore_n 1, 64, 0), (64, .iinc 3 1, 67, 1), (67, .goto (-61), 70, 6), (70, .bipush (-4), 72, 4), (72, .ireturn, 73, 0)]
def m_X6_firstFault : aM := (yX6_firstFault, 6, cX6_firstFault, 5, (some .int), k_X6_firstFault)
def k_X6_tellsMessage : List (Nat × aI) := [(0, .iconst 0, 1, 0), (1, .istore_n 1, 2, 0), (2, .iload_n 1, 3, 0), (3, .aload_n 0, 4, 0), (4, .getfield 15, 7, 30), (7, .if_icmp .ge 22, 10, 29), (10, .aload_n 0, 11, 0), (11, .getfield 9, 14, 29), (14, .iload_n 1, 15, 0), (15, .caload, 16, 0), (16, .bipush 109, 18, 109), (18, .if_icmp .ne 5, 21, 23), (21, .iconst 1, 22, 1), (22, .ireturn, 23, 0), (23, .iinc 1 1, 26, 1), (26, .goto (-24), 29, 2), (29, .iconst 0, 30, 0), (30, .ireturn, 31, 0)]
def m_X6_tellsMessage : aM := (yX6_tellsMessage, 6, cX6_tellsMessage, 2, (some .boolean), k_X6_tellsMessage)
def k_X6_tell : List (Nat × aI) := [(0, .iconst 0, 1, 0), (1, .istore_n 3, 2, 0), (2, .iconst 0, 3, 0), (3, .istore 4, 5, 0), (5, .iload 4, 7, 0), (7, .sipush 200, 10, 200), (10, .if_icmp .ge 44, 13, 54), (13, .iload_n 3, 14, 0), (14, .aload_n 0, 15, 0), (15, .getfield 15, 18, 30), (18, .if_icmp .ge 36, 21, 54), (21, .aload_n 0, 22, 0), (22, .iload_n 3, 23, 0), (23, .invokevirtual 19, 26, 47), (26, .istore 5, 28, 0), (28, .iload 5, 30, 0), (30, .bipush (-4), 32, 4), (32, .if_icmp .ne 4, 35, 36), (35, .return_, 36, 0), (36, .aload_n 0, 37, 0), (37, .iload_n 3, 38, 0), (38, .iload 5, 40, 0), (40, .aload_n 1, 41, 0), (41, .aload_n 2, 42, 0), (42, .invokevirtual 27, 45, 49), (45, .iload 5, 47, 0), (47, .istore_n 3, 48, 0), (48, .iinc 4 1, 51, 1), (51, .goto (-46), 54, 5), (54, .return_, 55, 0)]
def m_X6_tell : aM := (yX6_tell, 6, cX6_tell, 6, none, k_X6_tell)
def k_X6_tellItem : List (Nat × aI) := [(0, .aload_n 0, 1, 0), (1, .iload_n 1, 2, 0), (2, .iconst 1, 3, 1), (3, .iadd, 4, 0), (4, .invokevirtual 31, 7, 50), (7, .istore 5, 9, 0), (9, .aload_n 0, 10, 0), (10, .iload_n 1, 11, 0), (11, .invokevirtual 23, 14, 48), (14, .lookupswitch 107 #[(99, 59), (106, 91), (110, 42), (116, 75)], 56, 0), (56, .aload_n 3, 57, 0), (57, .getfield 34, 60, 31), (60, .iload 5, 62, 0), (62, .aload_n 0, 63, 0), (63, .iload_n 1, 64, 0), (64, .iconst 3, 65, 3), (65, .iadd, 66, 0), (66, .invokevirtual 31, 69, 50), (69, .iastore, 70, 0), (70, .goto 63, 73, 133), (73, .aload_n 3, 74, 0), (74, .dup, 75, 0), (75, .getfield 40, 78, 32), (78, .iconst 1, 79, 1), (79, .iload 5, 81, 0), (81, .ishl, 82, 0), (82, .ior, 83, 0), (83, .putfield 40, 86, 32), (86, .goto 47, 89, 133), (89, .aload_n 3, 90, 0), (90, .dup, 91, 0), (91, .getfield 43, 94, 33), (94, .iconst 1, 95, 1), (95, .iload 5, 97, 0), (97, .ishl, 98, 0), (98, .ior, 99, 0), (99, .putfield 43, 102, 33), (102, .goto 31, 105, 133), (105, .aload_n 3, 106, 0), (106, .dup, 107, 0), (107, .getfield 46, 110, 34), (110, .iconst 1, 111, 1), (111, .iload 5, 113, 0), (113, .ishl, 114, 0), (114, .ior, 115, 0), (115, .putfield 46, 118, 34), (118, .goto 15, 121, 133), (121, .aload_n 0, 122, 0), (122, .iload_n 1, 123, 0), (123, .iconst 1, 124, 1), (124, .iadd, 125, 0), (125, .iload_n 2, 126, 0), (126, .iconst 1, 127, 1), (127, .isub, 128, 0), (128, .aload 4, 130, 0), (130, .invokevirtual 49, 133, 51), (133, .return_, 134, 0)]
def m_X6_tellItem : aM := (yX6_tellItem, 6, cX6_tellItem, 6, none, k_X6_tellItem)
def k_X6_tellMessage : List (Nat × aI) := [(0, .aload_n 3, 1, 0), (1, .invokevirtual 53, 4, 52), (4, .iload_n 1, 5, 0), (5, .istore 4, 7, 0), (7, .iload 4, 9, 0), (9, .iload_n 2, 10, 0), (10, .if_icmp .ge 19, 13, 29), (13, .aload_n 3, 14, 0), (14, .aload_n 0, 15, 0), (15, .iload 4, 17, 0), (17, .invokevirtual 23, 20, 48), (20, .invokevirtual 58, 23, 53), (23, .iinc 4 1, 26, 1), (26, .goto (-19), 29, 7), (29, .return_, 30, 0)]
def m_X6_tellMessage : aM := (yX6_tellMessage, 6, cX6_tellMessage, 5, none, k_X6_tellMessage)
def k_X6_itemEnd : List (Nat × aI) := [(0, .aload_n 0, 1, 0), (1, .iload_n 1, 2, 0), (2, .invokevirtual 23, 5, 48), (5, .lookupswitch 84 #[(99, 57), (106, 71), (109, 78), (110, 51), (116, 64)], 56, 0), (56, .aload_n 0, 57, 0), (57, .iload_n 1, 58, 0), (58, .invokevirtual 62, 61, 54), (61, .ireturn, 62, 0), (62, .aload_n 0, 63, 0), (63, .iload_n 1, 64, 0), (64, .iconst 4, 65, 4), (65, .invokevirtual 65, 68, 55), (68, .ireturn, 69, 0), (69, .aload_n 0, 70, 0), (70, .iload_n 1, 71, 0), (71, .iconst 4, 72, 4), (72, .invokevirtual 65, 75, 55), (75, .ireturn, 76, 0), (76, .aload_n 0, 77, 0), (77, .iload_n 1, 78, 0), (78, .iconst 3, 79, 3), (79, .invokevirtual 65, 82, 55), (82, .ireturn, 83, 0), (83, .aload_n 0, 84, 0), (84, .iload_n 1, 85, 0), (85, .invokevirtual 69, 88, 56), (88, .ireturn, 89, 0), (89, .bipush (-4), 91, 4), (91, .ireturn, 92, 0)]
def m_X6_itemEnd : aM := (yX6_itemEnd, 6, cX6_itemEnd, 2, (some .int), k_X6_itemEnd)
def k_X6_needleEnd : List (Nat × aI) := [(0, .aload_n 0, 1, 0), (1, .iload_n 1, 2, 0), (2, .iconst 1, 3, 1), (3, .iadd, 4, 0), (4, .invokevirtual 31, 7, 50), (7, .invokestatic 72, 10, 57), (10, .ifCond .eq 46, 13, 56), (13, .aload_n 0, 14, 0), (14, .iload_n 1, 15, 0), (15, .iconst 2, 16, 2), (16, .iadd, 17, 0), (17, .invokevirtual 23, 20, 48), (20, .bipush 44, 22, 44), (22, .if_icmp .ne 34, 25, 56), (25, .aload_n 0, 26, 0), (26, .iload_n 1, 27, 0), (27, .iconst 3, 28, 3), (28, .iadd, 29, 0), (29, .invokevirtual 31, 32, 50), (32, .iconst 0, 33, 0), (33, .iconst 5, 34, 5), (34, .invokestatic 76, 37, 58), (37, .ifCond .eq 19, 40, 56), (40, .aload_n 0, 41, 0), (41, .iload_n 1, 42, 0), (42, .iconst 4, 43, 4), (43, .iadd, 44, 0), (44, .invokevirtual 23, 47, 48), (47, .bipush 59, 49, 59), (49, .if_icmp .ne 7, 52, 56), (52, .iconst 1, 53, 1), (53, .goto 4, 56, 57), (56, .iconst 0, 57, 0), (57, .istore_n 2, 58, 0), (58, .iload_n 2, 59, 0), (59, .ifCond .eq 9, 62, 68), (62, .iload_n 1, 63, 0), (63, .iconst 5, 64, 5), (64, .iadd, 65, 0), (65, .goto 5, 68, 70), (68, .bipush (-4), 70, 4), (70, .ireturn, 71, 0)]
def m_X6_needleEnd : aM := (yX6_needleEnd, 6, cX6_needleEnd, 3, (some .int), k_X6_needleEnd)
def k_X6_wireEnd : List (Nat × aI) := [(0, .aload_n 0, 1, 0), (1, .iload_n 1, 2, 0), (2, .iconst 1, 3, 1), (3, .iadd, 4, 0), (4, .invokevirtual 31, 7, 50), (7, .iconst 0, 8, 0), (8, .iload_n 2, 9, 0), (9, .invokestatic 76, 12, 58), (12, .ifCond .eq 19, 15, 31), (15, .aload_n 0, 16, 0), (16, .iload_n 1, 17, 0), (17, .iconst 2, 18, 2), (18, .iadd, 19, 0), (19, .invokevirtual 23, 22, 48), (22, .bipush 59, 24, 59), (24, .if_icmp .ne 7, 27, 31), (27, .iconst 1, 28, 1), (28, .goto 4, 31, 32), (31, .iconst 0, 32, 0), (32, .istore_n 3, 33, 0), (33, .iload_n 3, 34, 0), (34, .ifCond .eq 9, 37, 43), (37, .iload_n 1, 38, 0), (38, .iconst 3, 39, 3), (39, .iadd, 40, 0), (40, .goto 5, 43, 45), (43, .bipush (-4), 45, 4), (45, .ireturn, 46, 0)]
def m_X6_wireEnd : aM := (yX6_wireEnd, 6, cX6_wireEnd, 4, (some .int), k_X6_wireEnd)
def k_X6_messageEnd : List (Nat × aI) := [(0, .iconst 0, 1, 0), (1, .istore_n 2, 2, 0), (2, .iload_n 2, 3, 0), (3, .bipush 8, 5, 8), (5, .if_icmp .ge 28, 8, 33), (8, .aload_n 0, 9, 0), (9, .iload_n 1, 10, 0), (10, .iconst 1, 11, 1), (11, .iadd, 12, 0), (12, .iload_n 2, 13, 0), (13, .iadd, 14, 0), (14, .invokevirtual 23, 17, 48), (17, .bipush 65, 19, 65), (19, .bipush 90, 21, 90), (21, .invokestatic 76, 24, 58), (24, .ifCond .eq 9, 27, 33), (27, .iinc 2 1, 30, 1), (30, .goto (-28), 33, 2), (33, .iload_n 2, 34, 0), (34, .ifCond .le 25, 37, 59), (37, .aload_n 0, 38, 0), (38, .iload_n 1, 39, 0), (39, .iconst 1, 40, 1), (40, .iadd, 41, 0), (41, .iload_n 2, 42, 0), (42, .iadd, 43, 0), (43, .invokevirtual 23, 46, 48), (46, .bipush 59, 48, 59), (48, .if_icmp .ne 11, 51, 59), (51, .iload_n 1, 52, 0), (52, .iload_n 2, 53, 0), (53, .iadd, 54, 0), (54, .iconst 2, 55, 2), (55, .iadd, 56, 0), (56, .goto 5, 59, 61), (59, .bipush (-4), 61, 4), (61, .ireturn, 62, 0)]
def m_X6_messageEnd : aM := (yX6_messageEnd, 6, cX6_messageEnd, 3, (some .int), k_X6_messageEnd)
def k_X6_figureAt : List (Nat × aI) := [(0, .aload_n 0, 1, 0), (1, .iload_n 1, 2, 0), (2, .invokevirtual 23, 5, 48), (5, .istore_n 2, 6, 0), (6, .iload_n 2, 7, 0), (7, .bipush 48, 9, 48), (9, .bipush 57, 11, 57), (11, .invokestatic 76, 14, 58), (14, .ifCond .eq 10, 17, 24), (17, .iload_n 2, 18, 0), (18, .bipush 48, 20, 48), (20, .isub, 21, 0), (21, .goto 4, 24, 25), (24, .iconst (-1), 25, 1), (25, .ireturn, 26, 0)]
def m_X6_figureAt : aM := (yX6_figureAt, 6, cX6_figureAt, 3, (some .int), k_X6_figureAt)
def k_X6_letterAt : List (Nat × aI) := [(0, .iload_n 1, 1, 0), (1, .ifCond .lt 20, 4, 21), (4, .iload_n 1, 5, 0), (5, .aload_n 0, 6, 0), (6, .getfield 15, 9, 30), (9, .if_icmp .ge 12, 12, 21), (12, .aload_n 0, 13, 0), (13, .getfield 9, 16, 29), (16, .iload_n 1, 17, 0), (17, .caload, 18, 0), (18, .goto 4, 21, 22), (21, .iconst 0, 22, 0), (22, .ireturn, 23, 0)]
def m_X6_letterAt : aM := (yX6_letterAt, 6, cX6_letterAt, 2, (some .char), k_X6_letterAt)
def k_X7_init : List (Nat × aI) := [(0, .aload_n 0, 1, 0), (1, .invokespecial 3, 4, 59), (4, .aload_n 0, 5, 0), (5, .bipush 8, 7, 8), (7, .newarray .int, 9, 0), (9, .putfield 9, 12, 35), (12, .aload_n 0, 13, 0), (13, .bipush 8, 15, 8), (15, .newarray .int, 17, 0), (17, .putfield 15, 20, 36), (20, .aload_n 0, 21, 0), (21, .sipush 750, 24, 750), (24, .newarray .byte, 26, 0), (26, .putfield 18, 29, 37), (29, .aload_n 0, 30, 0), (30, .bipush 32, 32, 32), (32, .newarray .int, 34, 0), (34, .putfield 22, 37, 38), (37, .return_, 38, 0)]
def m_X7_init : aM := (yX7_init, 7, cX7_init, 1, none, k_X7_init)
def k_X7_add : List (Nat × aI) := [(0, .aload_n 0, 1, 0), (1, .getfield 25, 4, 39), (4, .bipush 8, 6, 8), (6, .if_icmp .ge 33, 9, 39), (9, .aload_n 0, 10, 0), (10, .getfield 9, 13, 35), (13, .aload_n 0, 14, 0), (14, .getfield 25, 17, 39), (17, .iload_n 1, 18, 0), (18, .iastore, 19, 0), (19, .aload_n 0, 20, 0), (20, .getfield 15, 23, 36), (23, .aload_n 0, 24, 0), (24, .getfield 25, 27, 39), (27, .iload_n 2, 28, 0), (28, .iastore, 29, 0), (29, .aload_n 0, 30, 0), (30, .dup, 31, 0), (31, .getfield 25, 34, 39), (34, .iconst 1, 35, 1), (35, .iadd, 36, 0), (36, .putfield 25, 39, 39), (39, .return_, 40, 0)]
def m_X7_add : aM := (yX7_add, 7, cX7_add, 3, none, k_X7_add)
def k_X7_empty : List (Nat × aI) := [(0, .aload_n 0, 1, 0), (1, .getfield 25, 4, 39), (4, .istore_n 1, 5, 0), (5, .aload_n 0, 6, 0), (6, .iconst 0, 7, 0), (7, .putfield 25, 10, 39), (10, .iload_n 1, 11, 0), (11, .ireturn, 12, 0)]
def m_X7_empty : aM := (yX7_empty, 7, cX7_empty, 2, (some .int), k_X7_empty)
def k_X7_possible : List (Nat × aI) := [(0, .aload_n 0, 1, 0), (1, .aload_n 1, 2, 0), (2, .invokevirtual 29, 5, 60), (5, .iconst 0, 6, 0), (6, .istore_n 2, 7, 0), (7, .iconst 0, 8, 0), (8, .istore_n 3, 9, 0), (9, .iload_n 3, 10, 0), (10, .bipush 25, 12, 25), (12, .if_icmp .ge 23, 15, 35), (15, .aload_n 0, 16, 0), (16, .iload_n 3, 17, 0), (17, .invokevirtual 33, 20, 61), (20, .ifCond .eq 9, 23, 29), (23, .iload_n 2, 24, 0), (24, .iconst 1, 25, 1), (25, .iload_n 3, 26, 0), (26, .ishl, 27, 0), (27, .ior, 28, 0), (28, .istore_n 2, 29, 0), (29, .iinc 3 1, 32, 1), (32, .goto (-23), 35, 9), (35, .iload_n 2, 36, 0), (36, .ireturn, 37, 0)]
def m_X7_possible : aM := (yX7_possible, 7, cX7_possible, 4, (some .int), k_X7_possible)
def k_X7_agrees : List (Nat × aI) := [(0, .iconst 0, 1, 0), (1, .istore_n 2, 2, 0), (2, .iload_n 2, 3, 0), (3, .aload_n 0, 4, 0), (4, .getfield 25, 7, 39), (7, .if_icmp .ge 36, 10, 43), (10, .aload_n 0, 11, 0), (11, .getfield 18, 14, 37), (14, .iload_n 1, 15, 0), (15, .bipush 30, 17, 30), (17, .imul, 18, 0), (18, .aload_n 0, 19, 0), (19, .getfield 9, 22, 35), (22, .iload_n 2, 23, 0), (23, .iaload, 24, 0), (24, .iadd, 25, 0), (25, .baload, 26, 0), (26, .aload_n 0, 27, 0), (27, .getfield 15, 30, 36), (30, .iload_n 2, 31, 0), (31, .iaload, 32, 0), (32, .if_icmp .eq 5, 35, 37), (35, .iconst 0, 36, 0), (36, .ireturn, 37, 0), (37, .iinc 2 1, 40, 1), (40, .goto (-38), 43, 2), (43, .iconst 1, 44, 1), (44, .ireturn, 45, 0)]
def m_X7_agrees : aM := (yX7_agrees, 7, cX7_agrees, 3, (some .boolean), k_X7_agrees)
def k_X7_bestSign : List (Nat × aI) := [(0, .iconst 0, 1, 0), (1, .istore_n 2, 2, 0), (2, .bipush 26, 4, 26), (4, .istore_n 3, 5, 0), (5, .iconst 0, 6, 0), (6, .istore 4, 8, 0), (8, .iload 4, 10, 0), (10, .bipush 30, 12, 30), (12, .if_icmp .ge 30, 15, 42), (15, .aload_n 0, 16, 0), (16, .iload_n 1, 17, 0), (17, .iload 4, 19, 0), (19, .invokevirtual 37, 22, 62), (22, .istore 5, 24, 0), (24, .iload 5, 26, 0), (26, .iload_n 3, 27, 0), (27, .if_icmp .ge 9, 30, 36), (30, .iload 5, 32, 0), (32, .istore_n 3, 33, 0), (33, .iload 4, 35, 0), (35, .istore_n 2, 36, 0), (36, .iinc 4 1, 39, 1), (39, .goto (-31), 42, 8), (42, .iload_n 2, 43, 0), (43, .ireturn, 44, 0)]
def m_X7_bestSign : aM := (yX7_bestSign, 7, cX7_bestSign, 6, (some .int), k_X7_bestSign)
def k_X7_greatestPart : List (Nat × aI) := [(0, .aload_n 0, 1, 0), (1, .getfield 22, 4, 38), (4, .iconst 0, 5, 0), (5, .invokestatic 41, 8, 63), (8, .iconst 0, 9, 0), (9, .istore_n 3, 10, 0), (10, .iconst 0, 11, 0), (11, .istore 4, 13, 0), (13, .iload 4, 15, 0), (15, .bipush 25, 17, 25), (17, .if_icmp .ge 56, 20, 73), (20, .iload_n 1, 21, 0), (21, .iload 4, 23, 0), (23, .invokestatic 47, 26, 64), (26, .iconst 1, 27, 1), (27, .if_icmp .ne 40, 30, 67), (30, .aload_n 0, 31, 0), (31, .getfield 18, 34, 37), (34, .iload 4, 36, 0), (36, .bipush 30, 38, 30), (38, .imul, 39, 0), (39, .iload_n 2, 40, 0), (40, .iadd, 41, 0), (41, .baload, 42, 0), (42, .istore 5, 44, 0), (44, .aload_n 0, 45, 0), (45, .getfield 22, 48, 38), (48, .iload 5, 50, 0), (50, .dup2, 51, 0), (51, .iaload, 52, 0), (52, .iconst 1, 53, 1), (53, .iadd, 54, 0), (54, .iastore, 55, 0), (55, .iload_n 3, 56, 0), (56, .aload_n 0, 57, 0), (57, .getfield 22, 60, 38), (60, .iload 5, 62, 0), (62, .iaload, 63, 0), (63, .invokestatic 50, 66, 65), (66, .istore_n 3, 67, 0), (67, .iinc 4 1, 70, 1), (70, .goto (-57), 73, 13), (73, .iload_n 3, 74, 0), (74, .ireturn, 75, 0)]
def m_X7_greatestPart : aM := (yX7_greatestPart, 7, cX7_greatestPart, 6, (some .int), k_X7_greatestPart)
def k_X7_workOutReadings : List (Nat × aI) := [(0, .aload_n 0, 1, 0), (1, .getfield 55, 4, 40), (4, .ifCond .eq 4, 7, 8), (7, .return_, 8, 0), (8, .iconst 0, 9, 0), (9, .istore_n 2, 10, 0), (10, .iload_n 2, 11, 0), (11, .bipush 25, 13, 25), (13, .if_icmp .ge 50, 16, 63), (16, .aload_n 1, 17, 0), (17, .invokevirtual 59, 20, 66), (20, .aload_n 1, 21, 0), (21, .iload_n 2, 22, 0), (22, .invokestatic 64, 25, 67), (25, .iconst 0, 26, 0), (26, .istore_n 3, 27, 0), (27, .iload_n 3, 28, 0), (28, .bipush 30, 30, 30), (30, .if_icmp .ge 27, 33, 57), (33, .aload_n 0, 34, 0), (34, .getfield 18, 37, 37), (37, .iload_n 2, 38, 0), (38, .bipush 30, 40, 30), (40, .imul, 41, 0), (41, .iload_n 3, 42, 0), (42, .iadd, 43, 0), (43, .aload_n 1, 44, 0), (44, .iload_n 3, 45, 0), (45, .iconst 1, 46, 1), (46, .invokevirtual 68, 49, 68), (49, .i2b, 50, 0), (50, .bastore, 51, 0), (51, .iinc 3 1, 54, 1), (54, .goto (-27), 57, 27), (57, .iinc 2 1, 60, 1), (60, .goto (-50), 63, 10), (63, .aload_n 0, 64, 0), (64, .iconst 1, 65, 1), (65, .putfield 55, 68, 40), (68, .return_, 69, 0)]
def m_X7_workOutReadings : aM := (yX7_workOutReadings, 7, cX7_workOutReadings, 4, none, k_X7_workOutReadings)
def k_X7_makeWrong : List (Nat × aI) := [(0, .iload_n 1, 1, 0), (1, .iconst 5, 2, 5), (2, .if_icmp .ge 13, 5, 15), (5, .aload_n 0, 6, 0), (6, .iconst 1, 7, 1), (7, .iload_n 1, 8, 0), (8, .ishl, 9, 0), (9, .putfield 71, 12, 41), (12, .goto 75, 15, 87), (15, .iload_n 1, 16, 0), (16, .bipush 10, 18, 10), (18, .if_icmp .ge 15, 21, 33), (21, .aload_n 0, 22, 0), (22, .iconst 1, 23, 1), (23, .iload_n 1, 24, 0), (24, .iconst 5, 25, 5), (25, .isub, 26, 0), (26, .ishl, 27, 0), (27, .putfield 74, 30, 42), (30, .goto 57, 33, 87), (33, .iload_n 1, 34, 0), (34, .bipush 14, 36, 14), (36, .if_icmp .ge 16, 39, 52), (39, .aload_n 0, 40, 0), (40, .iconst 1, 41, 1), (41, .iload_n 1, 42, 0), (42, .bipush 10, 44, 10), (44, .isub, 45, 0), (45, .ishl, 46, 0), (46, .putfield 77, 49, 43), (49, .goto 38, 52, 87), (52, .iload_n 1, 53, 0), (53, .bipush 19, 55, 19), (55, .if_icmp .ge 16, 58, 71), (58, .aload_n 0, 59, 0), (59, .getfield 80, 62, 44), (62, .iload_n 1, 63, 0), (63, .bipush 14, 65, 14), (65, .isub, 66, 0), (66, .iconst 1, 67, 1), (67, .iastore, 68, 0), (68, .goto 19, 71, 87), (71, .iload_n 1, 72, 0), (72, .bipush 24, 74, 24), (74, .if_icmp .ge 13, 77, 87), (77, .aload_n 0, 78, 0), (78, .getfield 80, 81, 44), (81, .iload_n 1, 82, 0), (82, .bipush 19, 84, 19), (84, .isub, 85, 0), (85, .iconst 3, 86, 3), (86, .iastore, 87, 0), (87, .return_, 88, 0)]
def m_X7_makeWrong : aM := (yX7_makeWrong, 7, cX7_makeWrong, 2, none, k_X7_makeWrong)
def k_X8_init : List (Nat × aI) := [(0, .aload_n 0, 1, 0), (1, .invokespecial 1, 4, 69), (4, .aload_n 0, 5, 0), (5, .new 7, 8, 1), (8, .dup, 9, 0), (9, .invokespecial 9, 12, 70), (12, .putfield 10, 15, 45), (15, .aload_n 0, 16, 0), (16, .new 16, 19, 2), (19, .dup, 20, 0), (20, .invokespecial 18, 23, 71), (23, .putfield 19, 26, 46), (26, .aload_n 0, 27, 0), (27, .new 23, 30, 3), (30, .dup, 31, 0), (31, .invokespecial 25, 34, 72), (34, .putfield 26, 37, 47), (37, .aload_n 0, 38, 0), (38, .new 23, 41, 3), (41, .dup, 42, 0), (42, .invokespecial 25, 45, 72), (45, .putfield 30, 48, 48), (48, .aload_n 0, 49, 0), (49, .new 33, 52, 4), (52, .dup, 53, 0), (53, .invokespecial 35, 56, 73), (56, .putfield 36, 59, 49), (59, .aload_n 0, 60, 0), (60, .new 40, 63, 5), (63, .dup, 64, 0), (64, .invokespecial 42, 67, 74), (67, .putfield 43, 70, 50), (70, .aload_n 0, 71, 0), (71, .new 47, 74, 6), (74, .dup, 75, 0), (75, .invokespecial 49, 78, 75), (78, .putfield 50, 81, 51), (81, .aload_n 0, 82, 0), (82, .new 54, 85, 7), (85, .dup, 86, 0), (86, .aload_n 0, 87, 0), (87, .getfield 26, 90, 47), (90, .aload_n 0, 91, 0), (91, .getfield 30, 94, 48), (94, .aload_n 0, 95, 0), (95, .getfield 19, 98, 46), (98, .invokespecial 56, 101, 76), (101, .putfield 59, 104, 52), (104, .aload_n 0, 105, 0), (105, .new 63, 108, 8), (108, .dup, 109, 0), (109, .invokespecial 65, 112, 77), (112, .putfield 66, 115, 53), (115, .iconst 0, 116, 0), (116, .istore_n 1, 117, 0), (117, .iload_n 1, 118, 0), (118, .ldc 70, 120, 999), (120, .invokevirtual 72, 123, 78), (123, .if_icmp .ge 22, 126, 145), (126, .aload_n 0, 127, 0), (127, .getfield 10, 130, 45), (130, .ldc 70, 132, 999), (132, .iload_n 1, 133, 0), (133, .invokevirtual 78, 136, 79), (136, .invokevirtual 82, 139, 80), (139, .iinc 1 1, 142, 1), (142, .goto (-25), 145, 117), (145, .aload_n 0, 146, 0), (146, .invokevirtual 86, 149, 81), (149, .aload_n 0, 150, 0), (150, .getfield 10, 153, 45), (153, .invokevirtual 89, 156, 82), (156, .pop, 157, 0), (157, .return_, 158, 0)]
def m_X8_init : aM := (yX8_init, 8, cX8_init, 2, none, k_X8_init)
def k_X8_write : List (Nat × aI) := [(0, .iload_n 1, 1, 0), (1, .bipush 32, 3, 32), (3, .bipush 126, 5, 126), (5, .invokestatic 92, 8, 83), (8, .ifCond .ne 5, 11, 13), (11, .iconst (-1), 12, 1), (12, .ireturn, 13, 0), (13, .aload_n 0, 14, 0), (14, .getfield 10, 17, 45), (17, .getfield 96, 20, 54), (20, .sipush 200, 23, 200), (23, .if_icmp .lt 6, 26, 29), (26, .bipush (-3), 28, 3), (28, .ireturn, 29, 0), (29, .aload_n 0, 30, 0), (30, .getfield 10, 33, 45), (33, .iload_n 1, 34, 0), (34, .i2c, 35, 0), (35, .invokevirtual 82, 38, 80), (38, .aload_n 0, 39, 0), (39, .getfield 10, 42, 45), (42, .getfield 96, 45, 54), (45, .ireturn, 46, 0)]
def m_X8_write : aM := (yX8_write, 8, cX8_write, 2, (some .int), k_X8_write)
def k_X8_wipe : List (Nat × aI) := [(0, .aload_n 0, 1, 0), (1, .getfield 10, 4, 45), (4, .invokevirtual 89, 7, 82), (7, .ireturn, 8, 0)]
def m_X8_wipe : aM := (yX8_wipe, 8, cX8_wipe, 1, (some .int), k_X8_wipe)
def k_X8_fault : List (Nat × aI) := [(0, .aload_n 0, 1, 0), (1, .getfield 10, 4, 45), (4, .invokevirtual 99, 7, 84), (7, .ireturn, 8, 0)]
def m_X8_fault : aM := (yX8_fault, 8, cX8_fault, 1, (some .int), k_X8_fault)
def k_X8_lay : List (Nat × aI) := [(0, .aload_n 0, 1, 0), (1, .getfield 10, 4, 45), (4, .invokevirtual 99, 7, 84), (7, .bipush (-4), 9, 4), (9, .if_icmp .ne 13, 12, 22), (12, .aload_n 0, 13, 0), (13, .getfield 10, 16, 45), (16, .invokevirtual 102, 19, 85), (19, .ifCond .ne 6, 22, 25), (22, .bipush (-2), 24, 2), (24, .ireturn, 25, 0), (25, .aload_n 0, 26, 0), (26, .invokevirtual 86, 29, 81), (29, .aload_n 0, 30, 0), (30, .getfield 19, 33, 46), (33, .getfield 106, 36, 55), (36, .ireturn, 37, 0)]
def m_X8_lay : aM := (yX8_lay, 8, cX8_lay, 1, (some .int), k_X8_lay)
def k_X8_needle : List (Nat × aI) := [(0, .iload_n 1, 1, 0), (1, .invokestatic 109, 4, 86), (4, .ifCond .eq 12, 7, 16), (7, .iload_n 2, 8, 0), (8, .iconst 0, 9, 0), (9, .iconst 2, 10, 2), (10, .invokestatic 92, 13, 83), (13, .ifCond .ne 5, 16, 18), (16, .iconst (-1), 17, 1), (17, .ireturn, 18, 0), (18, .iload_n 2, 19, 0), (19, .ifCond .ne 13, 22, 32), (22, .aload_n 0, 23, 0), (23, .getfield 26, 26, 47), (26, .getfield 113, 29, 56), (29, .iload_n 1, 30, 0), (30, .iaload, 31, 0), (31, .ireturn, 32, 0), (32, .iload_n 2, 33, 0), (33, .iconst 1, 34, 1), (34, .if_icmp .ne 15, 37, 49), (37, .aload_n 0, 38, 0), (38, .getfield 26, 41, 47), (41, .getfield 117, 44, 57), (44, .iload_n 1, 45, 0), (45, .iaload, 46, 0), (46, .goto 12, 49, 58), (49, .aload_n 0, 50, 0), (50, .getfield 26, 53, 47), (53, .getfield 120, 56, 58), (56, .iload_n 1, 57, 0), (57, .iaload, 58, 0), (58, .ireturn, 59, 0)]
def m_X8_needle : aM := (yX8_needle, 8, cX8_needle, 3, (some .int), k_X8_needle)
def k_X8_wire : List (Nat × aI) := [(0, .iload_n 1, 1, 0), (1, .invokestatic 109, 4, 86), (4, .ifCond .eq 12, 7, 16), (7, .iload_n 2, 8, 0), (8, .iconst 0, 9, 0), (9, .iconst 2, 10, 2), (10, .invokestatic 92, 13, 83), (13, .ifCond .ne 5, 16, 18), (16, .iconst (-1), 17, 1), (17, .ireturn, 18, 0), (18, .iload_n 2, 19, 0), (19, .ifCond .ne 15, 22, 34), (22, .aload_n 0, 23, 0), (23, .getfield 26, 26, 47), (26, .getfield 123, 29, 59), (29, .iload_n 1, 30, 0), (30, .invokestatic 126, 33, 87), (33, .ireturn, 34, 0), (34, .iload_n 2, 35, 0), (35, .iconst 1, 36, 1), (36, .if_icmp .ne 13, 39, 49), (39, .aload_n 0, 40, 0), (40, .getfield 26, 43, 47), (43, .getfield 130, 46, 60), (46, .goto 10, 49, 56), (49, .aload_n 0, 50, 0), (50, .getfield 26, 53, 47), (53, .getfield 133, 56, 61), (56, .iload_n 1, 57, 0), (57, .invokestatic 126, 60, 87), (60, .ireturn, 61, 0)]
def m_X8_wire : aM := (yX8_wire, 8, cX8_wire, 3, (some .int), k_X8_wire)
def k_X8_spelt : List (Nat × aI) := [(0, .aload_n 0, 1, 0), (1, .iload_n 1, 2, 0), (2, .invokevirtual 136, 5, 88), (5, .ifCond .eq 13, 8, 18), (8, .iload_n 2, 9, 0), (9, .iconst (-1), 10, 1), (10, .bipush 7, 12, 7), (12, .invokestatic 92, 15, 83), (15, .ifCond .ne 5, 18, 20), (18, .iconst (-1), 19, 1), (19, .ireturn, 20, 0), (20, .iload_n 2, 21, 0), (21, .iconst (-1), 22, 1), (22, .if_icmp .ne 12, 25, 34), (25, .aload_n 0, 26, 0), (26, .getfield 19, 29, 46), (29, .iload_n 1, 30, 0), (30, .invokevirtual 139, 33, 89), (33, .ireturn, 34, 0), (34, .iload_n 2, 35, 0), (35, .aload_n 0, 36, 0), (36, .getfield 19, 39, 46), (39, .iload_n 1, 40, 0), (40, .invokevirtual 139, 43, 89), (43, .if_icmp .ge 15, 46, 58), (46, .aload_n 0, 47, 0), (47, .getfield 19, 50, 46), (50, .iload_n 1, 51, 0), (51, .iload_n 2, 52, 0), (52, .invokevirtual 143, 55, 90), (55, .goto 5, 58, 60), (58, .bipush (-4), 60, 4), (60, .ireturn, 61, 0)]
def m_X8_spelt : aM := (yX8_spelt, 8, cX8_spelt, 3, (some .int), k_X8_spelt)
def k_X8_send : List (Nat × aI) := [(0, .iload_n 1, 1, 0), (1, .iconst 0, 2, 0), (2, .bipush 30, 4, 30), (4, .invokestatic 92, 7, 83), (7, .ifCond .ne 5, 10, 12), (10, .iconst (-1), 11, 1), (11, .ireturn, 12, 0), (12, .aload_n 0, 13, 0), (13, .getfield 36, 16, 49), (16, .aload_n 0, 17, 0), (17, .getfield 26, 20, 47), (20, .invokevirtual 146, 23, 91), (23, .aload_n 0, 24, 0), (24, .getfield 26, 27, 47), (27, .iload_n 1, 28, 0), (28, .iconst 1, 29, 1), (29, .invokevirtual 150, 32, 92), (32, .ireturn, 33, 0)]
def m_X8_send : aM := (yX8_send, 8, cX8_send, 2, (some .int), k_X8_send)
def k_X8_cut : List (Nat × aI) := [(0, .iload_n 1, 1, 0), (1, .invokestatic 109, 4, 86), (4, .ifCond .ne 5, 7, 9), (7, .iconst (-1), 8, 1), (8, .ireturn, 9, 0), (9, .aload_n 0, 10, 0), (10, .getfield 26, 13, 47), (13, .getfield 123, 16, 59), (16, .iload_n 1, 17, 0), (17, .invokestatic 126, 20, 87), (20, .iconst 1, 21, 1), (21, .if_icmp .ne 6, 24, 27), (24, .bipush (-2), 26, 2), (26, .ireturn, 27, 0), (27, .aload_n 0, 28, 0), (28, .getfield 36, 31, 49), (31, .aload_n 0, 32, 0), (32, .getfield 26, 35, 47), (35, .invokevirtual 146, 38, 91), (38, .aload_n 0, 39, 0), (39, .getfield 26, 42, 47), (42, .dup, 43, 0), (43, .getfield 123, 46, 59), (46, .iconst 1, 47, 1), (47, .iload_n 1, 48, 0), (48, .ishl, 49, 0), (49, .ior, 50, 0), (50, .putfield 123, 53, 59), (53, .aload_n 0, 54, 0), (54, .getfield 26, 57, 47), (57, .getfield 123, 60, 59), (60, .invokestatic 153, 63, 93), (63, .ireturn, 64, 0)]
def m_X8_cut : aM := (yX8_cut, 8, cX8_cut, 2, (some .int), k_X8_cut)
def k_X8_turn : List (Nat × aI) := [(0, .iload_n 1, 1, 0), (1, .invokestatic 109, 4, 86), (4, .ifCond .ne 5, 7, 9), (7, .iconst (-1), 8, 1), (8, .ireturn, 9, 0), (9, .aload_n 0, 10, 0), (10, .getfield 36, 13, 49), (13, .aload_n 0, 14, 0), (14, .getfield 26, 17, 47), (17, .invokevirtual 146, 20, 91), (20, .aload_n 0, 21, 0), (21, .getfield 26, 24, 47), (24, .dup, 25, 0), (25, .getfield 130, 28, 60), (28, .iconst 1, 29, 1), (29, .iload_n 1, 30, 0), (30, .ishl, 31, 0), (31, .ixor, 32, 0), (32, .putfield 130, 35, 60), (35, .aload_n 0, 36, 0), (36, .getfield 26, 39, 47), (39, .getfield 130, 42, 60), (42, .invokestatic 153, 45, 93), (45, .ireturn, 46, 0)]
def m_X8_turn : aM := (yX8_turn, 8, cX8_turn, 2, (some .int), k_X8_turn)
def k_X8_touch : List (Nat × aI) := [(0, .iload_n 1, 1, 0), (1, .iconst 0, 2, 0), (2, .iconst 3, 3, 3), (3, .invokestatic 92, 6, 83), (6, .ifCond .ne 5, 9, 11), (9, .iconst (-1), 10, 1), (10, .ireturn, 11, 0), (11, .aload_n 0, 12, 0), (12, .getfield 26, 15, 47), (15, .getfield 133, 18, 61), (18, .iload_n 1, 19, 0), (19, .invokestatic 126, 22, 87), (22, .iconst 1, 23, 1), (23, .if_icmp .ne 6, 26, 29), (26, .bipush (-2), 28, 2), (28, .ireturn, 29, 0), (29, .aload_n 0, 30, 0), (30, .getfield 36, 33, 49), (33, .aload_n 0, 34, 0), (34, .getfield 26, 37, 47), (37, .invokevirtual 146, 40, 91), (40, .aload_n 0, 41, 0), (41, .getfield 26, 44, 47), (44, .dup, 45, 0), (45, .getfield 133, 48, 61), (48, .iconst 1, 49, 1), (49, .iload_n 1, 50, 0), (50, .ishl, 51, 0), (51, .ior, 52, 0), (52, .putfield 133, 55, 61), (55, .aload_n 0, 56, 0), (56, .getfield 26, 59, 47), (59, .getfield 133, 62, 61), (62, .invokestatic 153, 65, 93), (65, .ireturn, 66, 0)]
def m_X8_touch : aM := (yX8_touch, 8, cX8_touch, 2, (some .int), k_X8_touch)
def k_X8_mend : List (Nat × aI) := [(0, .iload_n 1, 1, 0), (1, .invokestatic 109, 4, 86), (4, .ifCond .ne 5, 7, 9), (7, .iconst (-1), 8, 1), (8, .ireturn, 9, 0), (9, .aload_n 0, 10, 0), (10, .getfield 26, 13, 47), (13, .invokevirtual 158, 16, 94), (16, .iload_n 1, 17, 0), (17, .invokestatic 126, 20, 87), (20, .ifCond .ne 6, 23, 26), (23, .bipush (-2), 25, 2), (25, .ireturn, 26, 0), (26, .aload_n 0, 27, 0), (27, .getfield 36, 30, 49), (30, .aload_n 0, 31, 0), (31, .getfield 26, 34, 47), (34, .invokevirtual 146, 37, 91), (37, .aload_n 0, 38, 0), (38, .getfield 26, 41, 47), (41, .iconst 1, 42, 1), (42, .iload_n 1, 43, 0), (43, .ishl, 44, 0), (44, .invokevirtual 161, 47, 95), (47, .aload_n 0, 48, 0), (48, .getfield 26, 51, 47), (51, .getfield 123, 54, 59), (54, .aload_n 0, 55, 0), (55, .getfield 26, 58, 47), (58, .getfield 130, 61, 60), (61, .ior, 62, 0), (62, .aload_n 0, 63, 0), (63, .getfield 26, 66, 47), (66, .getfield 133, 69, 61), (69, .ior, 70, 0), (70, .invokestatic 153, 73, 93), (73, .ireturn, 74, 0)]
def m_X8_mend : aM := (yX8_mend, 8, cX8_mend, 2, (some .int), k_X8_mend)
def k_X8_change : List (Nat × aI) := [(0, .iload_n 1, 1, 0), (1, .invokestatic 109, 4, 86), (4, .ifCond .eq 15, 7, 19), (7, .iload_n 2, 8, 0), (8, .invokestatic 109, 11, 86), (11, .ifCond .eq 8, 14, 19), (14, .iload_n 1, 15, 0), (15, .iload_n 2, 16, 0), (16, .if_icmp .ne 5, 19, 21), (19, .iconst (-1), 20, 1), (20, .ireturn, 21, 0), (21, .aload_n 0, 22, 0), (22, .getfield 36, 25, 49), (25, .aload_n 0, 26, 0), (26, .getfield 26, 29, 47), (29, .invokevirtual 146, 32, 91), (32, .aload_n 0, 33, 0), (33, .getfield 26, 36, 47), (36, .iload_n 1, 37, 0), (37, .iload_n 2, 38, 0), (38, .invokevirtual 165, 41, 96), (41, .aload_n 0, 42, 0), (42, .getfield 26, 45, 47), (45, .getfield 113, 48, 56), (48, .iload_n 1, 49, 0), (49, .iaload, 50, 0), (50, .ireturn, 51, 0)]
def m_X8_change : aM := (yX8_change, 8, cX8_change, 3, (some .int), k_X8_change)
def k_X8_undo : List (Nat × aI) := [(0, .aload_n 0, 1, 0), (1, .getfield 36, 4, 49), (4, .getfield 169, 7, 62), (7, .ifCond .ne 6, 10, 13), (10, .bipush (-2), 12, 2), (12, .ireturn, 13, 0), (13, .aload_n 0, 14, 0), (14, .getfield 36, 17, 49), (17, .aload_n 0, 18, 0), (18, .getfield 26, 21, 47), (21, .invokevirtual 172, 24, 97), (24, .aload_n 0, 25, 0), (25, .getfield 36, 28, 49), (28, .getfield 169, 31, 62), (31, .ireturn, 32, 0)]
def m_X8_undo : aM := (yX8_undo, 8, cX8_undo, 1, (some .int), k_X8_undo)
def k_X8_reads : List (Nat × aI) := [(0, .aload_n 0, 1, 0), (1, .getfield 26, 4, 47), (4, .invokevirtual 175, 7, 98), (7, .ireturn, 8, 0)]
def m_X8_reads : aM := (yX8_reads, 8, cX8_reads, 1, (some .int), k_X8_reads)
def k_X8_said : List (Nat × aI) := [(0, .aload_n 0, 1, 0), (1, .iload_n 1, 2, 0), (2, .iload_n 2, 3, 0), (3, .iload_n 3, 4, 0), (4, .invokevirtual 178, 7, 99), (7, .ifCond .eq 14, 10, 21), (10, .iload 4, 12, 0), (12, .iconst (-1), 13, 1), (13, .bipush 7, 15, 7), (15, .invokestatic 92, 18, 83), (18, .ifCond .ne 5, 21, 23), (21, .iconst (-1), 22, 1), (22, .ireturn, 23, 0), (23, .iload 4, 25, 0), (25, .aload_n 0, 26, 0), (26, .getfield 19, 29, 46), (29, .iload_n 1, 30, 0), (30, .invokevirtual 139, 33, 89), (33, .if_icmp .lt 6, 36, 39), (36, .bipush (-4), 38, 4), (38, .ireturn, 39, 0), (39, .aload_n 0, 40, 0), (40, .getfield 30, 43, 48), (43, .aload_n 0, 44, 0), (44, .getfield 26, 47, 47), (47, .invokevirtual 181, 50, 100), (50, .iload 4, 52, 0), (52, .iconst (-1), 53, 1), (53, .if_icmp .ne 20, 56, 73), (56, .aload_n 0, 57, 0), (57, .getfield 19, 60, 46), (60, .aload_n 0, 61, 0), (61, .getfield 30, 64, 48), (64, .iload_n 1, 65, 0), (65, .iload_n 2, 66, 0), (66, .iload_n 3, 67, 0), (67, .invokevirtual 184, 70, 101), (70, .goto 19, 73, 89), (73, .aload_n 0, 74, 0), (74, .getfield 19, 77, 46), (77, .aload_n 0, 78, 0), (78, .getfield 30, 81, 48), (81, .iload_n 1, 82, 0), (82, .iload_n 2, 83, 0), (83, .iload_n 3, 84, 0), (84, .iload 4, 86, 0), (86, .invokevirtual 188, 89, 102), (89, .ireturn, 90, 0)]
def m_X8_said : aM := (yX8_said, 8, cX8_said, 5, (some .int), k_X8_said)
def k_X8_pace : List (Nat × aI) := [(0, .aload_n 0, 1, 0), (1, .iload_n 1, 2, 0), (2, .invokevirtual 136, 5, 88), (5, .ifCond .eq 12, 8, 17), (8, .iload_n 2, 9, 0), (9, .iconst 0, 10, 0), (10, .iconst 1, 11, 1), (11, .invokestatic 92, 14, 83), (14, .ifCond .ne 5, 17, 19), (17, .iconst (-1), 18, 1), (18, .ireturn, 19, 0), (19, .aload_n 0, 20, 0), (20, .getfield 30, 23, 48), (23, .aload_n 0, 24, 0), (24, .getfield 26, 27, 47), (27, .invokevirtual 181, 30, 100), (30, .iconst 1, 31, 1), (31, .istore_n 3, 32, 0), (32, .iload_n 3, 33, 0), (33, .bipush 6, 35, 6), (35, .if_icmp .gt 71, 38, 106), (38, .iconst 1, 39, 1), (39, .istore 4, 41, 0), (41, .iload 4, 43, 0), (43, .iconst 3, 44, 3), (44, .if_icmp .gt 56, 47, 100), (47, .iload_n 3, 48, 0), (48, .iload 4, 50, 0), (50, .isub, 51, 0), (51, .istore 5, 53, 0), (53, .iload 5, 55, 0), (55, .iconst 0, 56, 0), (56, .iconst 3, 57, 3), (57, .invokestatic 92, 60, 83), (60, .ifCond .eq 34, 63, 94), (63, .aload_n 0, 64, 0), (64, .getfield 19, 67, 46), (67, .aload_n 0, 68, 0), (68, .getfield 30, 71, 48), (71, .iload_n 1, 72, 0), (72, .iload 4, 74, 0), (74, .iload 5, 76, 0), (76, .invokevirtual 192, 79, 103), (79, .ifCond .eq 15, 82, 94), (82, .iload_n 2, 83, 0), (83, .ifCond .ne 8, 86, 91), (86, .iload 4, 88, 0), (88, .goto 5, 91, 93), (91, .iload 5, 93, 0), (93, .ireturn, 94, 0), (94, .iinc 4 1, 97, 1), (97, .goto (-56), 100, 41), (100, .iinc 3 1, 103, 1), (103, .goto (-71), 106, 32), (106, .bipush (-4), 108, 4), (108, .ireturn, 109, 0)]
def m_X8_pace : aM := (yX8_pace, 8, cX8_pace, 6, (some .int), k_X8_pace)
def k_X8_clear : List (Nat × aI) := [(0, .iload_n 1, 1, 0), (1, .invokestatic 196, 4, 104), (4, .ifCond .ne 5, 7, 9), (7, .iconst (-1), 8, 1), (8, .ireturn, 9, 0), (9, .aload_n 0, 10, 0), (10, .getfield 30, 13, 48), (13, .aload_n 0, 14, 0), (14, .getfield 26, 17, 47), (17, .invokevirtual 181, 20, 100), (20, .iconst 0, 21, 0), (21, .istore_n 2, 22, 0), (22, .iconst 0, 23, 0), (23, .istore_n 3, 24, 0), (24, .iload_n 3, 25, 0), (25, .bipush 29, 27, 29), (27, .if_icmp .gt 28, 30, 55), (30, .aload_n 0, 31, 0), (31, .getfield 30, 34, 48), (34, .iload_n 3, 35, 0), (35, .iload_n 1, 36, 0), (36, .invokevirtual 199, 39, 105), (39, .iload_n 3, 40, 0), (40, .if_icmp .ne 9, 43, 49), (43, .iload_n 2, 44, 0), (44, .iconst 1, 45, 1), (45, .iload_n 3, 46, 0), (46, .ishl, 47, 0), (47, .ior, 48, 0), (48, .istore_n 2, 49, 0), (49, .iinc 3 1, 52, 1), (52, .goto (-28), 55, 24), (55, .iload_n 2, 56, 0), (56, .ireturn, 57, 0)]
def m_X8_clear : aM := (yX8_clear, 8, cX8_clear, 4, (some .int), k_X8_clear)
def k_X8_like : List (Nat × aI) := [(0, .iload_n 1, 1, 0), (1, .iconst 0, 2, 0), (2, .bipush 30, 4, 30), (4, .invokestatic 92, 7, 83), (7, .ifCond .ne 5, 10, 12), (10, .iconst (-1), 11, 1), (11, .ireturn, 12, 0), (12, .aload_n 0, 13, 0), (13, .getfield 30, 16, 48), (16, .aload_n 0, 17, 0), (17, .getfield 26, 20, 47), (20, .invokevirtual 181, 23, 100), (23, .aload_n 0, 24, 0), (24, .getfield 30, 27, 48), (27, .iload_n 1, 28, 0), (28, .iconst 1, 29, 1), (29, .invokevirtual 199, 32, 105), (32, .istore_n 2, 33, 0), (33, .iconst 0, 34, 0), (34, .istore_n 3, 35, 0), (35, .iload_n 3, 36, 0), (36, .iload_n 1, 37, 0), (37, .if_icmp .ge 24, 40, 61), (40, .aload_n 0, 41, 0), (41, .getfield 30, 44, 48), (44, .iload_n 3, 45, 0), (45, .iconst 1, 46, 1), (46, .invokevirtual 199, 49, 105), (49, .iload_n 2, 50, 0), (50, .if_icmp .ne 5, 53, 55), (53, .iload_n 3, 54, 0), (54, .ireturn, 55, 0), (55, .iinc 3 1, 58, 1), (58, .goto (-23), 61, 35), (61, .iload_n 1, 62, 0), (62, .ireturn, 63, 0)]
def m_X8_like : aM := (yX8_like, 8, cX8_like, 4, (some .int), k_X8_like)
def k_X8_mending : List (Nat × aI) := [(0, .aload_n 0, 1, 0), (1, .iload_n 1, 2, 0), (2, .iload_n 2, 3, 0), (3, .iload_n 3, 4, 0), (4, .invokevirtual 178, 7, 99), (7, .ifCond .ne 5, 10, 12), (10, .iconst (-1), 11, 1), (11, .ireturn, 12, 0), (12, .iconst 0, 13, 0), (13, .istore 4, 15, 0), (15, .iload 4, 17, 0), (17, .iconst 5, 18, 5), (18, .if_icmp .gt 50, 21, 68), (21, .iconst 0, 22, 0), (22, .istore 5, 24, 0), (24, .iload 5, 26, 0), (26, .bipush 32, 28, 32), (28, .if_icmp .ge 34, 31, 62), (31, .iload 5, 33, 0), (33, .invokestatic 153, 36, 93), (36, .iload 4, 38, 0), (38, .if_icmp .ne 18, 41, 56), (41, .aload_n 0, 42, 0), (42, .iload 5, 44, 0), (44, .iload_n 1, 45, 0), (45, .iload_n 2, 46, 0), (46, .iload_n 3, 47, 0), (47, .invokevirtual 202, 50, 106), (50, .ifCond .eq 6, 53, 56), (53, .iload 5, 55, 0), (55, .ireturn, 56, 0), (56, .iinc 5 1, 59, 1), (59, .goto (-35), 62, 24), (62, .iinc 4 1, 65, 1), (65, .goto (-50), 68, 15), (68, .bipush (-4), 70, 4), (70, .ireturn, 71, 0)]
def m_X8_mending : aM := (yX8_mending, 8, cX8_mending, 6, (some .int), k_X8_mending)
def k_X8_changing : List (Nat × aI) := [(0, .aload_n 0, 1, 0), (1, .iload_n 1, 2, 0), (2, .iload_n 2, 3, 0), (3, .iload_n 3, 4, 0), (4, .invokevirtual 178, 7, 99), (7, .ifCond .eq 13, 10, 20), (10, .iload 4, 12, 0), (12, .iconst 0, 13, 0), (13, .iconst 1, 14, 1), (14, .invokestatic 92, 17, 83), (17, .ifCond .ne 5, 20, 22), (20, .iconst (-1), 21, 1), (21, .ireturn, 22, 0), (22, .aload_n 0, 23, 0), (23, .getfield 30, 26, 48), (26, .aload_n 0, 27, 0), (27, .getfield 26, 30, 47), (30, .invokevirtual 181, 33, 100), (33, .aload_n 0, 34, 0), (34, .getfield 19, 37, 46), (37, .aload_n 0, 38, 0), (38, .getfield 30, 41, 48), (41, .iload_n 1, 42, 0), (42, .iload_n 2, 43, 0), (43, .iload_n 3, 44, 0), (44, .invokevirtual 184, 47, 101), (47, .istore 5, 49, 0), (49, .bipush (-4), 51, 4), (51, .istore 6, 53, 0), (53, .iconst 0, 54, 0), (54, .istore 7, 56, 0), (56, .iload 7, 58, 0), (58, .iconst 5, 59, 5), (59, .if_icmp .ge 86, 62, 145), (62, .iload 7, 64, 0), (64, .iconst 1, 65, 1), (65, .iadd, 66, 0), (66, .istore 8, 68, 0), (68, .iload 8, 70, 0), (70, .iconst 5, 71, 5), (71, .if_icmp .ge 68, 74, 139), (74, .aload_n 0, 75, 0), (75, .getfield 30, 78, 48), (78, .iload 7, 80, 0), (80, .iload 8, 82, 0), (82, .invokevirtual 165, 85, 96), (85, .aload_n 0, 86, 0), (86, .getfield 19, 89, 46), (89, .aload_n 0, 90, 0), (90, .getfield 30, 93, 48), (93, .iload_n 1, 94, 0), (94, .iload_n 2, 95, 0), (95, .iload_n 3, 96, 0), (96, .invokevirtual 184, 99, 101), (99, .istore 9, 101, 0), (101, .aload_n 0, 102, 0), (102, .getfield 30, 105, 48), (105, .iload 7, 107, 0), (107, .iload 8, 109, 0), (109, .invokevirtual 165, 112, 96), (112, .iload 9, 114, 0), (114, .iload 5, 116, 0), (116, .if_icmp .le 17, 119, 133), (119, .iload 9, 121, 0), (121, .istore 5, 123, 0), (123, .bipush 10, 125, 10), (125, .iload 7, 127, 0), (127, .imul, 128, 0), (128, .iload 8, 130, 0), (130, .iadd, 131, 0), (131, .istore 6, 133, 0), (133, .iinc 8 1, 136, 1), (136, .goto (-68), 139, 68), (139, .iinc 7 1, 142, 1), (142, .goto (-86), 145, 56), (145, .iload 4, 147, 0), (147, .ifCond .eq 10, 150, 157), (150, .iload 6, 152, 0), (152, .bipush (-4), 154, 4), (154, .if_icmp .ne 8, 157, 162), (157, .iload 6, 159, 0), (159, .goto 5, 162, 164), (162, .iload 5, 164, 0), (164, .ireturn, 165, 0)]
def m_X8_changing : aM := (yX8_changing, 8, cX8_changing, 10, (some .int), k_X8_changing)
def k_X8_order : List (Nat × aI) := [(0, .iload_n 1, 1, 0), (1, .invokestatic 196, 4, 104), (4, .ifCond .eq 12, 7, 16), (7, .iload_n 2, 8, 0), (8, .iconst (-1), 9, 1), (9, .iconst 4, 10, 4), (10, .invokestatic 92, 13, 83), (13, .ifCond .ne 5, 16, 18), (16, .iconst (-1), 17, 1), (17, .ireturn, 18, 0), (18, .aload_n 0, 19, 0), (19, .getfield 30, 22, 48), (22, .aload_n 0, 23, 0), (23, .getfield 26, 26, 47), (26, .invokevirtual 181, 29, 100), (29, .aload_n 0, 30, 0), (30, .getfield 66, 33, 53), (33, .aload_n 0, 34, 0), (34, .getfield 30, 37, 48), (37, .iload_n 1, 38, 0), (38, .invokevirtual 206, 41, 107), (41, .iload_n 2, 42, 0), (42, .iconst (-1), 43, 1), (43, .if_icmp .ne 13, 46, 56), (46, .aload_n 0, 47, 0), (47, .getfield 66, 50, 53), (50, .getfield 210, 53, 63), (53, .goto 12, 56, 65), (56, .aload_n 0, 57, 0), (57, .getfield 66, 60, 53), (60, .getfield 213, 63, 64), (63, .iload_n 2, 64, 0), (64, .iaload, 65, 0), (65, .ireturn, 66, 0)]
def m_X8_order : aM := (yX8_order, 8, cX8_order, 3, (some .int), k_X8_order)
def k_X8_see : List (Nat × aI) := [(0, .iload_n 1, 1, 0), (1, .iconst 0, 2, 0), (2, .bipush 29, 4, 29), (4, .invokestatic 92, 7, 83), (7, .ifCond .eq 13, 10, 20), (10, .iload_n 2, 11, 0), (11, .iconst 0, 12, 0), (12, .bipush 31, 14, 31), (14, .invokestatic 92, 17, 83), (17, .ifCond .ne 5, 20, 22), (20, .iconst (-1), 21, 1), (21, .ireturn, 22, 0), (22, .aload_n 0, 23, 0), (23, .getfield 43, 26, 50), (26, .getfield 216, 29, 65), (29, .bipush 8, 31, 8), (31, .if_icmp .lt 6, 34, 37), (34, .bipush (-3), 36, 3), (36, .ireturn, 37, 0), (37, .aload_n 0, 38, 0), (38, .getfield 43, 41, 50), (41, .iload_n 1, 42, 0), (42, .iload_n 2, 43, 0), (43, .invokevirtual 219, 46, 108), (46, .aload_n 0, 47, 0), (47, .getfield 43, 50, 50), (50, .getfield 216, 53, 65), (53, .ireturn, 54, 0)]
def m_X8_see : aM := (yX8_see, 8, cX8_see, 3, (some .int), k_X8_see)
def k_X8_canBe : List (Nat × aI) := [(0, .aload_n 0, 1, 0), (1, .getfield 43, 4, 50), (4, .aload_n 0, 5, 0), (5, .getfield 30, 8, 48), (8, .invokevirtual 222, 11, 109), (11, .ireturn, 12, 0)]
def m_X8_canBe : aM := (yX8_canBe, 8, cX8_canBe, 1, (some .int), k_X8_canBe)
def k_X8_tries : List (Nat × aI) := [(0, .iload_n 1, 1, 0), (1, .iconst 0, 2, 0), (2, .iconst 1, 3, 1), (3, .invokestatic 92, 6, 83), (6, .ifCond .ne 5, 9, 11), (9, .iconst (-1), 10, 1), (10, .ireturn, 11, 0), (11, .aload_n 0, 12, 0), (12, .getfield 43, 15, 50), (15, .aload_n 0, 16, 0), (16, .getfield 30, 19, 48), (19, .invokevirtual 222, 22, 109), (22, .istore_n 2, 23, 0), (23, .iload_n 2, 24, 0), (24, .invokestatic 153, 27, 93), (27, .iconst 1, 28, 1), (28, .if_icmp .gt 6, 31, 34), (31, .bipush (-4), 33, 4), (33, .ireturn, 34, 0), (34, .aload_n 0, 35, 0), (35, .getfield 43, 38, 50), (38, .iload_n 2, 39, 0), (39, .invokevirtual 226, 42, 110), (42, .istore_n 3, 43, 0), (43, .iload_n 1, 44, 0), (44, .ifCond .ne 7, 47, 51), (47, .iload_n 3, 48, 0), (48, .goto 12, 51, 60), (51, .aload_n 0, 52, 0), (52, .getfield 43, 55, 50), (55, .iload_n 2, 56, 0), (56, .iload_n 3, 57, 0), (57, .invokevirtual 229, 60, 111), (60, .ireturn, 61, 0)]
def m_X8_tries : aM := (yX8_tries, 8, cX8_tries, 4, (some .int), k_X8_tries)
def k_X8_hear : List (Nat × aI) := [(0, .iload_n 1, 1, 0), (1, .iconst 0, 2, 0), (2, .bipush 19, 4, 19), (4, .invokestatic 92, 7, 83), (7, .ifCond .ne 11, 10, 18), (10, .iload_n 1, 11, 0), (11, .bipush 31, 13, 31), (13, .if_icmp .eq 5, 16, 18), (16, .iconst (-1), 17, 1), (17, .ireturn, 18, 0), (18, .aload_n 0, 19, 0), (19, .getfield 50, 22, 51), (22, .getfield 232, 25, 66), (25, .bipush 8, 27, 8), (27, .if_icmp .lt 6, 30, 33), (30, .bipush (-3), 32, 3), (32, .ireturn, 33, 0), (33, .aload_n 0, 34, 0), (34, .getfield 50, 37, 51), (37, .iload_n 1, 38, 0), (38, .invokevirtual 235, 41, 112), (41, .aload_n 0, 42, 0), (42, .getfield 50, 45, 51), (45, .getfield 232, 48, 66), (48, .ireturn, 49, 0)]
def m_X8_hear : aM := (yX8_hear, 8, cX8_hear, 2, (some .int), k_X8_hear)
def k_X8_fits : List (Nat × aI) := [(0, .iconst 0, 1, 0), (1, .istore_n 1, 2, 0), (2, .iconst 0, 3, 0), (3, .istore_n 2, 4, 0), (4, .iload_n 2, 5, 0), (5, .aload_n 0, 6, 0), (6, .getfield 19, 9, 46), (9, .getfield 106, 12, 55), (12, .if_icmp .ge 30, 15, 42), (15, .aload_n 0, 16, 0), (16, .getfield 50, 19, 51), (19, .aload_n 0, 20, 0), (20, .getfield 19, 23, 46), (23, .iload_n 2, 24, 0), (24, .invokevirtual 237, 27, 113), (27, .ifCond .eq 9, 30, 36), (30, .iload_n 1, 31, 0), (31, .iconst 1, 32, 1), (32, .iload_n 2, 33, 0), (33, .ishl, 34, 0), (34, .ior, 35, 0), (35, .istore_n 1, 36, 0), (36, .iinc 2 1, 39, 1), (39, .goto (-35), 42, 4), (42, .iload_n 1, 43, 0), (43, .ireturn, 44, 0)]
def m_X8_fits : aM := (yX8_fits, 8, cX8_fits, 3, (some .int), k_X8_fits)
def k_X8_forget : List (Nat × aI) := [(0, .iload_n 1, 1, 0), (1, .iconst 0, 2, 0), (2, .iconst 1, 3, 1), (3, .invokestatic 92, 6, 83), (6, .ifCond .ne 5, 9, 11), (9, .iconst (-1), 10, 1), (10, .ireturn, 11, 0), (11, .iload_n 1, 12, 0), (12, .ifCond .ne 13, 15, 25), (15, .aload_n 0, 16, 0), (16, .getfield 43, 19, 50), (19, .invokevirtual 241, 22, 114), (22, .goto 10, 25, 32), (25, .aload_n 0, 26, 0), (26, .getfield 50, 29, 51), (29, .invokevirtual 242, 32, 115), (32, .ireturn, 33, 0)]
def m_X8_forget : aM := (yX8_forget, 8, cX8_forget, 2, (some .int), k_X8_forget)
def k_X8_duel : List (Nat × aI) := [(0, .aload_n 0, 1, 0), (1, .iload_n 1, 2, 0), (2, .invokevirtual 136, 5, 88), (5, .ifCond .eq 12, 8, 17), (8, .iload_n 2, 9, 0), (9, .iconst 0, 10, 0), (10, .iconst 4, 11, 4), (11, .invokestatic 92, 14, 83), (14, .ifCond .ne 5, 17, 19), (17, .iconst (-1), 18, 1), (18, .ireturn, 19, 0), (19, .aload_n 0, 20, 0), (20, .getfield 59, 23, 52), (23, .iload_n 1, 24, 0), (24, .invokevirtual 243, 27, 116), (27, .aload_n 0, 28, 0), (28, .getfield 59, 31, 52), (31, .iload_n 2, 32, 0), (32, .iconst 1, 33, 1), (33, .iconst 0, 34, 0), (34, .aload_n 0, 35, 0), (35, .getfield 26, 38, 47), (38, .getfield 123, 41, 59), (41, .invokevirtual 246, 44, 117), (44, .ireturn, 45, 0)]
def m_X8_duel : aM := (yX8_duel, 8, cX8_duel, 3, (some .int), k_X8_duel)
def k_X8_odds : List (Nat × aI) := [(0, .iload_n 1, 1, 0), (1, .iconst 0, 2, 0), (2, .bipush 29, 4, 29), (4, .invokestatic 92, 7, 83), (7, .ifCond .eq 22, 10, 29), (10, .iload_n 2, 11, 0), (11, .iconst 0, 12, 0), (12, .bipush 10, 14, 10), (14, .invokestatic 92, 17, 83), (17, .ifCond .eq 12, 20, 29), (20, .iload_n 3, 21, 0), (21, .iconst 0, 22, 0), (22, .iconst 1, 23, 1), (23, .invokestatic 92, 26, 83), (26, .ifCond .ne 5, 29, 31), (29, .iconst (-1), 30, 1), (30, .ireturn, 31, 0), (31, .aload_n 0, 32, 0), (32, .getfield 30, 35, 48), (35, .aload_n 0, 36, 0), (36, .getfield 26, 39, 47), (39, .invokevirtual 181, 42, 100), (42, .aload_n 0, 43, 0), (43, .iload_n 1, 44, 0), (44, .iload_n 2, 45, 0), (45, .invokevirtual 250, 48, 118), (48, .iload_n 3, 49, 0), (49, .invokestatic 253, 52, 119), (52, .ireturn, 53, 0)]
def m_X8_odds : aM := (yX8_odds, 8, cX8_odds, 4, (some .int), k_X8_odds)
def k_X8_mean : List (Nat × aI) := [(0, .aload_n 0, 1, 0), (1, .iload_n 1, 2, 0), (2, .invokevirtual 136, 5, 88), (5, .ifCond .eq 22, 8, 27), (8, .iload_n 2, 9, 0), (9, .iconst 0, 10, 0), (10, .bipush 10, 12, 10), (12, .invokestatic 92, 15, 83), (15, .ifCond .eq 12, 18, 27), (18, .iload_n 3, 19, 0), (19, .iconst 0, 20, 0), (20, .iconst 1, 21, 1), (21, .invokestatic 92, 24, 83), (24, .ifCond .ne 5, 27, 29), (27, .iconst (-1), 28, 1), (28, .ireturn, 29, 0), (29, .aload_n 0, 30, 0), (30, .getfield 30, 33, 48), (33, .aload_n 0, 34, 0), (34, .getfield 26, 37, 47), (37, .invokevirtual 181, 40, 100), (40, .iconst 0, 41, 0), (41, .istore 4, 43, 0), (43, .iconst 0, 44, 0), (44, .istore 5, 46, 0), (46, .iload 5, 48, 0), (48, .aload_n 0, 49, 0), (49, .getfield 19, 52, 46), (52, .iload_n 1, 53, 0), (53, .invokevirtual 139, 56, 89), (56, .if_icmp .ge 29, 59, 85), (59, .iload 4, 61, 0), (61, .aload_n 0, 62, 0), (62, .aload_n 0, 63, 0), (63, .getfield 19, 66, 46), (66, .iload_n 1, 67, 0), (67, .iload 5, 69, 0), (69, .invokevirtual 143, 72, 90), (72, .iload_n 2, 73, 0), (73, .invokevirtual 250, 76, 118), (76, .iadd, 77, 0), (77, .istore 4, 79, 0), (79, .iinc 5 1, 82, 1), (82, .goto (-36), 85, 46), (85, .iload 4, 87, 0), (87, .iload_n 3, 88, 0), (88, .invokestatic 253, 91, 119), (91, .ireturn, 92, 0)]
def m_X8_mean : aM := (yX8_mean, 8, cX8_mean, 6, (some .int), k_X8_mean)
def k_X8_day : List (Nat × aI) := [(0, .iload_n 1, 1, 0), (1, .iconst 0, 2, 0), (2, .sipush 9999, 5, 9999), (5, .invokestatic 92, 8, 83), (8, .ifCond .eq 22, 11, 30), (11, .iload_n 2, 12, 0), (12, .iconst 1, 13, 1), (13, .bipush 60, 15, 60), (15, .invokestatic 92, 18, 83), (18, .ifCond .eq 12, 21, 30), (21, .iload_n 3, 22, 0), (22, .iconst 0, 23, 0), (23, .iconst 2, 24, 2), (24, .invokestatic 92, 27, 83), (27, .ifCond .ne 5, 30, 32), (30, .iconst (-1), 31, 1), (31, .ireturn, 32, 0), (32, .aload_n 0, 33, 0), (33, .getfield 30, 36, 48), (36, .aload_n 0, 37, 0), (37, .getfield 26, 40, 47), (40, .invokevirtual 181, 43, 100), (43, .iconst 0, 44, 0), (44, .istore 4, 46, 0), (46, .iconst 0, 47, 0), (47, .istore 5, 49, 0), (49, .iconst 0, 50, 0), (50, .istore 6, 52, 0), (52, .iload 6, 54, 0), (54, .iload_n 2, 55, 0), (55, .if_icmp .ge 101, 58, 156), (58, .iload_n 1, 59, 0), (59, .iload 6, 61, 0), (61, .invokestatic 256, 64, 120), (64, .istore 7, 66, 0), (66, .iload 7, 68, 0), (68, .bipush 8, 70, 8), (70, .irem, 71, 0), (71, .iconst 5, 72, 5), (72, .if_icmp .ge 62, 75, 134), (75, .iload 7, 77, 0), (77, .bipush 8, 79, 8), (79, .idiv, 80, 0), (80, .bipush 31, 82, 31), (82, .irem, 83, 0), (83, .istore 8, 85, 0), (85, .aload_n 0, 86, 0), (86, .getfield 30, 89, 48), (89, .iload 8, 91, 0), (91, .iconst 1, 92, 1), (92, .invokevirtual 150, 95, 92), (95, .istore 9, 97, 0), (97, .iload 4, 99, 0), (99, .iload 9, 101, 0), (101, .iload 8, 103, 0), (103, .if_icmp .ne 7, 106, 110), (106, .iconst 1, 107, 1), (107, .goto 4, 110, 111), (110, .iconst 0, 111, 0), (111, .iadd, 112, 0), (112, .istore 4, 114, 0), (114, .iload 5, 116, 0), (116, .iload 9, 118, 0), (118, .bipush 31, 120, 31), (120, .if_icmp .ne 7, 123, 127), (123, .iconst 1, 124, 1), (124, .goto 4, 127, 128), (127, .iconst 0, 128, 0), (128, .iadd, 129, 0), (129, .istore 5, 131, 0), (131, .goto 19, 134, 150), (134, .aload_n 0, 135, 0), (135, .iload 7, 137, 0), (137, .bipush 8, 139, 8), (139, .irem, 140, 0), (140, .iload 7, 142, 0), (142, .bipush 64, 144, 64), (144, .idiv, 145, 0), (145, .iconst 5, 146, 5), (146, .irem, 147, 0), (147, .invokevirtual 259, 150, 121), (150, .iinc 6 1, 153, 1), (153, .goto (-101), 156, 52), (156, .iload_n 3, 157, 0), (157, .ifCond .ne 6, 160, 163), (160, .iload 4, 162, 0), (162, .ireturn, 163, 0), (163, .iload_n 3, 164, 0), (164, .iconst 1, 165, 1), (165, .if_icmp .ne 8, 168, 173), (168, .iload 5, 170, 0), (170, .goto 13, 173, 183), (173, .aload_n 0, 174, 0), (174, .getfield 30, 177, 48), (177, .getfield 123, 180, 59), (180, .invokestatic 153, 183, 93), (183, .ireturn, 184, 0)]
def m_X8_day : aM := (yX8_day, 8, cX8_day, 10, (some .int), k_X8_day)
def k_X8_keep : List (Nat × aI) := [(0, .aload_n 0, 1, 0), (1, .getfield 36, 4, 49), (4, .getfield 262, 7, 67), (7, .iconst 2, 8, 2), (8, .if_icmp .lt 6, 11, 14), (11, .bipush (-3), 13, 3), (13, .ireturn, 14, 0), (14, .aload_n 0, 15, 0), (15, .getfield 36, 18, 49), (18, .aload_n 0, 19, 0), (19, .getfield 26, 22, 47), (22, .invokevirtual 265, 25, 122), (25, .aload_n 0, 26, 0), (26, .getfield 36, 29, 49), (29, .getfield 262, 32, 67), (32, .ireturn, 33, 0)]
def m_X8_keep : aM := (yX8_keep, 8, cX8_keep, 1, (some .int), k_X8_keep)
def k_X8_back : List (Nat × aI) := [(0, .aload_n 0, 1, 0), (1, .getfield 36, 4, 49), (4, .getfield 262, 7, 67), (7, .ifCond .ne 6, 10, 13), (10, .bipush (-2), 12, 2), (12, .ireturn, 13, 0), (13, .aload_n 0, 14, 0), (14, .getfield 36, 17, 49), (17, .aload_n 0, 18, 0), (18, .getfield 26, 21, 47), (21, .invokevirtual 268, 24, 123), (24, .aload_n 0, 25, 0), (25, .getfield 36, 28, 49), (28, .getfield 262, 31, 67), (31, .ireturn, 32, 0)]
def m_X8_back : aM := (yX8_back, 8, cX8_back, 1, (some .int), k_X8_back)
def k_X8_count : List (Nat × aI) := [(0, .iload_n 1, 1, 0), (1, .tableswitch 144 0 9 #[55, 63, 74, 85, 96, 104, 112, 120, 128, 136], 56, 0), (56, .aload_n 0, 57, 0), (57, .getfield 19, 60, 46), (60, .getfield 106, 63, 55), (63, .ireturn, 64, 0), (64, .aload_n 0, 65, 0), (65, .getfield 26, 68, 47), (68, .getfield 123, 71, 59), (71, .invokestatic 153, 74, 93), (74, .ireturn, 75, 0), (75, .aload_n 0, 76, 0), (76, .getfield 26, 79, 47), (79, .getfield 130, 82, 60), (82, .invokestatic 153, 85, 93), (85, .ireturn, 86, 0), (86, .aload_n 0, 87, 0), (87, .getfield 26, 90, 47), (90, .getfield 133, 93, 61), (93, .invokestatic 153, 96, 93), (96, .ireturn, 97, 0), (97, .aload_n 0, 98, 0), (98, .getfield 26, 101, 47), (101, .invokevirtual 271, 104, 124), (104, .ireturn, 105, 0), (105, .aload_n 0, 106, 0), (106, .getfield 36, 109, 49), (109, .getfield 169, 112, 62), (112, .ireturn, 113, 0), (113, .aload_n 0, 114, 0), (114, .getfield 36, 117, 49), (117, .getfield 262, 120, 67), (120, .ireturn, 121, 0), (121, .aload_n 0, 122, 0), (122, .getfield 43, 125, 50), (125, .getfield 216, 128, 65), (128, .ireturn, 129, 0), (129, .aload_n 0, 130, 0), (130, .getfield 50, 133, 51), (133, .getfield 232, 136, 66), (136, .ireturn, 137, 0), (137, .aload_n 0, 138, 0), (138, .getfield 10, 141, 45), (141, .getfield 96, 144, 54), (144, .ireturn, 145, 0), (145, .iconst (-1), 146, 1), (146, .ireturn, 147, 0)]
def m_X8_count : aM := (yX8_count, 8, cX8_count, 2, (some .int), k_X8_count)
def k_X8_within : List (Nat × aI) := [(0, .iload_n 0, 1, 0), (1, .iload_n 1, 2, 0), (2, .if_icmp .lt 12, 5, 14), (5, .iload_n 0, 6, 0), (6, .iload_n 2, 7, 0), (7, .if_icmp .gt 7, 10, 14), (10, .iconst 1, 11, 1), (11, .goto 4, 14, 15), (14, .iconst 0, 15, 0), (15, .ireturn, 16, 0)]
def m_X8_within : aM := (yX8_within, 8, cX8_within, 3, (some .boolean), k_X8_within)
def k_X8_isPlace : List (Nat × aI) := [(0, .iload_n 0, 1, 0), (1, .iconst 0, 2, 0), (2, .iconst 4, 3, 4), (3, .invokestatic 92, 6, 83), (6, .ireturn, 7, 0)]
def m_X8_isPlace : aM := (yX8_isPlace, 8, cX8_isPlace, 1, (some .boolean), k_X8_isPlace)
def k_X8_isBeats : List (Nat × aI) := [(0, .iload_n 0, 1, 0), (1, .iconst 1, 2, 1), (2, .iconst 3, 3, 3), (3, .invokestatic 92, 6, 83), (6, .ireturn, 7, 0)]
def m_X8_isBeats : aM := (yX8_isBeats, 8, cX8_isBeats, 1, (some .boolean), k_X8_isBeats)
def k_X8_isMessage : List (Nat × aI) := [(0, .iload_n 1, 1, 0), (1, .iconst 0, 2, 0), (2, .aload_n 0, 3, 0), (3, .getfield 19, 6, 46), (6, .getfield 106, 9, 55), (9, .iconst 1, 10, 1), (10, .isub, 11, 0), (11, .invokestatic 92, 14, 83), (14, .ireturn, 15, 0)]
def m_X8_isMessage : aM := (yX8_isMessage, 8, cX8_isMessage, 2, (some .boolean), k_X8_isMessage)
def k_X8_isSaying : List (Nat × aI) := [(0, .aload_n 0, 1, 0), (1, .iload_n 1, 2, 0), (2, .invokevirtual 136, 5, 88), (5, .ifCond .eq 23, 8, 28), (8, .iload_n 2, 9, 0), (9, .invokestatic 196, 12, 104), (12, .ifCond .eq 16, 15, 28), (15, .iload_n 3, 16, 0), (16, .iconst 0, 17, 0), (17, .iconst 3, 18, 3), (18, .invokestatic 92, 21, 83), (21, .ifCond .eq 7, 24, 28), (24, .iconst 1, 25, 1), (25, .goto 4, 28, 29), (28, .iconst 0, 29, 0), (29, .ireturn, 30, 0)]
def m_X8_isSaying : aM := (yX8_isSaying, 8, cX8_isSaying, 4, (some .boolean), k_X8_isSaying)
def k_X8_bitAt : List (Nat × aI) := [(0, .iload_n 0, 1, 0), (1, .iload_n 1, 2, 0), (2, .ishr, 3, 0), (3, .iconst 1, 4, 1), (4, .iand, 5, 0), (5, .ireturn, 6, 0)]
def m_X8_bitAt : aM := (yX8_bitAt, 8, cX8_bitAt, 2, (some .int), k_X8_bitAt)
def k_X8_layScript : List (Nat × aI) := [(0, .aload_n 0, 1, 0), (1, .getfield 26, 4, 47), (4, .invokevirtual 274, 7, 125), (7, .aload_n 0, 8, 0), (8, .getfield 26, 11, 47), (11, .invokevirtual 277, 14, 126), (14, .aload_n 0, 15, 0), (15, .getfield 19, 18, 46), (18, .iconst 0, 19, 0), (19, .putfield 106, 22, 55), (22, .aload_n 0, 23, 0), (23, .getfield 10, 26, 45), (26, .aload_n 0, 27, 0), (27, .getfield 26, 30, 47), (30, .aload_n 0, 31, 0), (31, .getfield 19, 34, 46), (34, .invokevirtual 280, 37, 127), (37, .aload_n 0, 38, 0), (38, .getfield 36, 41, 49), (41, .invokevirtual 284, 44, 128), (44, .aload_n 0, 45, 0), (45, .getfield 43, 48, 50), (48, .invokevirtual 241, 51, 114), (51, .pop, 52, 0), (52, .aload_n 0, 53, 0), (53, .getfield 50, 56, 51), (56, .invokevirtual 242, 59, 115), (59, .pop, 60, 0), (60, .return_, 61, 0)]
def m_X8_layScript : aM := (yX8_layScript, 8, cX8_layScript, 1, none, k_X8_layScript)
def k_X8_isAllRightMended : List (Nat × aI) := [(0, .aload_n 0, 1, 0), (1, .getfield 30, 4, 48), (4, .aload_n 0, 5, 0), (5, .getfield 26, 8, 47), (8, .invokevirtual 181, 11, 100), (11, .aload_n 0, 12, 0), (12, .getfield 30, 15, 48), (15, .iload_n 1, 16, 0), (16, .invokevirtual 161, 19, 95), (19, .aload_n 0, 20, 0), (20, .getfield 19, 23, 46), (23, .aload_n 0, 24, 0), (24, .getfield 30, 27, 48), (27, .iload_n 2, 28, 0), (28, .iload_n 3, 29, 0), (29, .iload 4, 31, 0), (31, .invokevirtual 192, 34, 103), (34, .ireturn, 35, 0)]
def m_X8_isAllRightMended : aM := (yX8_isAllRightMended, 8, cX8_isAllRightMended, 5, (some .boolean), k_X8_isAllRightMended)
def k_X8_slackChances : List (Nat × aI) := [(0, .aload_n 0, 1, 0), (1, .getfield 30, 4, 48), (4, .iload_n 1, 5, 0), (5, .iconst 1, 6, 1), (6, .invokevirtual 199, 9, 105), (9, .pop, 10, 0), (10, .iconst 1, 11, 1), (11, .istore_n 3, 12, 0), (12, .iconst 0, 13, 0), (13, .istore 4, 15, 0), (15, .iload 4, 17, 0), (17, .iconst 5, 18, 5), (18, .if_icmp .ge 36, 21, 54), (21, .iload_n 3, 22, 0), (22, .aload_n 0, 23, 0), (23, .getfield 30, 26, 48), (26, .getfield 117, 29, 57), (29, .iload 4, 31, 0), (31, .iaload, 32, 0), (32, .getstatic 286, 35, 4), (35, .iload_n 1, 36, 0), (36, .iconst 5, 37, 5), (37, .imul, 38, 0), (38, .iload 4, 40, 0), (40, .iadd, 41, 0), (41, .iaload, 42, 0), (42, .iload_n 2, 43, 0), (43, .invokestatic 289, 46, 129), (46, .imul, 47, 0), (47, .istore_n 3, 48, 0), (48, .iinc 4 1, 51, 1), (51, .goto (-36), 54, 15), (54, .iload_n 3, 55, 0), (55, .ireturn, 56, 0)]
def m_X8_slackChances : aM := (yX8_slackChances, 8, cX8_slackChances, 5, (some .int), k_X8_slackChances)
def k_X8_slackShare : List (Nat × aI) := [(0, .iload_n 0, 1, 0), (1, .iload_n 1, 2, 0), (2, .if_icmp .ne 17, 5, 19), (5, .iload_n 0, 6, 0), (6, .ifCond .ne 8, 9, 14), (9, .bipush 10, 11, 10), (11, .goto 7, 14, 18), (14, .bipush 10, 16, 10), (16, .iload_n 2, 17, 0), (17, .isub, 18, 0), (18, .ireturn, 19, 0), (19, .iload_n 1, 20, 0), (20, .ifCond .ne 7, 23, 27), (23, .iload_n 2, 24, 0), (24, .goto 4, 27, 28), (27, .iconst 0, 28, 0), (28, .ireturn, 29, 0)]
def m_X8_slackShare : aM := (yX8_slackShare, 8, cX8_slackShare, 3, (some .int), k_X8_slackShare)
def k_X8_lowestTerms : List (Nat × aI) := [(0, .iload_n 0, 1, 0), (1, .ldc_w 293, 4, 1), (4, .invokestatic 294, 7, 130), (7, .istore_n 2, 8, 0), (8, .iload_n 2, 9, 0), (9, .ifCond .ne 5, 12, 14), (12, .iconst 0, 13, 0), (13, .ireturn, 14, 0), (14, .iload_n 1, 15, 0), (15, .ifCond .ne 7, 18, 22), (18, .iload_n 0, 19, 0), (19, .goto 6, 22, 25), (22, .ldc_w 293, 25, 1), (25, .iload_n 2, 26, 0), (26, .idiv, 27, 0), (27, .ireturn, 28, 0)]
def m_X8_lowestTerms : aM := (yX8_lowestTerms, 8, cX8_lowestTerms, 3, (some .int), k_X8_lowestTerms)
def k_X8_commonDivisor : List (Nat × aI) := [(0, .iconst 0, 1, 0), (1, .istore_n 2, 2, 0), (2, .iload_n 2, 3, 0), (3, .bipush 64, 5, 64), (5, .if_icmp .ge 21, 8, 26), (8, .iload_n 0, 9, 0), (9, .ifCond .eq 17, 12, 26), (12, .iload_n 1, 13, 0), (13, .iload_n 0, 14, 0), (14, .irem, 15, 0), (15, .istore_n 3, 16, 0), (16, .iload_n 0, 17, 0), (17, .istore_n 1, 18, 0), (18, .iload_n 3, 19, 0), (19, .istore_n 0, 20, 0), (20, .iinc 2 1, 23, 1), (23, .goto (-21), 26, 2), (26, .iload_n 1, 27, 0), (27, .ireturn, 28, 0)]
def m_X8_commonDivisor : aM := (yX8_commonDivisor, 8, cX8_commonDivisor, 4, (some .int), k_X8_commonDivisor)
def k_X8_drawOf : List (Nat × aI) := [(0, .ldc2_w 297, 3, 2), (3, .iload_n 0, 4, 0), (4, .i2l, 5, 0), (5, .lmul, 6, 0), (6, .ldc2_w 299, 9, 3), (9, .iload_n 1, 10, 0), (10, .i2l, 11, 0), (11, .lmul, 12, 0), (12, .ladd, 13, 0), (13, .lconst 1, 14, 0), (14, .ladd, 15, 0), (15, .lstore_n 2, 16, 0), (16, .lload_n 2, 17, 0), (17, .lload_n 2, 18, 0), (18, .lmul, 19, 0), (19, .ldc2_w 301, 22, 4), (22, .lrem, 23, 0), (23, .l2i, 24, 0), (24, .ireturn, 25, 0)]
def m_X8_drawOf : aM := (yX8_drawOf, 8, cX8_drawOf, 4, (some .int), k_X8_drawOf)
def k_X8_doDrawn : List (Nat × aI) := [(0, .iload_n 1, 1, 0), (1, .iconst 5, 2, 5), (2, .if_icmp .ne 21, 5, 23), (5, .aload_n 0, 6, 0), (6, .getfield 30, 9, 48), (9, .dup, 10, 0), (10, .getfield 123, 13, 59), (13, .iconst 1, 14, 1), (14, .iload_n 2, 15, 0), (15, .ishl, 16, 0), (16, .ior, 17, 0), (17, .putfield 123, 20, 59), (20, .goto 35, 23, 55), (23, .iload_n 1, 24, 0), (24, .bipush 6, 26, 6), (26, .if_icmp .ne 16, 29, 42), (29, .aload_n 0, 30, 0), (30, .getfield 30, 33, 48), (33, .iconst 1, 34, 1), (34, .iload_n 2, 35, 0), (35, .ishl, 36, 0), (36, .invokevirtual 161, 39, 95), (39, .goto 16, 42, 55), (42, .aload_n 0, 43, 0), (43, .getfield 30, 46, 48), (46, .iload_n 2, 47, 0), (47, .iload_n 2, 48, 0), (48, .iconst 1, 49, 1), (49, .iadd, 50, 0), (50, .iconst 5, 51, 5), (51, .irem, 52, 0), (52, .invokevirtual 165, 55, 96), (55, .return_, 56, 0)]
def m_X8_doDrawn : aM := (yX8_doDrawn, 8, cX8_doDrawn, 3, none, k_X8_doDrawn)
def k_X9_init : List (Nat × aI) := [(0, .aload_n 0, 1, 0), (1, .invokespecial 1, 4, 131), (4, .aload_n 0, 5, 0), (5, .sipush 200, 8, 200), (8, .newarray .int, 10, 0), (10, .putfield 7, 13, 68), (13, .aload_n 0, 14, 0), (14, .sipush 155, 17, 155), (17, .newarray .int, 19, 0), (19, .putfield 13, 22, 69), (22, .aload_n 0, 23, 0), (23, .bipush 6, 25, 6), (25, .newarray .int, 27, 0), (27, .putfield 16, 30, 70), (30, .aload_n 0, 31, 0), (31, .bipush 48, 33, 48), (33, .newarray .int, 35, 0), (35, .putfield 19, 38, 71), (38, .aload_n 0, 39, 0), (39, .bipush 29, 41, 29), (41, .newarray .int, 43, 0), (43, .putfield 22, 46, 72), (46, .aload_n 0, 47, 0), (47, .bipush 29, 49, 29), (49, .newarray .int, 51, 0), (51, .putfield 25, 54, 73), (54, .aload_n 0, 55, 0), (55, .sipush 232, 58, 232), (58, .newarray .int, 60, 0), (60, .putfield 28, 63, 74), (63, .aload_n 0, 64, 0), (64, .bipush 58, 66, 58), (66, .newarray .int, 68, 0), (68, .putfield 31, 71, 75), (71, .aload_n 0, 72, 0), (72, .bipush 16, 74, 16), (74, .newarray .int, 76, 0), (76, .putfield 34, 79, 76), (79, .aload_n 0, 80, 0), (80, .bipush 8, 82, 8), (82, .newarray .int, 84, 0), (84, .putfield 37, 87, 77), (87, .aload_n 0, 88, 0), (88, .bipush 29, 90, 29), (90, .newarray .int, 92, 0), (92, .putfield 40, 95, 78), (95, .aload_n 0, 96, 0), (96, .bipush 6, 98, 6), (98, .newarray .int, 100, 0), (100, .putfield 43, 103, 79), (103, .aload_n 0, 104, 0), (104, .bipush 48, 106, 48), (106, .newarray .int, 108, 0), (108, .putfield 46, 111, 80), (111, .aload_n 0, 112, 0), (112, .iconst 5, 113, 5), (113, .newarray .int, 115, 0), (115, .putfield 49, 118, 81), (118, .aload_n 0, 119, 0), (119, .iconst 5, 120, 5), (120, .newarray .int, 122, 0), (122, .putfield 52, 125, 82), (125, .aload_n 0, 126, 0), (126, .bipush 8, 128, 8), (128, .newarray .int, 130, 0), (130, .putfield 55, 133, 83), (133, .aload_n 0, 134, 0), (134, .iconst 5, 135, 5), (135, .newarray .int, 137, 0), (137, .putfield 58, 140, 84), (140, .aload_n 0, 141, 0), (141, .iconst 5, 142, 5), (142, .newarray .int, 144, 0), (144, .putfield 61, 147, 85), (147, .aload_n 0, 148, 0), (148, .bipush 32, 150, 32), (150, .newarray .int, 152, 0), (152, .putfield 64, 155, 86), (155, .aload_n 0, 156, 0), (156, .sipush 1296, 159, 1296), (159, .newarray .int, 161, 0), (161, .putfield 67, 164, 87), (164, .iconst 0, 165, 0), (165, .istore_n 1, 166, 0), (166, .iconst 4, 167, 4), (167, .istore_n 2, 168, 0), (168, .iload_n 2, 169, 0), (169, .ifCond .le 51, 172, 220), (172, .iconst 0, 173, 0), (173, .istore_n 3, 174, 0), (174, .iload_n 3, 175, 0), (175, .iload_n 2, 176, 0), (176, .iadd, 177, 0), (177, .iconst 5, 178, 5), (178, .if_icmp .ge 36, 181, 214), (181, .aload_n 0, 182, 0), (182, .getfield 13, 185, 69), (185, .iconst 5, 186, 5), (186, .iload_n 1, 187, 0), (187, .imul, 188, 0), (188, .iload_n 3, 189, 0), (189, .iadd, 190, 0), (190, .iconst 1, 191, 1), (191, .iastore, 192, 0), (192, .aload_n 0, 193, 0), (193, .getfield 13, 196, 69), (196, .iconst 5, 197, 5), (197, .iload_n 1, 198, 0), (198, .imul, 199, 0), (199, .iload_n 3, 200, 0), (200, .iadd, 201, 0), (201, .iload_n 2, 202, 0), (202, .iadd, 203, 0), (203, .iconst 2, 204, 2), (204, .iastore, 205, 0), (205, .iinc 1 1, 208, 1), (208, .iinc 3 1, 211, 1), (211, .goto (-37), 214, 174), (214, .iinc 2 (-1), 217, 1), (217, .goto (-49), 220, 168), (220, .iconst 1, 221, 1), (221, .istore_n 2, 222, 0), (222, .iload_n 2, 223, 0), (223, .iconst 5, 224, 5), (224, .if_icmp .ge 51, 227, 275), (227, .iconst 0, 228, 0), (228, .istore_n 3, 229, 0), (229, .iload_n 3, 230, 0), (230, .iload_n 2, 231, 0), (231, .iadd, 232, 0), (232, .iconst 5, 233, 5), (233, .if_icmp .ge 36, 236, 269), (236, .aload_n 0, 237, 0), (237, .getfield 13, 240, 69), (240, .iconst 5, 241, 5), (241, .iload_n 1, 242, 0), (242, .imul, 243, 0), (243, .iload_n 3, 244, 0), (244, .iadd, 245, 0), (245, .iconst 2, 246, 2), (246, .iastore, 247, 0), (247, .aload_n 0, 248, 0), (248, .getfield 13, 251, 69), (251, .iconst 5, 252, 5), (252, .iload_n 1, 253, 0), (253, .imul, 254, 0), (254, .iload_n 3, 255, 0), (255, .iadd, 256, 0), (256, .iload_n 2, 257, 0), (257, .iadd, 258, 0), (258, .iconst 1, 259, 1), (259, .iastore, 260, 0), (260, .iinc 1 1, 263, 1), (263, .iinc 3 1, 266, 1), (266, .goto (-37), 269, 229), (269, .iinc 2 1, 272, 1), (272, .goto (-50), 275, 222), (275, .iconst 0, 276, 0), (276, .istore_n 2, 277, 0), (277, .iload_n 2, 278, 0), (278, .iconst 5, 279, 5), (279, .if_icmp .ge 37, 282, 316), (282, .aload_n 0, 283, 0), (283, .getfield 13, 286, 69), (286, .iconst 5, 287, 5), (287, .bipush 20, 289, 20), (289, .iload_n 2, 290, 0), (290, .iadd, 291, 0), (291, .imul, 292, 0), (292, .iload_n 2, 293, 0), (293, .iadd, 294, 0), (294, .iconst 1, 295, 1), (295, .iastore, 296, 0), (296, .aload_n 0, 297, 0), (297, .getfield 13, 300, 69), (300, .iconst 5, 301, 5), (301, .bipush 25, 303, 25), (303, .iload_n 2, 304, 0), (304, .iadd, 305, 0), (305, .imul, 306, 0), (306, .iload_n 2, 307, 0), (307, .iadd, 308, 0), (308, .iconst 2, 309, 2), (309, .iastore, 310, 0), (310, .iinc 2 1, 313, 1), (313, .goto (-36), 316, 277), (316, .aload_n 0, 317, 0), (317, .ldc2_w 70, 320, 5), (320, .bipush 8, 322, 8), (322, .invokevirtual 72, 325, 132), (325, .aload_n 0, 326, 0), (326, .ldc2_w 76, 329, 6), (329, .bipush 8, 331, 8), (331, .invokevirtual 72, 334, 132), (334, .aload_n 0, 335, 0), (335, .ldc2_w 78, 338, 7), (338, .bipush 8, 340, 8), (340, .invokevirtual 72, 343, 132), (343, .aload_n 0, 344, 0), (344, .ldc2_w 80, 347, 8), (347, .bipush 8, 349, 8), (349, .invokevirtual 72, 352, 132), (352, .aload_n 0, 353, 0), (353, .ldc2_w 82, 356, 9), (356, .iconst 3, 357, 3), (357, .invokevirtual 72, 360, 132), (360, .aload_n 0, 361, 0), (361, .invokevirtual 84, 364, 133), (364, .pop, 365, 0), (365, .aload_n 0, 366, 0), (366, .iconst 0, 367, 0), (367, .putfield 88, 370, 88), (370, .return_, 371, 0)]
def m_X9_init : aM := (yX9_init, 9, cX9_init, 4, none, k_X9_init)
def k_X9_in : List (Nat × aI) := [(0, .iload_n 0, 1, 0), (1, .iload_n 1, 2, 0), (2, .if_icmp .lt 12, 5, 14), (5, .iload_n 0, 6, 0), (6, .iload_n 2, 7, 0), (7, .if_icmp .gt 7, 10, 14), (10, .iconst 1, 11, 1), (11, .goto 4, 14, 15), (14, .iconst 0, 15, 0), (15, .ireturn, 16, 0)]
def m_X9_in : aM := (yX9_in, 9, cX9_in, 3, (some .boolean), k_X9_in)
def k_X9_bits : List (Nat × aI) := [(0, .iconst 0, 1, 0), (1, .istore_n 1, 2, 0), (2, .iconst 0, 3, 0), (3, .istore_n 2, 4, 0), (4, .iload_n 2, 5, 0), (5, .bipush 30, 7, 30), (7, .if_icmp .ge 17, 10, 24), (10, .iload_n 1, 11, 0), (11, .iload_n 0, 12, 0), (12, .iload_n 2, 13, 0), (13, .ishr, 14, 0), (14, .iconst 1, 15, 1), (15, .iand, 16, 0), (16, .iadd, 17, 0), (17, .istore_n 1, 18, 0), (18, .iinc 2 1, 21, 1), (21, .goto (-17), 24, 4), (24, .iload_n 1, 25, 0), (25, .ireturn, 26, 0)]
def m_X9_bits : aM := (yX9_bits, 9, cX9_bits, 3, (some .int), k_X9_bits)
def k_X9_bring : List (Nat × aI) := [(0, .iconst 0, 1, 0), (1, .istore 5, 3, 0), (3, .iload 5, 5, 0), (5, .iload 4, 7, 0), (7, .if_icmp .ge 21, 10, 28), (10, .aload_n 2, 11, 0), (11, .iload_n 3, 12, 0), (12, .iload 5, 14, 0), (14, .iadd, 15, 0), (15, .aload_n 0, 16, 0), (16, .iload_n 1, 17, 0), (17, .iload 5, 19, 0), (19, .iadd, 20, 0), (20, .iaload, 21, 0), (21, .iastore, 22, 0), (22, .iinc 5 1, 25, 1), (25, .goto (-22), 28, 3), (28, .return_, 29, 0)]
def m_X9_bring : aM := (yX9_bring, 9, cX9_bring, 6, none, k_X9_bring)
def k_X9_tells : List (Nat × aI) := [(0, .iload_n 3, 1, 0), (1, .iconst 1, 2, 1), (2, .isub, 3, 0), (3, .istore 4, 5, 0), (5, .iload 4, 7, 0), (7, .ifCond .lt 40, 10, 47), (10, .aload_n 0, 11, 0), (11, .getfield 7, 14, 68), (14, .aload_n 0, 15, 0), (15, .getfield 88, 18, 88), (18, .lload_n 1, 19, 0), (19, .bipush 8, 21, 8), (21, .iload 4, 23, 0), (23, .imul, 24, 0), (24, .lshr, 25, 0), (25, .ldc2_w 92, 28, 10), (28, .land, 29, 0), (29, .l2i, 30, 0), (30, .iastore, 31, 0), (31, .aload_n 0, 32, 0), (32, .dup, 33, 0), (33, .getfield 88, 36, 88), (36, .iconst 1, 37, 1), (37, .iadd, 38, 0), (38, .putfield 88, 41, 88), (41, .iinc 4 (-1), 44, 1), (44, .goto (-39), 47, 5), (47, .return_, 48, 0)]
def m_X9_tells : aM := (yX9_tells, 9, cX9_tells, 5, none, k_X9_tells)
def k_X9_isMessage : List (Nat × aI) := [(0, .iload_n 1, 1, 0), (1, .iconst 0, 2, 0), (2, .aload_n 0, 3, 0), (3, .getfield 94, 6, 89), (6, .iconst 1, 7, 1), (7, .isub, 8, 0), (8, .invokestatic 97, 11, 134), (11, .ireturn, 12, 0)]
def m_X9_isMessage : aM := (yX9_isMessage, 9, cX9_isMessage, 2, (some .boolean), k_X9_isMessage)
def k_X9_isPlace : List (Nat × aI) := [(0, .iload_n 0, 1, 0), (1, .iconst 0, 2, 0), (2, .iconst 4, 3, 4), (3, .invokestatic 97, 6, 134), (6, .ireturn, 7, 0)]
def m_X9_isPlace : aM := (yX9_isPlace, 9, cX9_isPlace, 1, (some .boolean), k_X9_isPlace)
def k_X9_here : List (Nat × aI) := [(0, .aload_n 0, 1, 0), (1, .getfield 101, 4, 90), (4, .aload_n 0, 5, 0), (5, .getfield 88, 8, 88), (8, .if_icmp .ge 15, 11, 23), (11, .aload_n 0, 12, 0), (12, .getfield 7, 15, 68), (15, .aload_n 0, 16, 0), (16, .getfield 101, 19, 90), (19, .iaload, 20, 0), (20, .goto 4, 23, 24), (23, .iconst (-1), 24, 1), (24, .ireturn, 25, 0)]
def m_X9_here : aM := (yX9_here, 9, cX9_here, 1, (some .int), k_X9_here)
def k_X9_figure : List (Nat × aI) := [(0, .aload_n 0, 1, 0), (1, .invokevirtual 104, 4, 135), (4, .bipush 48, 6, 48), (6, .isub, 7, 0), (7, .istore_n 2, 8, 0), (8, .iload_n 2, 9, 0), (9, .iconst 0, 10, 0), (10, .iload_n 1, 11, 0), (11, .invokestatic 97, 14, 134), (14, .ifCond .ne 10, 17, 24), (17, .aload_n 0, 18, 0), (18, .iconst 1, 19, 1), (19, .putfield 107, 22, 91), (22, .iconst 0, 23, 0), (23, .ireturn, 24, 0), (24, .aload_n 0, 25, 0), (25, .dup, 26, 0), (26, .getfield 101, 29, 90), (29, .iconst 1, 30, 1), (30, .iadd, 31, 0), (31, .putfield 101, 34, 90), (34, .iload_n 2, 35, 0), (35, .ireturn, 36, 0)]
def m_X9_figure : aM := (yX9_figure, 9, cX9_figure, 3, (some .int), k_X9_figure)
def k_X9_sign : List (Nat × aI) := [(0, .aload_n 0, 1, 0), (1, .aload_n 0, 2, 0), (2, .getfield 107, 5, 91), (5, .ifCond .ne 11, 8, 16), (8, .aload_n 0, 9, 0), (9, .invokevirtual 104, 12, 135), (12, .iload_n 1, 13, 0), (13, .if_icmp .eq 7, 16, 20), (16, .iconst 1, 17, 1), (17, .goto 4, 20, 21), (20, .iconst 0, 21, 0), (21, .putfield 107, 24, 91), (24, .aload_n 0, 25, 0), (25, .dup, 26, 0), (26, .getfield 101, 29, 90), (29, .iconst 1, 30, 1), (30, .iadd, 31, 0), (31, .putfield 101, 34, 90), (34, .return_, 35, 0)]
def m_X9_sign : aM := (yX9_sign, 9, cX9_sign, 2, none, k_X9_sign)
def k_X9_signOf : List (Nat × aI) := [(0, .iload_n 0, 1, 0), (1, .lookupswitch 70 #[(2, 59), (9, 62), (16, 59), (20, 64), (23, 67), (25, 67)], 60, 0), (60, .bipush 8, 62, 8), (62, .ireturn, 63, 0), (63, .iconst 5, 64, 5), (64, .ireturn, 65, 0), (65, .bipush 18, 67, 18), (67, .ireturn, 68, 0), (68, .bipush 15, 70, 15), (70, .ireturn, 71, 0), (71, .iload_n 0, 72, 0), (72, .iload_n 0, 73, 0), (73, .iconst 2, 74, 2), (74, .if_icmp .le 7, 77, 81), (77, .iconst 1, 78, 1), (78, .goto 4, 81, 82), (81, .iconst 0, 82, 0), (82, .isub, 83, 0), (83, .iload_n 0, 84, 0), (84, .bipush 9, 86, 9), (86, .if_icmp .le 7, 89, 93), (89, .iconst 1, 90, 1), (90, .goto 4, 93, 94), (93, .iconst 0, 94, 0), (94, .isub, 95, 0), (95, .iload_n 0, 96, 0), (96, .bipush 16, 98, 16), (98, .if_icmp .le 7, 101, 105), (101, .iconst 1, 102, 1), (102, .goto 4, 105, 106), (105, .iconst 0, 106, 0), (106, .isub, 107, 0), (107, .iload_n 0, 108, 0), (108, .bipush 20, 110, 20), (110, .if_icmp .le 7, 113, 117), (113, .iconst 1, 114, 1), (114, .goto 4, 117, 118), (117, .iconst 0, 118, 0), (118, .isub, 119, 0), (119, .iload_n 0, 120, 0), (120, .bipush 23, 122, 23), (122, .if_icmp .le 7, 125, 129), (125, .iconst 1, 126, 1), (126, .goto 4, 129, 130), (129, .iconst 0, 130, 0), (130, .isub, 131, 0), (131, .ireturn, 132, 0)]
def m_X9_signOf : aM := (yX9_signOf, 9, cX9_signOf, 1, (some .int), k_X9_signOf)
def k_X9_readMessage : List (Nat × aI) := [(0, .iconst 0, 1, 0), (1, .istore_n 1, 2, 0), (2, .aload_n 0, 3, 0), (3, .invokevirtual 104, 6, 135), (6, .bipush 65, 8, 65), (8, .bipush 90, 10, 90), (10, .invokestatic 97, 13, 134), (13, .ifCond .eq 58, 16, 71), (16, .iload_n 1, 17, 0), (17, .bipush 8, 19, 8), (19, .if_icmp .ge 52, 22, 71), (22, .aload_n 0, 23, 0), (23, .getfield 111, 26, 92), (26, .bipush 6, 28, 6), (28, .if_icmp .ge 43, 31, 71), (31, .aload_n 0, 32, 0), (32, .getfield 46, 35, 80), (35, .bipush 8, 37, 8), (37, .aload_n 0, 38, 0), (38, .getfield 111, 41, 92), (41, .imul, 42, 0), (42, .iload_n 1, 43, 0), (43, .iadd, 44, 0), (44, .aload_n 0, 45, 0), (45, .invokevirtual 104, 48, 135), (48, .bipush 65, 50, 65), (50, .isub, 51, 0), (51, .invokestatic 114, 54, 136), (54, .iastore, 55, 0), (55, .iinc 1 1, 58, 1), (58, .aload_n 0, 59, 0), (59, .dup, 60, 0), (60, .getfield 101, 63, 90), (63, .iconst 1, 64, 1), (64, .iadd, 65, 0), (65, .putfield 101, 68, 90), (68, .goto (-66), 71, 2), (71, .iload_n 1, 72, 0), (72, .ifCond .ne 9, 75, 81), (75, .aload_n 0, 76, 0), (76, .iconst 1, 77, 1), (77, .putfield 107, 80, 91), (80, .return_, 81, 0), (81, .aload_n 0, 82, 0), (82, .getfield 43, 85, 79), (85, .aload_n 0, 86, 0), (86, .getfield 111, 89, 92), (89, .iload_n 1, 90, 0), (90, .iastore, 91, 0), (91, .aload_n 0, 92, 0), (92, .dup, 93, 0), (93, .getfield 111, 96, 92), (96, .iconst 1, 97, 1), (97, .iadd, 98, 0), (98, .putfield 111, 101, 92), (101, .aload_n 0, 102, 0), (102, .bipush 59, 104, 59), (104, .invokevirtual 118, 107, 137), (107, .return_, 108, 0)]
def m_X9_readMessage : aM := (yX9_readMessage, 9, cX9_readMessage, 2, none, k_X9_readMessage)
def k_X9_readItem : List (Nat × aI) := [(0, .aload_n 0, 1, 0), (1, .invokevirtual 104, 4, 135), (4, .istore_n 1, 5, 0), (5, .aload_n 0, 6, 0), (6, .dup, 7, 0), (7, .getfield 101, 10, 90), (10, .iconst 1, 11, 1), (11, .iadd, 12, 0), (12, .putfield 101, 15, 90), (15, .iload_n 1, 16, 0), (16, .bipush 110, 18, 110), (18, .if_icmp .ne 40, 21, 58), (21, .aload_n 0, 22, 0), (22, .iconst 4, 23, 4), (23, .invokevirtual 122, 26, 138), (26, .istore_n 2, 27, 0), (27, .aload_n 0, 28, 0), (28, .bipush 44, 30, 44), (30, .invokevirtual 118, 33, 137), (33, .aload_n 0, 34, 0), (34, .iconst 5, 35, 5), (35, .invokevirtual 122, 38, 138), (38, .istore_n 3, 39, 0), (39, .aload_n 0, 40, 0), (40, .bipush 59, 42, 59), (42, .invokevirtual 118, 45, 137), (45, .aload_n 0, 46, 0), (46, .getfield 40, 49, 78), (49, .bipush 14, 51, 14), (51, .iload_n 2, 52, 0), (52, .iadd, 53, 0), (53, .iload_n 3, 54, 0), (54, .iastore, 55, 0), (55, .goto 106, 58, 161), (58, .iload_n 1, 59, 0), (59, .bipush 99, 61, 99), (61, .if_icmp .ne 25, 64, 86), (64, .aload_n 0, 65, 0), (65, .getfield 40, 68, 78), (68, .iconst 0, 69, 0), (69, .aload_n 0, 70, 0), (70, .iconst 4, 71, 4), (71, .invokevirtual 122, 74, 138), (74, .iadd, 75, 0), (75, .iconst 1, 76, 1), (76, .iastore, 77, 0), (77, .aload_n 0, 78, 0), (78, .bipush 59, 80, 59), (80, .invokevirtual 118, 83, 137), (83, .goto 78, 86, 161), (86, .iload_n 1, 87, 0), (87, .bipush 116, 89, 116), (89, .if_icmp .ne 25, 92, 114), (92, .aload_n 0, 93, 0), (93, .getfield 40, 96, 78), (96, .iconst 5, 97, 5), (97, .aload_n 0, 98, 0), (98, .iconst 4, 99, 4), (99, .invokevirtual 122, 102, 138), (102, .iadd, 103, 0), (103, .iconst 1, 104, 1), (104, .iastore, 105, 0), (105, .aload_n 0, 106, 0), (106, .bipush 59, 108, 59), (108, .invokevirtual 118, 111, 137), (111, .goto 50, 114, 161), (114, .iload_n 1, 115, 0), (115, .bipush 106, 117, 106), (117, .if_icmp .ne 26, 120, 143), (120, .aload_n 0, 121, 0), (121, .getfield 40, 124, 78), (124, .bipush 10, 126, 10), (126, .aload_n 0, 127, 0), (127, .iconst 3, 128, 3), (128, .invokevirtual 122, 131, 138), (131, .iadd, 132, 0), (132, .iconst 1, 133, 1), (133, .iastore, 134, 0), (134, .aload_n 0, 135, 0), (135, .bipush 59, 137, 59), (137, .invokevirtual 118, 140, 137), (140, .goto 21, 143, 161), (143, .iload_n 1, 144, 0), (144, .bipush 109, 146, 109), (146, .if_icmp .ne 10, 149, 156), (149, .aload_n 0, 150, 0), (150, .invokevirtual 125, 153, 139), (153, .goto 8, 156, 161), (156, .aload_n 0, 157, 0), (157, .iconst 1, 158, 1), (158, .putfield 107, 161, 91), (161, .return_, 162, 0)]
def m_X9_readItem : aM := (yX9_readItem, 9, cX9_readItem, 4, none, k_X9_readItem)
def k_X9_reading : List (Nat × aI) := [(0, .aload_n 0, 1, 0), (1, .iconst 0, 2, 0), (2, .putfield 101, 5, 90), (5, .aload_n 0, 6, 0), (6, .iconst 0, 7, 0), (7, .putfield 107, 10, 91), (10, .aload_n 0, 11, 0), (11, .iconst 0, 12, 0), (12, .putfield 111, 15, 92), (15, .iconst 0, 16, 0), (16, .istore_n 1, 17, 0), (17, .iload_n 1, 18, 0), (18, .bipush 29, 20, 29), (20, .if_icmp .ge 16, 23, 36), (23, .aload_n 0, 24, 0), (24, .getfield 40, 27, 78), (27, .iload_n 1, 28, 0), (28, .iconst 0, 29, 0), (29, .iastore, 30, 0), (30, .iinc 1 1, 33, 1), (33, .goto (-16), 36, 17), (36, .aload_n 0, 37, 0), (37, .getfield 101, 40, 90), (40, .aload_n 0, 41, 0), (41, .getfield 88, 44, 88), (44, .if_icmp .ge 24, 47, 68), (47, .aload_n 0, 48, 0), (48, .getfield 101, 51, 90), (51, .istore_n 1, 52, 0), (52, .aload_n 0, 53, 0), (53, .invokevirtual 128, 56, 140), (56, .aload_n 0, 57, 0), (57, .getfield 107, 60, 91), (60, .ifCond .eq 5, 63, 65), (63, .iload_n 1, 64, 0), (64, .ireturn, 65, 0), (65, .goto (-29), 68, 36), (68, .bipush (-4), 70, 4), (70, .ireturn, 71, 0)]
def m_X9_reading : aM := (yX9_reading, 9, cX9_reading, 2, (some .int), k_X9_reading)
def k_X9_write : List (Nat × aI) := [(0, .iload_n 1, 1, 0), (1, .bipush 32, 3, 32), (3, .bipush 126, 5, 126), (5, .invokestatic 97, 8, 134), (8, .ifCond .ne 5, 11, 13), (11, .iconst (-1), 12, 1), (12, .ireturn, 13, 0), (13, .aload_n 0, 14, 0), (14, .getfield 88, 17, 88), (17, .sipush 200, 20, 200), (20, .if_icmp .ne 6, 23, 26), (23, .bipush (-3), 25, 3), (25, .ireturn, 26, 0), (26, .aload_n 0, 27, 0), (27, .getfield 7, 30, 68), (30, .aload_n 0, 31, 0), (31, .getfield 88, 34, 88), (34, .iload_n 1, 35, 0), (35, .iastore, 36, 0), (36, .aload_n 0, 37, 0), (37, .dup, 38, 0), (38, .getfield 88, 41, 88), (41, .iconst 1, 42, 1), (42, .iadd, 43, 0), (43, .putfield 88, 46, 88), (46, .aload_n 0, 47, 0), (47, .getfield 88, 50, 88), (50, .ireturn, 51, 0)]
def m_X9_write : aM := (yX9_write, 9, cX9_write, 2, (some .int), k_X9_write)
def k_X9_wipe : List (Nat × aI) := [(0, .aload_n 0, 1, 0), (1, .getfield 88, 4, 88), (4, .istore_n 1, 5, 0), (5, .aload_n 0, 6, 0), (6, .iconst 0, 7, 0), (7, .putfield 88, 10, 88), (10, .iload_n 1, 11, 0), (11, .ireturn, 12, 0)]
def m_X9_wipe : aM := (yX9_wipe, 9, cX9_wipe, 2, (some .int), k_X9_wipe)
def k_X9_fault : List (Nat × aI) := [(0, .aload_n 0, 1, 0), (1, .invokevirtual 131, 4, 141), (4, .ireturn, 5, 0)]
def m_X9_fault : aM := (yX9_fault, 9, cX9_fault, 1, (some .int), k_X9_fault)
def k_X9_lay : List (Nat × aI) := [(0, .aload_n 0, 1, 0), (1, .invokevirtual 131, 4, 141), (4, .bipush (-4), 6, 4), (6, .if_icmp .ne 10, 9, 16), (9, .aload_n 0, 10, 0), (10, .getfield 111, 13, 92), (13, .ifCond .ne 6, 16, 19), (16, .bipush (-2), 18, 2), (18, .ireturn, 19, 0), (19, .aload_n 0, 20, 0), (20, .aload_n 0, 21, 0), (21, .getfield 111, 24, 92), (24, .putfield 94, 27, 89), (27, .aload_n 0, 28, 0), (28, .getfield 43, 31, 79), (31, .iconst 0, 32, 0), (32, .aload_n 0, 33, 0), (33, .getfield 16, 36, 70), (36, .iconst 0, 37, 0), (37, .bipush 6, 39, 6), (39, .invokestatic 134, 42, 142), (42, .aload_n 0, 43, 0), (43, .getfield 46, 46, 80), (46, .iconst 0, 47, 0), (47, .aload_n 0, 48, 0), (48, .getfield 19, 51, 71), (51, .iconst 0, 52, 0), (52, .bipush 48, 54, 48), (54, .invokestatic 134, 57, 142), (57, .aload_n 0, 58, 0), (58, .getfield 40, 61, 78), (61, .iconst 0, 62, 0), (62, .aload_n 0, 63, 0), (63, .getfield 22, 66, 72), (66, .iconst 0, 67, 0), (67, .bipush 29, 69, 29), (69, .invokestatic 134, 72, 142), (72, .aload_n 0, 73, 0), (73, .iconst 0, 74, 0), (74, .putfield 138, 77, 93), (77, .aload_n 0, 78, 0), (78, .iconst 0, 79, 0), (79, .putfield 141, 82, 94), (82, .aload_n 0, 83, 0), (83, .iconst 0, 84, 0), (84, .putfield 144, 87, 95), (87, .aload_n 0, 88, 0), (88, .iconst 0, 89, 0), (89, .putfield 147, 92, 96), (92, .aload_n 0, 93, 0), (93, .getfield 94, 96, 89), (96, .ireturn, 97, 0)]
def m_X9_lay : aM := (yX9_lay, 9, cX9_lay, 1, (some .int), k_X9_lay)
def k_X9_needle : List (Nat × aI) := [(0, .iload_n 1, 1, 0), (1, .invokestatic 150, 4, 143), (4, .ifCond .eq 12, 7, 16), (7, .iload_n 2, 8, 0), (8, .iconst 0, 9, 0), (9, .iconst 2, 10, 2), (10, .invokestatic 97, 13, 134), (13, .ifCond .ne 5, 16, 18), (16, .iconst (-1), 17, 1), (17, .ireturn, 18, 0), (18, .aload_n 0, 19, 0), (19, .getfield 22, 22, 72), (22, .iload_n 2, 23, 0), (23, .ifCond .ne 10, 26, 33), (26, .bipush 14, 28, 14), (28, .iload_n 1, 29, 0), (29, .iadd, 30, 0), (30, .goto 19, 33, 49), (33, .iload_n 2, 34, 0), (34, .iconst 1, 35, 1), (35, .if_icmp .ne 10, 38, 45), (38, .bipush 19, 40, 19), (40, .iload_n 1, 41, 0), (41, .iadd, 42, 0), (42, .goto 7, 45, 49), (45, .bipush 24, 47, 24), (47, .iload_n 1, 48, 0), (48, .iadd, 49, 0), (49, .iaload, 50, 0), (50, .ireturn, 51, 0)]
def m_X9_needle : aM := (yX9_needle, 9, cX9_needle, 3, (some .int), k_X9_needle)
def k_X9_wire : List (Nat × aI) := [(0, .iload_n 1, 1, 0), (1, .invokestatic 150, 4, 143), (4, .ifCond .eq 12, 7, 16), (7, .iload_n 2, 8, 0), (8, .iconst 0, 9, 0), (9, .iconst 2, 10, 2), (10, .invokestatic 97, 13, 134), (13, .ifCond .ne 5, 16, 18), (16, .iconst (-1), 17, 1), (17, .ireturn, 18, 0), (18, .iload_n 2, 19, 0), (19, .ifCond .ne 14, 22, 33), (22, .aload_n 0, 23, 0), (23, .getfield 22, 26, 72), (26, .iconst 0, 27, 0), (27, .iload_n 1, 28, 0), (28, .iadd, 29, 0), (29, .iaload, 30, 0), (30, .goto 37, 33, 67), (33, .iload_n 2, 34, 0), (34, .iconst 1, 35, 1), (35, .if_icmp .ne 14, 38, 49), (38, .aload_n 0, 39, 0), (39, .getfield 22, 42, 72), (42, .iconst 5, 43, 5), (43, .iload_n 1, 44, 0), (44, .iadd, 45, 0), (45, .iaload, 46, 0), (46, .goto 21, 49, 67), (49, .iload_n 1, 50, 0), (50, .iconst 4, 51, 4), (51, .if_icmp .ne 7, 54, 58), (54, .iconst 0, 55, 0), (55, .goto 12, 58, 67), (58, .aload_n 0, 59, 0), (59, .getfield 22, 62, 72), (62, .bipush 10, 64, 10), (64, .iload_n 1, 65, 0), (65, .iadd, 66, 0), (66, .iaload, 67, 0), (67, .ireturn, 68, 0)]
def m_X9_wire : aM := (yX9_wire, 9, cX9_wire, 3, (some .int), k_X9_wire)
def k_X9_spelt : List (Nat × aI) := [(0, .aload_n 0, 1, 0), (1, .iload_n 1, 2, 0), (2, .invokevirtual 154, 5, 144), (5, .ifCond .eq 13, 8, 18), (8, .iload_n 2, 9, 0), (9, .iconst (-1), 10, 1), (10, .bipush 7, 12, 7), (12, .invokestatic 97, 15, 134), (15, .ifCond .ne 5, 18, 20), (18, .iconst (-1), 19, 1), (19, .ireturn, 20, 0), (20, .iload_n 2, 21, 0), (21, .ifCond .ge 12, 24, 33), (24, .aload_n 0, 25, 0), (25, .getfield 16, 28, 70), (28, .iload_n 1, 29, 0), (29, .iaload, 30, 0), (30, .goto 29, 33, 59), (33, .iload_n 2, 34, 0), (34, .aload_n 0, 35, 0), (35, .getfield 16, 38, 70), (38, .iload_n 1, 39, 0), (39, .iaload, 40, 0), (40, .if_icmp .ge 17, 43, 57), (43, .aload_n 0, 44, 0), (44, .getfield 19, 47, 71), (47, .bipush 8, 49, 8), (49, .iload_n 1, 50, 0), (50, .imul, 51, 0), (51, .iload_n 2, 52, 0), (52, .iadd, 53, 0), (53, .iaload, 54, 0), (54, .goto 5, 57, 59), (57, .bipush (-4), 59, 4), (59, .ireturn, 60, 0)]
def m_X9_spelt : aM := (yX9_spelt, 9, cX9_spelt, 3, (some .int), k_X9_spelt)
def k_X9_other : List (Nat × aI) := [(0, .iload_n 0, 1, 0), (1, .ifCond .ne 7, 4, 8), (4, .iconst 0, 5, 0), (5, .goto 6, 8, 11), (8, .iconst 3, 9, 3), (9, .iload_n 0, 10, 0), (10, .isub, 11, 0), (11, .ireturn, 12, 0)]
def m_X9_other : aM := (yX9_other, 9, cX9_other, 1, (some .int), k_X9_other)
def k_X9_carries : List (Nat × aI) := [(0, .iconst 0, 1, 0), (1, .istore_n 3, 2, 0), (2, .iload_n 3, 3, 0), (3, .iconst 5, 4, 5), (4, .if_icmp .ge 59, 7, 63), (7, .aload_n 0, 8, 0), (8, .getfield 13, 11, 69), (11, .iconst 5, 12, 5), (12, .iload_n 2, 13, 0), (13, .imul, 14, 0), (14, .iload_n 3, 15, 0), (15, .iadd, 16, 0), (16, .iaload, 17, 0), (17, .istore 4, 19, 0), (19, .aload_n 0, 20, 0), (20, .getfield 49, 23, 81), (23, .iload_n 3, 24, 0), (24, .aload_n 1, 25, 0), (25, .iconst 0, 26, 0), (26, .iload_n 3, 27, 0), (27, .iadd, 28, 0), (28, .iaload, 29, 0), (29, .iconst 1, 30, 1), (30, .if_icmp .ne 7, 33, 37), (33, .iconst 0, 34, 0), (34, .goto 22, 37, 56), (37, .aload_n 1, 38, 0), (38, .iconst 5, 39, 5), (39, .iload_n 3, 40, 0), (40, .iadd, 41, 0), (41, .iaload, 42, 0), (42, .iconst 1, 43, 1), (43, .if_icmp .ne 11, 46, 54), (46, .iload 4, 48, 0), (48, .invokestatic 157, 51, 145), (51, .goto 5, 54, 56), (54, .iload 4, 56, 0), (56, .iastore, 57, 0), (57, .iinc 3 1, 60, 1), (60, .goto (-58), 63, 2), (63, .iconst 0, 64, 0), (64, .istore_n 3, 65, 0), (65, .iload_n 3, 66, 0), (66, .iconst 5, 67, 5), (67, .if_icmp .ge 144, 70, 211), (70, .iload_n 3, 71, 0), (71, .istore 4, 73, 0), (73, .iload 4, 75, 0), (75, .iconst 4, 76, 4), (76, .if_icmp .ge 20, 79, 96), (79, .aload_n 1, 80, 0), (80, .bipush 10, 82, 10), (82, .iload 4, 84, 0), (84, .iadd, 85, 0), (85, .iaload, 86, 0), (86, .iconst 1, 87, 1), (87, .if_icmp .ne 9, 90, 96), (90, .iinc 4 1, 93, 1), (93, .goto (-20), 96, 73), (96, .iconst 0, 97, 0), (97, .istore 5, 99, 0), (99, .iload_n 3, 100, 0), (100, .istore 6, 102, 0), (102, .iload 6, 104, 0), (104, .iload 4, 106, 0), (106, .if_icmp .gt 45, 109, 151), (109, .iload 5, 111, 0), (111, .aload_n 0, 112, 0), (112, .getfield 49, 115, 81), (115, .iload 6, 117, 0), (117, .iaload, 118, 0), (118, .iconst 1, 119, 1), (119, .if_icmp .ne 7, 122, 126), (122, .iconst 1, 123, 1), (123, .goto 19, 126, 142), (126, .aload_n 0, 127, 0), (127, .getfield 49, 130, 81), (130, .iload 6, 132, 0), (132, .iaload, 133, 0), (133, .iconst 2, 134, 2), (134, .if_icmp .ne 7, 137, 141), (137, .iconst (-1), 138, 1), (138, .goto 4, 141, 142), (141, .iconst 0, 142, 0), (142, .iadd, 143, 0), (143, .istore 5, 145, 0), (145, .iinc 6 1, 148, 1), (148, .goto (-46), 151, 102), (151, .iload_n 3, 152, 0), (152, .istore 6, 154, 0), (154, .iload 6, 156, 0), (156, .iload 4, 158, 0), (158, .if_icmp .gt 45, 161, 203), (161, .aload_n 0, 162, 0), (162, .getfield 52, 165, 82), (165, .iload 6, 167, 0), (167, .aload_n 1, 168, 0), (168, .iconst 0, 169, 0), (169, .iload 6, 171, 0), (171, .iadd, 172, 0), (172, .iaload, 173, 0), (173, .iconst 1, 174, 1), (174, .if_icmp .eq 8, 177, 182), (177, .iload 5, 179, 0), (179, .ifCond .ne 7, 182, 186), (182, .iconst 0, 183, 0), (183, .goto 13, 186, 196), (186, .iload 5, 188, 0), (188, .ifCond .le 7, 191, 195), (191, .iconst 1, 192, 1), (192, .goto 4, 195, 196), (195, .iconst 2, 196, 2), (196, .iastore, 197, 0), (197, .iinc 6 1, 200, 1), (200, .goto (-46), 203, 154), (203, .iload 4, 205, 0), (205, .iconst 1, 206, 1), (206, .iadd, 207, 0), (207, .istore_n 3, 208, 0), (208, .goto (-143), 211, 65), (211, .return_, 212, 0)]
def m_X9_carries : aM := (yX9_carries, 9, cX9_carries, 7, none, k_X9_carries)
def k_X9_stiff : List (Nat × aI) := [(0, .aload_n 0, 1, 0), (1, .getfield 52, 4, 82), (4, .iload_n 2, 5, 0), (5, .iaload, 6, 0), (6, .aload_n 1, 7, 0), (7, .bipush 24, 9, 24), (9, .iload_n 2, 10, 0), (10, .iadd, 11, 0), (11, .iaload, 12, 0), (12, .if_icmp .ne 12, 15, 24), (15, .aload_n 0, 16, 0), (16, .getfield 52, 19, 82), (19, .iload_n 2, 20, 0), (20, .iaload, 21, 0), (21, .goto 4, 24, 25), (24, .iconst 0, 25, 0), (25, .ireturn, 26, 0)]
def m_X9_stiff : aM := (yX9_stiff, 9, cX9_stiff, 3, (some .int), k_X9_stiff)
def k_X9_stands : List (Nat × aI) := [(0, .aload_n 0, 1, 0), (1, .getfield 52, 4, 82), (4, .iload_n 2, 5, 0), (5, .iaload, 6, 0), (6, .istore_n 3, 7, 0), (7, .aload_n 1, 8, 0), (8, .bipush 14, 10, 14), (10, .iload_n 2, 11, 0), (11, .iadd, 12, 0), (12, .iaload, 13, 0), (13, .tableswitch 103 1 5 #[35, 42, 57, 78, 88], 48, 0), (48, .aload_n 0, 49, 0), (49, .aload_n 1, 50, 0), (50, .iload_n 2, 51, 0), (51, .invokevirtual 160, 54, 146), (54, .ireturn, 55, 0), (55, .iload_n 3, 56, 0), (56, .ifCond .ne 12, 59, 68), (59, .aload_n 1, 60, 0), (60, .bipush 24, 62, 24), (62, .iload_n 2, 63, 0), (63, .iadd, 64, 0), (64, .iaload, 65, 0), (65, .goto 4, 68, 69), (68, .iload_n 3, 69, 0), (69, .ireturn, 70, 0), (70, .iload_n 3, 71, 0), (71, .ifCond .ne 7, 74, 78), (74, .iload_n 2, 75, 0), (75, .ifCond .ne 7, 78, 82), (78, .iload_n 3, 79, 0), (79, .goto 11, 82, 90), (82, .aload_n 0, 83, 0), (83, .getfield 52, 86, 82), (86, .iload_n 2, 87, 0), (87, .iconst 1, 88, 1), (88, .isub, 89, 0), (89, .iaload, 90, 0), (90, .ireturn, 91, 0), (91, .aload_n 0, 92, 0), (92, .aload_n 1, 93, 0), (93, .iload_n 2, 94, 0), (94, .invokevirtual 160, 97, 146), (97, .invokestatic 157, 100, 145), (100, .ireturn, 101, 0), (101, .iload_n 3, 102, 0), (102, .ifCond .ne 12, 105, 114), (105, .aload_n 1, 106, 0), (106, .bipush 19, 108, 19), (108, .iload_n 2, 109, 0), (109, .iadd, 110, 0), (110, .iaload, 111, 0), (111, .goto 4, 114, 115), (114, .iload_n 3, 115, 0), (115, .ireturn, 116, 0), (116, .iload_n 3, 117, 0), (117, .ireturn, 118, 0)]
def m_X9_stands : aM := (yX9_stands, 9, cX9_stands, 4, (some .int), k_X9_stands)
def k_X9_beat : List (Nat × aI) := [(0, .aload_n 0, 1, 0), (1, .aload_n 1, 2, 0), (2, .iload_n 2, 3, 0), (3, .invokevirtual 164, 6, 147), (6, .iconst 0, 7, 0), (7, .istore_n 3, 8, 0), (8, .iload_n 3, 9, 0), (9, .iconst 5, 10, 5), (10, .if_icmp .ge 21, 13, 31), (13, .aload_n 1, 14, 0), (14, .bipush 19, 16, 19), (16, .iload_n 3, 17, 0), (17, .iadd, 18, 0), (18, .aload_n 0, 19, 0), (19, .aload_n 1, 20, 0), (20, .iload_n 3, 21, 0), (21, .invokevirtual 168, 24, 148), (24, .iastore, 25, 0), (25, .iinc 3 1, 28, 1), (28, .goto (-20), 31, 8), (31, .iconst 0, 32, 0), (32, .istore_n 3, 33, 0), (33, .iload_n 3, 34, 0), (34, .iconst 5, 35, 5), (35, .if_icmp .ge 21, 38, 56), (38, .aload_n 1, 39, 0), (39, .bipush 24, 41, 24), (41, .iload_n 3, 42, 0), (42, .iadd, 43, 0), (43, .aload_n 0, 44, 0), (44, .getfield 52, 47, 82), (47, .iload_n 3, 48, 0), (48, .iaload, 49, 0), (49, .iastore, 50, 0), (50, .iinc 3 1, 53, 1), (53, .goto (-20), 56, 33), (56, .return_, 57, 0)]
def m_X9_beat : aM := (yX9_beat, 9, cX9_beat, 4, none, k_X9_beat)
def k_X9_isSign : List (Nat × aI) := [(0, .iconst 1, 1, 1), (1, .istore_n 3, 2, 0), (2, .iconst 0, 3, 0), (3, .istore 4, 5, 0), (5, .iload 4, 7, 0), (7, .iconst 5, 8, 5), (8, .if_icmp .ge 40, 11, 48), (11, .iload_n 3, 12, 0), (12, .ifCond .eq 28, 15, 40), (15, .aload_n 1, 16, 0), (16, .bipush 19, 18, 19), (18, .iload 4, 20, 0), (20, .iadd, 21, 0), (21, .iaload, 22, 0), (22, .aload_n 0, 23, 0), (23, .getfield 13, 26, 69), (26, .iconst 5, 27, 5), (27, .iload_n 2, 28, 0), (28, .imul, 29, 0), (29, .iload 4, 31, 0), (31, .iadd, 32, 0), (32, .iaload, 33, 0), (33, .if_icmp .ne 7, 36, 40), (36, .iconst 1, 37, 1), (37, .goto 4, 40, 41), (40, .iconst 0, 41, 0), (41, .istore_n 3, 42, 0), (42, .iinc 4 1, 45, 1), (45, .goto (-40), 48, 5), (48, .iload_n 3, 49, 0), (49, .ireturn, 50, 0)]
def m_X9_isSign : aM := (yX9_isSign, 9, cX9_isSign, 5, (some .boolean), k_X9_isSign)
def k_X9_readOf : List (Nat × aI) := [(0, .iconst 0, 1, 0), (1, .istore_n 2, 2, 0), (2, .iload_n 2, 3, 0), (3, .bipush 30, 5, 30), (5, .if_icmp .gt 20, 8, 25), (8, .aload_n 0, 9, 0), (9, .aload_n 1, 10, 0), (10, .iload_n 2, 11, 0), (11, .invokevirtual 171, 14, 149), (14, .ifCond .eq 5, 17, 19), (17, .iload_n 2, 18, 0), (18, .ireturn, 19, 0), (19, .iinc 2 1, 22, 1), (22, .goto (-20), 25, 2), (25, .bipush 31, 27, 31), (27, .ireturn, 28, 0)]
def m_X9_readOf : aM := (yX9_readOf, 9, cX9_readOf, 3, (some .int), k_X9_readOf)
def k_X9_notes : List (Nat × aI) := [(0, .aload_n 0, 1, 0), (1, .getfield 138, 4, 93), (4, .bipush 8, 6, 8), (6, .if_icmp .ne 30, 9, 36), (9, .aload_n 0, 10, 0), (10, .getfield 28, 13, 74), (13, .bipush 29, 15, 29), (15, .aload_n 0, 16, 0), (16, .getfield 28, 19, 74), (19, .iconst 0, 20, 0), (20, .sipush 203, 23, 203), (23, .invokestatic 134, 26, 142), (26, .aload_n 0, 27, 0), (27, .dup, 28, 0), (28, .getfield 138, 31, 93), (31, .iconst 1, 32, 1), (32, .isub, 33, 0), (33, .putfield 138, 36, 93), (36, .aload_n 0, 37, 0), (37, .getfield 22, 40, 72), (40, .iconst 0, 41, 0), (41, .aload_n 0, 42, 0), (42, .getfield 28, 45, 74), (45, .bipush 29, 47, 29), (47, .aload_n 0, 48, 0), (48, .getfield 138, 51, 93), (51, .imul, 52, 0), (52, .bipush 29, 54, 29), (54, .invokestatic 134, 57, 142), (57, .aload_n 0, 58, 0), (58, .dup, 59, 0), (59, .getfield 138, 62, 93), (62, .iconst 1, 63, 1), (63, .iadd, 64, 0), (64, .putfield 138, 67, 93), (67, .return_, 68, 0)]
def m_X9_notes : aM := (yX9_notes, 9, cX9_notes, 1, none, k_X9_notes)
def k_X9_sum : List (Nat × aI) := [(0, .iconst 0, 1, 0), (1, .istore_n 3, 2, 0), (2, .iconst 0, 3, 0), (3, .istore 4, 5, 0), (5, .iload 4, 7, 0), (7, .iload_n 2, 8, 0), (8, .if_icmp .ge 18, 11, 26), (11, .iload_n 3, 12, 0), (12, .aload_n 0, 13, 0), (13, .iload_n 1, 14, 0), (14, .iload 4, 16, 0), (16, .iadd, 17, 0), (17, .iaload, 18, 0), (18, .iadd, 19, 0), (19, .istore_n 3, 20, 0), (20, .iinc 4 1, 23, 1), (23, .goto (-18), 26, 5), (26, .iload_n 3, 27, 0), (27, .ireturn, 28, 0)]
def m_X9_sum : aM := (yX9_sum, 9, cX9_sum, 5, (some .int), k_X9_sum)
def k_X9_send : List (Nat × aI) := [(0, .iload_n 1, 1, 0), (1, .iconst 0, 2, 0), (2, .bipush 30, 4, 30), (4, .invokestatic 97, 7, 134), (7, .ifCond .ne 5, 10, 12), (10, .iconst (-1), 11, 1), (11, .ireturn, 12, 0), (12, .aload_n 0, 13, 0), (13, .invokevirtual 175, 16, 150), (16, .aload_n 0, 17, 0), (17, .aload_n 0, 18, 0), (18, .getfield 22, 21, 72), (21, .iload_n 1, 22, 0), (22, .invokevirtual 178, 25, 151), (25, .aload_n 0, 26, 0), (26, .aload_n 0, 27, 0), (27, .getfield 22, 30, 72), (30, .invokevirtual 181, 33, 152), (33, .ireturn, 34, 0)]
def m_X9_send : aM := (yX9_send, 9, cX9_send, 2, (some .int), k_X9_send)
def k_X9_cut : List (Nat × aI) := [(0, .iload_n 1, 1, 0), (1, .invokestatic 150, 4, 143), (4, .ifCond .ne 5, 7, 9), (7, .iconst (-1), 8, 1), (8, .ireturn, 9, 0), (9, .aload_n 0, 10, 0), (10, .getfield 22, 13, 72), (13, .iconst 0, 14, 0), (14, .iload_n 1, 15, 0), (15, .iadd, 16, 0), (16, .iaload, 17, 0), (17, .iconst 1, 18, 1), (18, .if_icmp .ne 6, 21, 24), (21, .bipush (-2), 23, 2), (23, .ireturn, 24, 0), (24, .aload_n 0, 25, 0), (25, .invokevirtual 175, 28, 150), (28, .aload_n 0, 29, 0), (29, .getfield 22, 32, 72), (32, .iconst 0, 33, 0), (33, .iload_n 1, 34, 0), (34, .iadd, 35, 0), (35, .iconst 1, 36, 1), (36, .iastore, 37, 0), (37, .aload_n 0, 38, 0), (38, .getfield 22, 41, 72), (41, .iconst 0, 42, 0), (42, .iconst 5, 43, 5), (43, .invokestatic 185, 46, 153), (46, .ireturn, 47, 0)]
def m_X9_cut : aM := (yX9_cut, 9, cX9_cut, 2, (some .int), k_X9_cut)
def k_X9_turn : List (Nat × aI) := [(0, .iload_n 1, 1, 0), (1, .invokestatic 150, 4, 143), (4, .ifCond .ne 5, 7, 9), (7, .iconst (-1), 8, 1), (8, .ireturn, 9, 0), (9, .aload_n 0, 10, 0), (10, .invokevirtual 175, 13, 150), (13, .aload_n 0, 14, 0), (14, .getfield 22, 17, 72), (17, .iconst 5, 18, 5), (18, .iload_n 1, 19, 0), (19, .iadd, 20, 0), (20, .iconst 1, 21, 1), (21, .aload_n 0, 22, 0), (22, .getfield 22, 25, 72), (25, .iconst 5, 26, 5), (26, .iload_n 1, 27, 0), (27, .iadd, 28, 0), (28, .iaload, 29, 0), (29, .isub, 30, 0), (30, .iastore, 31, 0), (31, .aload_n 0, 32, 0), (32, .getfield 22, 35, 72), (35, .iconst 5, 36, 5), (36, .iconst 5, 37, 5), (37, .invokestatic 185, 40, 153), (40, .ireturn, 41, 0)]
def m_X9_turn : aM := (yX9_turn, 9, cX9_turn, 2, (some .int), k_X9_turn)
def k_X9_touch : List (Nat × aI) := [(0, .iload_n 1, 1, 0), (1, .iconst 0, 2, 0), (2, .iconst 3, 3, 3), (3, .invokestatic 97, 6, 134), (6, .ifCond .ne 5, 9, 11), (9, .iconst (-1), 10, 1), (10, .ireturn, 11, 0), (11, .aload_n 0, 12, 0), (12, .getfield 22, 15, 72), (15, .bipush 10, 17, 10), (17, .iload_n 1, 18, 0), (18, .iadd, 19, 0), (19, .iaload, 20, 0), (20, .iconst 1, 21, 1), (21, .if_icmp .ne 6, 24, 27), (24, .bipush (-2), 26, 2), (26, .ireturn, 27, 0), (27, .aload_n 0, 28, 0), (28, .invokevirtual 175, 31, 150), (31, .aload_n 0, 32, 0), (32, .getfield 22, 35, 72), (35, .bipush 10, 37, 10), (37, .iload_n 1, 38, 0), (38, .iadd, 39, 0), (39, .iconst 1, 40, 1), (40, .iastore, 41, 0), (41, .aload_n 0, 42, 0), (42, .getfield 22, 45, 72), (45, .bipush 10, 47, 10), (47, .iconst 4, 48, 4), (48, .invokestatic 185, 51, 153), (51, .ireturn, 52, 0)]
def m_X9_touch : aM := (yX9_touch, 9, cX9_touch, 2, (some .int), k_X9_touch)
def k_X9_touches : List (Nat × aI) := [(0, .iload_n 1, 1, 0), (1, .iconst 0, 2, 0), (2, .iconst 3, 3, 3), (3, .invokestatic 97, 6, 134), (6, .ifCond .eq 17, 9, 23), (9, .aload_n 0, 10, 0), (10, .bipush 10, 12, 10), (12, .iload_n 1, 13, 0), (13, .iadd, 14, 0), (14, .iaload, 15, 0), (15, .iconst 1, 16, 1), (16, .if_icmp .ne 7, 19, 23), (19, .iconst 1, 20, 1), (20, .goto 4, 23, 24), (23, .iconst 0, 24, 0), (24, .ireturn, 25, 0)]
def m_X9_touches : aM := (yX9_touches, 9, cX9_touches, 2, (some .boolean), k_X9_touches)
def k_X9_mayMend : List (Nat × aI) := [(0, .aload_n 0, 1, 0), (1, .iconst 0, 2, 0), (2, .iload_n 1, 3, 0), (3, .iadd, 4, 0), (4, .iaload, 5, 0), (5, .iconst 1, 6, 1), (6, .if_icmp .eq 30, 9, 36), (9, .aload_n 0, 10, 0), (10, .iconst 5, 11, 5), (11, .iload_n 1, 12, 0), (12, .iadd, 13, 0), (13, .iaload, 14, 0), (14, .iconst 1, 15, 1), (15, .if_icmp .eq 21, 18, 36), (18, .aload_n 0, 19, 0), (19, .iload_n 1, 20, 0), (20, .invokestatic 189, 23, 154), (23, .ifCond .ne 13, 26, 36), (26, .aload_n 0, 27, 0), (27, .iload_n 1, 28, 0), (28, .iconst 1, 29, 1), (29, .isub, 30, 0), (30, .invokestatic 189, 33, 154), (33, .ifCond .eq 7, 36, 40), (36, .iconst 1, 37, 1), (37, .goto 4, 40, 41), (40, .iconst 0, 41, 0), (41, .ireturn, 42, 0)]
def m_X9_mayMend : aM := (yX9_mayMend, 9, cX9_mayMend, 2, (some .boolean), k_X9_mayMend)
def k_X9_mends : List (Nat × aI) := [(0, .aload_n 0, 1, 0), (1, .iconst 0, 2, 0), (2, .iload_n 1, 3, 0), (3, .iadd, 4, 0), (4, .iconst 0, 5, 0), (5, .iastore, 6, 0), (6, .aload_n 0, 7, 0), (7, .iconst 5, 8, 5), (8, .iload_n 1, 9, 0), (9, .iadd, 10, 0), (10, .iconst 0, 11, 0), (11, .iastore, 12, 0), (12, .iload_n 1, 13, 0), (13, .iconst 4, 14, 4), (14, .if_icmp .ge 10, 17, 24), (17, .aload_n 0, 18, 0), (18, .bipush 10, 20, 10), (20, .iload_n 1, 21, 0), (21, .iadd, 22, 0), (22, .iconst 0, 23, 0), (23, .iastore, 24, 0), (24, .iload_n 1, 25, 0), (25, .ifCond .le 12, 28, 37), (28, .aload_n 0, 29, 0), (29, .bipush 10, 31, 10), (31, .iload_n 1, 32, 0), (32, .iadd, 33, 0), (33, .iconst 1, 34, 1), (34, .isub, 35, 0), (35, .iconst 0, 36, 0), (36, .iastore, 37, 0), (37, .return_, 38, 0)]
def m_X9_mends : aM := (yX9_mends, 9, cX9_mends, 2, none, k_X9_mends)
def k_X9_mend : List (Nat × aI) := [(0, .iload_n 1, 1, 0), (1, .invokestatic 150, 4, 143), (4, .ifCond .ne 5, 7, 9), (7, .iconst (-1), 8, 1), (8, .ireturn, 9, 0), (9, .aload_n 0, 10, 0), (10, .getfield 22, 13, 72), (13, .iload_n 1, 14, 0), (14, .invokestatic 192, 17, 155), (17, .ifCond .ne 6, 20, 23), (20, .bipush (-2), 22, 2), (22, .ireturn, 23, 0), (23, .aload_n 0, 24, 0), (24, .invokevirtual 175, 27, 150), (27, .aload_n 0, 28, 0), (28, .getfield 22, 31, 72), (31, .iload_n 1, 32, 0), (32, .invokestatic 195, 35, 156), (35, .iconst 0, 36, 0), (36, .istore_n 2, 37, 0), (37, .iconst 0, 38, 0), (38, .istore_n 3, 39, 0), (39, .iload_n 3, 40, 0), (40, .iconst 5, 41, 5), (41, .if_icmp .ge 52, 44, 93), (44, .iload_n 2, 45, 0), (45, .aload_n 0, 46, 0), (46, .getfield 22, 49, 72), (49, .iconst 0, 50, 0), (50, .iload_n 3, 51, 0), (51, .iadd, 52, 0), (52, .iaload, 53, 0), (53, .iconst 1, 54, 1), (54, .if_icmp .eq 26, 57, 80), (57, .aload_n 0, 58, 0), (58, .getfield 22, 61, 72), (61, .iconst 5, 62, 5), (62, .iload_n 3, 63, 0), (63, .iadd, 64, 0), (64, .iaload, 65, 0), (65, .iconst 1, 66, 1), (66, .if_icmp .eq 14, 69, 80), (69, .aload_n 0, 70, 0), (70, .getfield 22, 73, 72), (73, .iload_n 3, 74, 0), (74, .invokestatic 189, 77, 154), (77, .ifCond .eq 7, 80, 84), (80, .iconst 1, 81, 1), (81, .goto 4, 84, 85), (84, .iconst 0, 85, 0), (85, .iadd, 86, 0), (86, .istore_n 2, 87, 0), (87, .iinc 3 1, 90, 1), (90, .goto (-51), 93, 39), (93, .iload_n 2, 94, 0), (94, .ireturn, 95, 0)]
def m_X9_mend : aM := (yX9_mend, 9, cX9_mend, 4, (some .int), k_X9_mend)
def k_X9_changes : List (Nat × aI) := [(0, .bipush 14, 2, 14), (2, .istore_n 3, 3, 0), (3, .iload_n 3, 4, 0), (4, .bipush 29, 6, 29), (6, .if_icmp .ge 33, 9, 39), (9, .aload_n 0, 10, 0), (10, .iload_n 3, 11, 0), (11, .iload_n 1, 12, 0), (12, .iadd, 13, 0), (13, .iaload, 14, 0), (14, .istore 4, 16, 0), (16, .aload_n 0, 17, 0), (17, .iload_n 3, 18, 0), (18, .iload_n 1, 19, 0), (19, .iadd, 20, 0), (20, .aload_n 0, 21, 0), (21, .iload_n 3, 22, 0), (22, .iload_n 2, 23, 0), (23, .iadd, 24, 0), (24, .iaload, 25, 0), (25, .iastore, 26, 0), (26, .aload_n 0, 27, 0), (27, .iload_n 3, 28, 0), (28, .iload_n 2, 29, 0), (29, .iadd, 30, 0), (30, .iload 4, 32, 0), (32, .iastore, 33, 0), (33, .iinc 3 5, 36, 5), (36, .goto (-33), 39, 3), (39, .return_, 40, 0)]
def m_X9_changes : aM := (yX9_changes, 9, cX9_changes, 5, none, k_X9_changes)
def k_X9_change : List (Nat × aI) := [(0, .iload_n 1, 1, 0), (1, .invokestatic 150, 4, 143), (4, .ifCond .eq 15, 7, 19), (7, .iload_n 2, 8, 0), (8, .invokestatic 150, 11, 143), (11, .ifCond .eq 8, 14, 19), (14, .iload_n 1, 15, 0), (15, .iload_n 2, 16, 0), (16, .if_icmp .ne 5, 19, 21), (19, .iconst (-1), 20, 1), (20, .ireturn, 21, 0), (21, .aload_n 0, 22, 0), (22, .invokevirtual 175, 25, 150), (25, .aload_n 0, 26, 0), (26, .getfield 22, 29, 72), (29, .iload_n 1, 30, 0), (30, .iload_n 2, 31, 0), (31, .invokestatic 198, 34, 157), (34, .aload_n 0, 35, 0), (35, .getfield 22, 38, 72), (38, .bipush 14, 40, 14), (40, .iload_n 1, 41, 0), (41, .iadd, 42, 0), (42, .iaload, 43, 0), (43, .ireturn, 44, 0)]
def m_X9_change : aM := (yX9_change, 9, cX9_change, 3, (some .int), k_X9_change)
def k_X9_undo : List (Nat × aI) := [(0, .aload_n 0, 1, 0), (1, .getfield 138, 4, 93), (4, .ifCond .ne 6, 7, 10), (7, .bipush (-2), 9, 2), (9, .ireturn, 10, 0), (10, .aload_n 0, 11, 0), (11, .dup, 12, 0), (12, .getfield 138, 15, 93), (15, .iconst 1, 16, 1), (16, .isub, 17, 0), (17, .putfield 138, 20, 93), (20, .aload_n 0, 21, 0), (21, .getfield 28, 24, 74), (24, .bipush 29, 26, 29), (26, .aload_n 0, 27, 0), (27, .getfield 138, 30, 93), (30, .imul, 31, 0), (31, .aload_n 0, 32, 0), (32, .getfield 22, 35, 72), (35, .iconst 0, 36, 0), (36, .bipush 29, 38, 29), (38, .invokestatic 134, 41, 142), (41, .aload_n 0, 42, 0), (42, .getfield 138, 45, 93), (45, .ireturn, 46, 0)]
def m_X9_undo : aM := (yX9_undo, 9, cX9_undo, 1, (some .int), k_X9_undo)
def k_X9_reads : List (Nat × aI) := [(0, .aload_n 0, 1, 0), (1, .aload_n 0, 2, 0), (2, .getfield 22, 5, 72), (5, .invokevirtual 181, 8, 152), (8, .ireturn, 9, 0)]
def m_X9_reads : aM := (yX9_reads, 9, cX9_reads, 1, (some .int), k_X9_reads)
def k_X9_asItIs : List (Nat × aI) := [(0, .aload_n 0, 1, 0), (1, .getfield 22, 4, 72), (4, .iconst 0, 5, 0), (5, .aload_n 0, 6, 0), (6, .getfield 25, 9, 73), (9, .iconst 0, 10, 0), (10, .bipush 29, 12, 29), (12, .invokestatic 134, 15, 142), (15, .return_, 16, 0)]
def m_X9_asItIs : aM := (yX9_asItIs, 9, cX9_asItIs, 1, none, k_X9_asItIs)
def k_X9_rests : List (Nat × aI) := [(0, .bipush 19, 2, 19), (2, .istore_n 1, 3, 0), (3, .iload_n 1, 4, 0), (4, .bipush 29, 6, 29), (6, .if_icmp .ge 16, 9, 22), (9, .aload_n 0, 10, 0), (10, .getfield 25, 13, 73), (13, .iload_n 1, 14, 0), (14, .iconst 0, 15, 0), (15, .iastore, 16, 0), (16, .iinc 1 1, 19, 1), (19, .goto (-16), 22, 3), (22, .return_, 23, 0)]
def m_X9_rests : aM := (yX9_rests, 9, cX9_rests, 2, none, k_X9_rests)
def k_X9_says : List (Nat × aI) := [(0, .iconst 0, 1, 0), (1, .istore 4, 3, 0), (3, .aload_n 0, 4, 0), (4, .invokevirtual 202, 7, 158), (7, .iconst 0, 8, 0), (8, .istore 5, 10, 0), (10, .iload 5, 12, 0), (12, .aload_n 0, 13, 0), (13, .getfield 16, 16, 70), (16, .iload_n 1, 17, 0), (17, .iaload, 18, 0), (18, .if_icmp .ge 110, 21, 128), (21, .aload_n 0, 22, 0), (22, .getfield 19, 25, 71), (25, .bipush 8, 27, 8), (27, .iload_n 1, 28, 0), (28, .imul, 29, 0), (29, .iload 5, 31, 0), (31, .iadd, 32, 0), (32, .iaload, 33, 0), (33, .istore 6, 35, 0), (35, .iconst 0, 36, 0), (36, .istore 7, 38, 0), (38, .iload 7, 40, 0), (40, .iload_n 2, 41, 0), (41, .if_icmp .ge 19, 44, 60), (44, .aload_n 0, 45, 0), (45, .aload_n 0, 46, 0), (46, .getfield 25, 49, 73), (49, .iload 6, 51, 0), (51, .invokevirtual 178, 54, 151), (54, .iinc 7 1, 57, 1), (57, .goto (-19), 60, 38), (60, .aload_n 0, 61, 0), (61, .getfield 55, 64, 83), (64, .iload 5, 66, 0), (66, .aload_n 0, 67, 0), (67, .aload_n 0, 68, 0), (68, .getfield 25, 71, 73), (71, .invokevirtual 181, 74, 152), (74, .iastore, 75, 0), (75, .iload 4, 77, 0), (77, .aload_n 0, 78, 0), (78, .getfield 55, 81, 83), (81, .iload 5, 83, 0), (83, .iaload, 84, 0), (84, .iload 6, 86, 0), (86, .if_icmp .ne 7, 89, 93), (89, .iconst 1, 90, 1), (90, .goto 4, 93, 94), (93, .iconst 0, 94, 0), (94, .iadd, 95, 0), (95, .istore 4, 97, 0), (97, .iconst 0, 98, 0), (98, .istore 7, 100, 0), (100, .iload 7, 102, 0), (102, .iload_n 3, 103, 0), (103, .if_icmp .ge 19, 106, 122), (106, .aload_n 0, 107, 0), (107, .aload_n 0, 108, 0), (108, .getfield 25, 111, 73), (111, .bipush 30, 113, 30), (113, .invokevirtual 178, 116, 151), (116, .iinc 7 1, 119, 1), (119, .goto (-19), 122, 100), (122, .iinc 5 1, 125, 1), (125, .goto (-115), 128, 10), (128, .iload 4, 130, 0), (130, .ireturn, 131, 0)]
def m_X9_says : aM := (yX9_says, 9, cX9_says, 8, (some .int), k_X9_says)
def k_X9_isPace : List (Nat × aI) := [(0, .iload_n 0, 1, 0), (1, .iconst 1, 2, 1), (2, .iconst 3, 3, 3), (3, .invokestatic 97, 6, 134), (6, .ifCond .eq 16, 9, 22), (9, .iload_n 1, 10, 0), (10, .iconst 0, 11, 0), (11, .iconst 3, 12, 3), (12, .invokestatic 97, 15, 134), (15, .ifCond .eq 7, 18, 22), (18, .iconst 1, 19, 1), (19, .goto 4, 22, 23), (22, .iconst 0, 23, 0), (23, .ireturn, 24, 0)]
def m_X9_isPace : aM := (yX9_isPace, 9, cX9_isPace, 2, (some .boolean), k_X9_isPace)
def k_X9_said : List (Nat × aI) := [(0, .aload_n 0, 1, 0), (1, .iload_n 1, 2, 0), (2, .invokevirtual 154, 5, 144), (5, .ifCond .eq 22, 8, 27), (8, .iload_n 2, 9, 0), (9, .iload_n 3, 10, 0), (10, .invokestatic 205, 13, 159), (13, .ifCond .eq 14, 16, 27), (16, .iload 4, 18, 0), (18, .iconst (-1), 19, 1), (19, .bipush 7, 21, 7), (21, .invokestatic 97, 24, 134), (24, .ifCond .ne 5, 27, 29), (27, .iconst (-1), 28, 1), (28, .ireturn, 29, 0), (29, .aload_n 0, 30, 0), (30, .invokevirtual 209, 33, 160), (33, .aload_n 0, 34, 0), (34, .iload_n 1, 35, 0), (35, .iload_n 2, 36, 0), (36, .iload_n 3, 37, 0), (37, .invokevirtual 212, 40, 161), (40, .istore 5, 42, 0), (42, .iload 4, 44, 0), (44, .ifCond .ge 8, 47, 52), (47, .iload 5, 49, 0), (49, .goto 26, 52, 75), (52, .iload 4, 54, 0), (54, .aload_n 0, 55, 0), (55, .getfield 16, 58, 70), (58, .iload_n 1, 59, 0), (59, .iaload, 60, 0), (60, .if_icmp .ge 13, 63, 73), (63, .aload_n 0, 64, 0), (64, .getfield 55, 67, 83), (67, .iload 4, 69, 0), (69, .iaload, 70, 0), (70, .goto 5, 73, 75), (73, .bipush (-4), 75, 4), (75, .ireturn, 76, 0)]
def m_X9_said : aM := (yX9_said, 9, cX9_said, 6, (some .int), k_X9_said)
def k_X9_pace : List (Nat × aI) := [(0, .aload_n 0, 1, 0), (1, .iload_n 1, 2, 0), (2, .invokevirtual 154, 5, 144), (5, .ifCond .eq 12, 8, 17), (8, .iload_n 2, 9, 0), (9, .iconst 0, 10, 0), (10, .iconst 1, 11, 1), (11, .invokestatic 97, 14, 134), (14, .ifCond .ne 5, 17, 19), (17, .iconst (-1), 18, 1), (18, .ireturn, 19, 0), (19, .aload_n 0, 20, 0), (20, .invokevirtual 209, 23, 160), (23, .iconst 1, 24, 1), (24, .istore_n 3, 25, 0), (25, .iload_n 3, 26, 0), (26, .bipush 7, 28, 7), (28, .if_icmp .ge 70, 31, 98), (31, .iconst 1, 32, 1), (32, .istore 4, 34, 0), (34, .iload 4, 36, 0), (36, .iconst 4, 37, 4), (37, .if_icmp .ge 55, 40, 92), (40, .iload 4, 42, 0), (42, .iload_n 3, 43, 0), (43, .iload 4, 45, 0), (45, .isub, 46, 0), (46, .invokestatic 205, 49, 159), (49, .ifCond .eq 37, 52, 86), (52, .aload_n 0, 53, 0), (53, .iload_n 1, 54, 0), (54, .iload 4, 56, 0), (56, .iload_n 3, 57, 0), (57, .iload 4, 59, 0), (59, .isub, 60, 0), (60, .invokevirtual 212, 63, 161), (63, .aload_n 0, 64, 0), (64, .getfield 16, 67, 70), (67, .iload_n 1, 68, 0), (68, .iaload, 69, 0), (69, .if_icmp .ne 17, 72, 86), (72, .iload_n 2, 73, 0), (73, .ifCond .ne 8, 76, 81), (76, .iload 4, 78, 0), (78, .goto 7, 81, 85), (81, .iload_n 3, 82, 0), (82, .iload 4, 84, 0), (84, .isub, 85, 0), (85, .ireturn, 86, 0), (86, .iinc 4 1, 89, 1), (89, .goto (-55), 92, 34), (92, .iinc 3 1, 95, 1), (95, .goto (-70), 98, 25), (98, .bipush (-4), 100, 4), (100, .ireturn, 101, 0)]
def m_X9_pace : aM := (yX9_pace, 9, cX9_pace, 5, (some .int), k_X9_pace)
def k_X9_sent : List (Nat × aI) := [(0, .aload_n 0, 1, 0), (1, .invokevirtual 202, 4, 158), (4, .iconst 0, 5, 0), (5, .istore_n 3, 6, 0), (6, .iload_n 3, 7, 0), (7, .iload_n 2, 8, 0), (8, .if_icmp .ge 18, 11, 26), (11, .aload_n 0, 12, 0), (12, .aload_n 0, 13, 0), (13, .getfield 25, 16, 73), (16, .iload_n 1, 17, 0), (17, .invokevirtual 178, 20, 151), (20, .iinc 3 1, 23, 1), (23, .goto (-17), 26, 6), (26, .aload_n 0, 27, 0), (27, .aload_n 0, 28, 0), (28, .getfield 25, 31, 73), (31, .invokevirtual 181, 34, 152), (34, .ireturn, 35, 0)]
def m_X9_sent : aM := (yX9_sent, 9, cX9_sent, 4, (some .int), k_X9_sent)
def k_X9_clearOf : List (Nat × aI) := [(0, .iconst 0, 1, 0), (1, .istore_n 3, 2, 0), (2, .iconst 0, 3, 0), (3, .istore 4, 5, 0), (5, .iload 4, 7, 0), (7, .iload_n 2, 8, 0), (8, .if_icmp .ge 32, 11, 40), (11, .iload_n 3, 12, 0), (12, .aload_n 0, 13, 0), (13, .iload 4, 15, 0), (15, .iload_n 1, 16, 0), (16, .invokevirtual 216, 19, 162), (19, .iload 4, 21, 0), (21, .if_icmp .ne 10, 24, 31), (24, .iconst 1, 25, 1), (25, .iload 4, 27, 0), (27, .ishl, 28, 0), (28, .goto 4, 31, 32), (31, .iconst 0, 32, 0), (32, .ior, 33, 0), (33, .istore_n 3, 34, 0), (34, .iinc 4 1, 37, 1), (37, .goto (-32), 40, 5), (40, .iload_n 3, 41, 0), (41, .ireturn, 42, 0)]
def m_X9_clearOf : aM := (yX9_clearOf, 9, cX9_clearOf, 5, (some .int), k_X9_clearOf)
def k_X9_clear : List (Nat × aI) := [(0, .iload_n 1, 1, 0), (1, .iconst 1, 2, 1), (2, .iconst 3, 3, 3), (3, .invokestatic 97, 6, 134), (6, .ifCond .ne 5, 9, 11), (9, .iconst (-1), 10, 1), (10, .ireturn, 11, 0), (11, .aload_n 0, 12, 0), (12, .invokevirtual 209, 15, 160), (15, .aload_n 0, 16, 0), (16, .iload_n 1, 17, 0), (17, .bipush 30, 19, 30), (19, .invokevirtual 220, 22, 163), (22, .ireturn, 23, 0)]
def m_X9_clear : aM := (yX9_clear, 9, cX9_clear, 2, (some .int), k_X9_clear)
def k_X9_like : List (Nat × aI) := [(0, .iload_n 1, 1, 0), (1, .iconst 0, 2, 0), (2, .bipush 30, 4, 30), (4, .invokestatic 97, 7, 134), (7, .ifCond .ne 5, 10, 12), (10, .iconst (-1), 11, 1), (11, .ireturn, 12, 0), (12, .aload_n 0, 13, 0), (13, .invokevirtual 209, 16, 160), (16, .aload_n 0, 17, 0), (17, .iload_n 1, 18, 0), (18, .iconst 1, 19, 1), (19, .invokevirtual 216, 22, 162), (22, .istore_n 2, 23, 0), (23, .iconst 0, 24, 0), (24, .istore_n 3, 25, 0), (25, .aload_n 0, 26, 0), (26, .iload_n 3, 27, 0), (27, .iconst 1, 28, 1), (28, .invokevirtual 216, 31, 162), (31, .iload_n 2, 32, 0), (32, .if_icmp .eq 9, 35, 41), (35, .iinc 3 1, 38, 1), (38, .goto (-13), 41, 25), (41, .iload_n 3, 42, 0), (42, .ireturn, 43, 0)]
def m_X9_like : aM := (yX9_like, 9, cX9_like, 4, (some .int), k_X9_like)
def k_X9_mending : List (Nat × aI) := [(0, .aload_n 0, 1, 0), (1, .iload_n 1, 2, 0), (2, .invokevirtual 154, 5, 144), (5, .ifCond .eq 11, 8, 16), (8, .iload_n 2, 9, 0), (9, .iload_n 3, 10, 0), (10, .invokestatic 205, 13, 159), (13, .ifCond .ne 5, 16, 18), (16, .iconst (-1), 17, 1), (17, .ireturn, 18, 0), (18, .bipush (-4), 20, 4), (20, .istore 4, 22, 0), (22, .iconst 0, 23, 0), (23, .istore 5, 25, 0), (25, .iload 5, 27, 0), (27, .bipush 32, 29, 32), (29, .if_icmp .ge 105, 32, 134), (32, .aload_n 0, 33, 0), (33, .invokevirtual 209, 36, 160), (36, .iconst 0, 37, 0), (37, .istore 6, 39, 0), (39, .iload 6, 41, 0), (41, .iconst 5, 42, 5), (42, .if_icmp .ge 29, 45, 71), (45, .iload 5, 47, 0), (47, .iload 6, 49, 0), (49, .ishr, 50, 0), (50, .iconst 1, 51, 1), (51, .iand, 52, 0), (52, .iconst 1, 53, 1), (53, .if_icmp .ne 12, 56, 65), (56, .aload_n 0, 57, 0), (57, .getfield 25, 60, 73), (60, .iload 6, 62, 0), (62, .invokestatic 195, 65, 156), (65, .iinc 6 1, 68, 1), (68, .goto (-29), 71, 39), (71, .aload_n 0, 72, 0), (72, .iload_n 1, 73, 0), (73, .iload_n 2, 74, 0), (74, .iload_n 3, 75, 0), (75, .invokevirtual 212, 78, 161), (78, .aload_n 0, 79, 0), (79, .getfield 16, 82, 70), (82, .iload_n 1, 83, 0), (83, .iaload, 84, 0), (84, .if_icmp .ne 7, 87, 91), (87, .iconst 1, 88, 1), (88, .goto 4, 91, 92), (91, .iconst 0, 92, 0), (92, .istore 6, 94, 0), (94, .iload 6, 96, 0), (96, .ifCond .eq 28, 99, 124), (99, .iload 4, 101, 0), (101, .bipush (-4), 103, 4), (103, .if_icmp .eq 16, 106, 119), (106, .iload 5, 108, 0), (108, .invokestatic 223, 111, 164), (111, .iload 4, 113, 0), (113, .invokestatic 223, 116, 164), (116, .if_icmp .ge 8, 119, 124), (119, .iload 5, 121, 0), (121, .goto 5, 124, 126), (124, .iload 4, 126, 0), (126, .istore 4, 128, 0), (128, .iinc 5 1, 131, 1), (131, .goto (-106), 134, 25), (134, .iload 4, 136, 0), (136, .ireturn, 137, 0)]
def m_X9_mending : aM := (yX9_mending, 9, cX9_mending, 7, (some .int), k_X9_mending)
def k_X9_changing : List (Nat × aI) := [(0, .aload_n 0, 1, 0), (1, .iload_n 1, 2, 0), (2, .invokevirtual 154, 5, 144), (5, .ifCond .eq 21, 8, 26), (8, .iload_n 2, 9, 0), (9, .iload_n 3, 10, 0), (10, .invokestatic 205, 13, 159), (13, .ifCond .eq 13, 16, 26), (16, .iload 4, 18, 0), (18, .iconst 0, 19, 0), (19, .iconst 1, 20, 1), (20, .invokestatic 97, 23, 134), (23, .ifCond .ne 5, 26, 28), (26, .iconst (-1), 27, 1), (27, .ireturn, 28, 0), (28, .aload_n 0, 29, 0), (29, .invokevirtual 209, 32, 160), (32, .bipush (-4), 34, 4), (34, .istore 5, 36, 0), (36, .aload_n 0, 37, 0), (37, .iload_n 1, 38, 0), (38, .iload_n 2, 39, 0), (39, .iload_n 3, 40, 0), (40, .invokevirtual 212, 43, 161), (43, .istore 6, 45, 0), (45, .iconst 0, 46, 0), (46, .istore 7, 48, 0), (48, .iload 7, 50, 0), (50, .iconst 5, 51, 5), (51, .if_icmp .ge 89, 54, 140), (54, .iload 7, 56, 0), (56, .iconst 1, 57, 1), (57, .iadd, 58, 0), (58, .istore 8, 60, 0), (60, .iload 8, 62, 0), (62, .iconst 5, 63, 5), (63, .if_icmp .ge 71, 66, 134), (66, .aload_n 0, 67, 0), (67, .invokevirtual 209, 70, 160), (70, .aload_n 0, 71, 0), (71, .getfield 25, 74, 73), (74, .iload 7, 76, 0), (76, .iload 8, 78, 0), (78, .invokestatic 198, 81, 157), (81, .aload_n 0, 82, 0), (82, .iload_n 1, 83, 0), (83, .iload_n 2, 84, 0), (84, .iload_n 3, 85, 0), (85, .invokevirtual 212, 88, 161), (88, .istore 9, 90, 0), (90, .iload 9, 92, 0), (92, .iload 6, 94, 0), (94, .if_icmp .le 14, 97, 108), (97, .bipush 10, 99, 10), (99, .iload 7, 101, 0), (101, .imul, 102, 0), (102, .iload 8, 104, 0), (104, .iadd, 105, 0), (105, .goto 5, 108, 110), (108, .iload 5, 110, 0), (110, .istore 5, 112, 0), (112, .iload 9, 114, 0), (114, .iload 6, 116, 0), (116, .if_icmp .le 8, 119, 124), (119, .iload 9, 121, 0), (121, .goto 5, 124, 126), (124, .iload 6, 126, 0), (126, .istore 6, 128, 0), (128, .iinc 8 1, 131, 1), (131, .goto (-71), 134, 60), (134, .iinc 7 1, 137, 1), (137, .goto (-89), 140, 48), (140, .iload 5, 142, 0), (142, .bipush (-4), 144, 4), (144, .if_icmp .ne 8, 147, 152), (147, .bipush (-4), 149, 4), (149, .goto 15, 152, 164), (152, .iload 4, 154, 0), (154, .ifCond .ne 8, 157, 162), (157, .iload 5, 159, 0), (159, .goto 5, 162, 164), (162, .iload 6, 164, 0), (164, .ireturn, 165, 0)]
def m_X9_changing : aM := (yX9_changing, 9, cX9_changing, 10, (some .int), k_X9_changing)
def k_X9_nextOrder : List (Nat × aI) := [(0, .iconst 3, 1, 3), (1, .istore_n 1, 2, 0), (2, .iload_n 1, 3, 0), (3, .ifCond .lt 26, 6, 29), (6, .aload_n 0, 7, 0), (7, .getfield 58, 10, 84), (10, .iload_n 1, 11, 0), (11, .iaload, 12, 0), (12, .aload_n 0, 13, 0), (13, .getfield 58, 16, 84), (16, .iload_n 1, 17, 0), (17, .iconst 1, 18, 1), (18, .iadd, 19, 0), (19, .iaload, 20, 0), (20, .if_icmp .le 9, 23, 29), (23, .iinc 1 (-1), 26, 1), (26, .goto (-24), 29, 2), (29, .iload_n 1, 30, 0), (30, .ifCond .ge 5, 33, 35), (33, .iconst 0, 34, 0), (34, .ireturn, 35, 0), (35, .iconst 4, 36, 4), (36, .istore_n 2, 37, 0), (37, .aload_n 0, 38, 0), (38, .getfield 58, 41, 84), (41, .iload_n 2, 42, 0), (42, .iaload, 43, 0), (43, .aload_n 0, 44, 0), (44, .getfield 58, 47, 84), (47, .iload_n 1, 48, 0), (48, .iaload, 49, 0), (49, .if_icmp .ge 9, 52, 58), (52, .iinc 2 (-1), 55, 1), (55, .goto (-18), 58, 37), (58, .aload_n 0, 59, 0), (59, .getfield 58, 62, 84), (62, .iload_n 1, 63, 0), (63, .iaload, 64, 0), (64, .istore_n 3, 65, 0), (65, .aload_n 0, 66, 0), (66, .getfield 58, 69, 84), (69, .iload_n 1, 70, 0), (70, .aload_n 0, 71, 0), (71, .getfield 58, 74, 84), (74, .iload_n 2, 75, 0), (75, .iaload, 76, 0), (76, .iastore, 77, 0), (77, .aload_n 0, 78, 0), (78, .getfield 58, 81, 84), (81, .iload_n 2, 82, 0), (82, .iload_n 3, 83, 0), (83, .iastore, 84, 0), (84, .iload_n 1, 85, 0), (85, .iconst 1, 86, 1), (86, .iadd, 87, 0), (87, .istore 4, 89, 0), (89, .iconst 4, 90, 4), (90, .istore 5, 92, 0), (92, .iload 4, 94, 0), (94, .iload 5, 96, 0), (96, .if_icmp .ge 42, 99, 138), (99, .aload_n 0, 100, 0), (100, .getfield 58, 103, 84), (103, .iload 4, 105, 0), (105, .iaload, 106, 0), (106, .istore_n 3, 107, 0), (107, .aload_n 0, 108, 0), (108, .getfield 58, 111, 84), (111, .iload 4, 113, 0), (113, .aload_n 0, 114, 0), (114, .getfield 58, 117, 84), (117, .iload 5, 119, 0), (119, .iaload, 120, 0), (120, .iastore, 121, 0), (121, .aload_n 0, 122, 0), (122, .getfield 58, 125, 84), (125, .iload 5, 127, 0), (127, .iload_n 3, 128, 0), (128, .iastore, 129, 0), (129, .iinc 4 1, 132, 1), (132, .iinc 5 (-1), 135, 1), (135, .goto (-43), 138, 92), (138, .iconst 1, 139, 1), (139, .ireturn, 140, 0)]
def m_X9_nextOrder : aM := (yX9_nextOrder, 9, cX9_nextOrder, 6, (some .boolean), k_X9_nextOrder)
def k_X9_order : List (Nat × aI) := [(0, .iload_n 1, 1, 0), (1, .iconst 1, 2, 1), (2, .iconst 3, 3, 3), (3, .invokestatic 97, 6, 134), (6, .ifCond .eq 12, 9, 18), (9, .iload_n 2, 10, 0), (10, .iconst (-1), 11, 1), (11, .iconst 4, 12, 4), (12, .invokestatic 97, 15, 134), (15, .ifCond .ne 5, 18, 20), (18, .iconst (-1), 19, 1), (19, .ireturn, 20, 0), (20, .iconst (-1), 21, 1), (21, .istore_n 3, 22, 0), (22, .iconst 1, 23, 1), (23, .istore 4, 25, 0), (25, .iconst 0, 26, 0), (26, .istore 5, 28, 0), (28, .iload 5, 30, 0), (30, .iconst 5, 31, 5), (31, .if_icmp .ge 18, 34, 49), (34, .aload_n 0, 35, 0), (35, .getfield 58, 38, 84), (38, .iload 5, 40, 0), (40, .iload 5, 42, 0), (42, .iastore, 43, 0), (43, .iinc 5 1, 46, 1), (46, .goto (-18), 49, 28), (49, .aload_n 0, 50, 0), (50, .invokevirtual 209, 53, 160), (53, .iload 4, 55, 0), (55, .ifCond .eq 87, 58, 142), (58, .iconst 0, 59, 0), (59, .istore 5, 61, 0), (61, .iload 5, 63, 0), (63, .iconst 5, 64, 5), (64, .if_icmp .ge 34, 67, 98), (67, .aload_n 0, 68, 0), (68, .getfield 25, 71, 73), (71, .bipush 14, 73, 14), (73, .iload 5, 75, 0), (75, .iadd, 76, 0), (76, .aload_n 0, 77, 0), (77, .getfield 22, 80, 72), (80, .bipush 14, 82, 14), (82, .aload_n 0, 83, 0), (83, .getfield 58, 86, 84), (86, .iload 5, 88, 0), (88, .iaload, 89, 0), (89, .iadd, 90, 0), (90, .iaload, 91, 0), (91, .iastore, 92, 0), (92, .iinc 5 1, 95, 1), (95, .goto (-34), 98, 61), (98, .aload_n 0, 99, 0), (99, .iload_n 1, 100, 0), (100, .bipush 20, 102, 20), (102, .invokevirtual 220, 105, 163), (105, .invokestatic 223, 108, 164), (108, .istore 5, 110, 0), (110, .iload 5, 112, 0), (112, .iload_n 3, 113, 0), (113, .if_icmp .le 20, 116, 133), (116, .iload 5, 118, 0), (118, .istore_n 3, 119, 0), (119, .aload_n 0, 120, 0), (120, .getfield 58, 123, 84), (123, .iconst 0, 124, 0), (124, .aload_n 0, 125, 0), (125, .getfield 61, 128, 85), (128, .iconst 0, 129, 0), (129, .iconst 5, 130, 5), (130, .invokestatic 134, 133, 142), (133, .aload_n 0, 134, 0), (134, .invokevirtual 226, 137, 165), (137, .istore 4, 139, 0), (139, .goto (-86), 142, 53), (142, .iload_n 2, 143, 0), (143, .ifCond .ge 7, 146, 150), (146, .iload_n 3, 147, 0), (147, .goto 9, 150, 156), (150, .aload_n 0, 151, 0), (151, .getfield 61, 154, 85), (154, .iload_n 2, 155, 0), (155, .iaload, 156, 0), (156, .ireturn, 157, 0)]
def m_X9_order : aM := (yX9_order, 9, cX9_order, 6, (some .int), k_X9_order)
def k_X9_readBy : List (Nat × aI) := [(0, .iconst 0, 1, 0), (1, .istore_n 3, 2, 0), (2, .iload_n 3, 3, 0), (3, .bipush 29, 5, 29), (5, .if_icmp .ge 16, 8, 21), (8, .aload_n 0, 9, 0), (9, .getfield 25, 12, 73), (12, .iload_n 3, 13, 0), (13, .iconst 0, 14, 0), (14, .iastore, 15, 0), (15, .iinc 3 1, 18, 1), (18, .goto (-16), 21, 2), (21, .iload_n 1, 22, 0), (22, .bipush 14, 24, 14), (24, .if_icmp .ge 13, 27, 37), (27, .aload_n 0, 28, 0), (28, .getfield 25, 31, 73), (31, .iload_n 1, 32, 0), (32, .iconst 1, 33, 1), (33, .iastore, 34, 0), (34, .goto 44, 37, 78), (37, .iload_n 1, 38, 0), (38, .bipush 19, 40, 19), (40, .if_icmp .ge 19, 43, 59), (43, .aload_n 0, 44, 0), (44, .getfield 25, 47, 73), (47, .bipush 14, 49, 14), (49, .iload_n 1, 50, 0), (50, .iadd, 51, 0), (51, .bipush 14, 53, 14), (53, .isub, 54, 0), (54, .iconst 1, 55, 1), (55, .iastore, 56, 0), (56, .goto 22, 59, 78), (59, .iload_n 1, 60, 0), (60, .bipush 24, 62, 24), (62, .if_icmp .ge 16, 65, 78), (65, .aload_n 0, 66, 0), (66, .getfield 25, 69, 73), (69, .bipush 14, 71, 14), (71, .iload_n 1, 72, 0), (72, .iadd, 73, 0), (73, .bipush 19, 75, 19), (75, .isub, 76, 0), (76, .iconst 3, 77, 3), (77, .iastore, 78, 0), (78, .aload_n 0, 79, 0), (79, .aload_n 0, 80, 0), (80, .getfield 25, 83, 73), (83, .iload_n 2, 84, 0), (84, .invokevirtual 178, 87, 151), (87, .aload_n 0, 88, 0), (88, .aload_n 0, 89, 0), (89, .getfield 25, 92, 73), (92, .invokevirtual 181, 95, 152), (95, .ireturn, 96, 0)]
def m_X9_readBy : aM := (yX9_readBy, 9, cX9_readBy, 4, (some .int), k_X9_readBy)
def k_X9_see : List (Nat × aI) := [(0, .iload_n 1, 1, 0), (1, .iconst 0, 2, 0), (2, .bipush 29, 4, 29), (4, .invokestatic 97, 7, 134), (7, .ifCond .eq 13, 10, 20), (10, .iload_n 2, 11, 0), (11, .iconst 0, 12, 0), (12, .bipush 31, 14, 31), (14, .invokestatic 97, 17, 134), (17, .ifCond .ne 5, 20, 22), (20, .iconst (-1), 21, 1), (21, .ireturn, 22, 0), (22, .aload_n 0, 23, 0), (23, .getfield 144, 26, 95), (26, .bipush 8, 28, 8), (28, .if_icmp .ne 6, 31, 34), (31, .bipush (-3), 33, 3), (33, .ireturn, 34, 0), (34, .aload_n 0, 35, 0), (35, .getfield 34, 38, 76), (38, .iconst 2, 39, 2), (39, .aload_n 0, 40, 0), (40, .getfield 144, 43, 95), (43, .imul, 44, 0), (44, .iload_n 1, 45, 0), (45, .iastore, 46, 0), (46, .aload_n 0, 47, 0), (47, .getfield 34, 50, 76), (50, .iconst 2, 51, 2), (51, .aload_n 0, 52, 0), (52, .getfield 144, 55, 95), (55, .imul, 56, 0), (56, .iconst 1, 57, 1), (57, .iadd, 58, 0), (58, .iload_n 2, 59, 0), (59, .iastore, 60, 0), (60, .aload_n 0, 61, 0), (61, .dup, 62, 0), (62, .getfield 144, 65, 95), (65, .iconst 1, 66, 1), (66, .iadd, 67, 0), (67, .putfield 144, 70, 95), (70, .aload_n 0, 71, 0), (71, .getfield 144, 74, 95), (74, .ireturn, 75, 0)]
def m_X9_see : aM := (yX9_see, 9, cX9_see, 3, (some .int), k_X9_see)
def k_X9_canBe : List (Nat × aI) := [(0, .iconst 0, 1, 0), (1, .istore_n 1, 2, 0), (2, .iconst 0, 3, 0), (3, .istore_n 2, 4, 0), (4, .iload_n 2, 5, 0), (5, .bipush 25, 7, 25), (7, .if_icmp .ge 81, 10, 88), (10, .iconst 1, 11, 1), (11, .istore_n 3, 12, 0), (12, .iconst 0, 13, 0), (13, .istore 4, 15, 0), (15, .iload 4, 17, 0), (17, .aload_n 0, 18, 0), (18, .getfield 144, 21, 95), (21, .if_icmp .ge 47, 24, 68), (24, .iload_n 3, 25, 0), (25, .ifCond .eq 43, 28, 68), (28, .aload_n 0, 29, 0), (29, .iload_n 2, 30, 0), (30, .aload_n 0, 31, 0), (31, .getfield 34, 34, 76), (34, .iconst 2, 35, 2), (35, .iload 4, 37, 0), (37, .imul, 38, 0), (38, .iaload, 39, 0), (39, .invokevirtual 230, 42, 166), (42, .aload_n 0, 43, 0), (43, .getfield 34, 46, 76), (46, .iconst 2, 47, 2), (47, .iload 4, 49, 0), (49, .imul, 50, 0), (50, .iconst 1, 51, 1), (51, .iadd, 52, 0), (52, .iaload, 53, 0), (53, .if_icmp .ne 7, 56, 60), (56, .iconst 1, 57, 1), (57, .goto 4, 60, 61), (60, .iconst 0, 61, 0), (61, .istore_n 3, 62, 0), (62, .iinc 4 1, 65, 1), (65, .goto (-50), 68, 15), (68, .iload_n 1, 69, 0), (69, .iload_n 3, 70, 0), (70, .ifCond .eq 9, 73, 79), (73, .iconst 1, 74, 1), (74, .iload_n 2, 75, 0), (75, .ishl, 76, 0), (76, .goto 4, 79, 80), (79, .iconst 0, 80, 0), (80, .ior, 81, 0), (81, .istore_n 1, 82, 0), (82, .iinc 2 1, 85, 1), (85, .goto (-81), 88, 4), (88, .iload_n 1, 89, 0), (89, .ireturn, 90, 0)]
def m_X9_canBe : aM := (yX9_canBe, 9, cX9_canBe, 5, (some .int), k_X9_canBe)
def k_X9_greatest : List (Nat × aI) := [(0, .iconst 0, 1, 0), (1, .istore_n 3, 2, 0), (2, .iconst 0, 3, 0), (3, .istore 4, 5, 0), (5, .iload 4, 7, 0), (7, .bipush 31, 9, 31), (9, .if_icmp .gt 17, 12, 26), (12, .aload_n 0, 13, 0), (13, .getfield 64, 16, 86), (16, .iload 4, 18, 0), (18, .iconst 0, 19, 0), (19, .iastore, 20, 0), (20, .iinc 4 1, 23, 1), (23, .goto (-18), 26, 5), (26, .iconst 0, 27, 0), (27, .istore 4, 29, 0), (29, .iload 4, 31, 0), (31, .bipush 25, 33, 25), (33, .if_icmp .ge 62, 36, 95), (36, .iload_n 1, 37, 0), (37, .iload 4, 39, 0), (39, .ishr, 40, 0), (40, .iconst 1, 41, 1), (41, .iand, 42, 0), (42, .iconst 1, 43, 1), (43, .if_icmp .ne 46, 46, 89), (46, .aload_n 0, 47, 0), (47, .iload 4, 49, 0), (49, .iload_n 2, 50, 0), (50, .invokevirtual 230, 53, 166), (53, .istore 5, 55, 0), (55, .aload_n 0, 56, 0), (56, .getfield 64, 59, 86), (59, .iload 5, 61, 0), (61, .dup2, 62, 0), (62, .iaload, 63, 0), (63, .iconst 1, 64, 1), (64, .iadd, 65, 0), (65, .iastore, 66, 0), (66, .aload_n 0, 67, 0), (67, .getfield 64, 70, 86), (70, .iload 5, 72, 0), (72, .iaload, 73, 0), (73, .iload_n 3, 74, 0), (74, .if_icmp .le 13, 77, 87), (77, .aload_n 0, 78, 0), (78, .getfield 64, 81, 86), (81, .iload 5, 83, 0), (83, .iaload, 84, 0), (84, .goto 4, 87, 88), (87, .iload_n 3, 88, 0), (88, .istore_n 3, 89, 0), (89, .iinc 4 1, 92, 1), (92, .goto (-63), 95, 29), (95, .iload_n 3, 96, 0), (96, .ireturn, 97, 0)]
def m_X9_greatest : aM := (yX9_greatest, 9, cX9_greatest, 6, (some .int), k_X9_greatest)
def k_X9_tries : List (Nat × aI) := [(0, .iload_n 1, 1, 0), (1, .iconst 0, 2, 0), (2, .iconst 1, 3, 1), (3, .invokestatic 97, 6, 134), (6, .ifCond .ne 5, 9, 11), (9, .iconst (-1), 10, 1), (10, .ireturn, 11, 0), (11, .aload_n 0, 12, 0), (12, .invokevirtual 233, 15, 167), (15, .istore_n 2, 16, 0), (16, .iload_n 2, 17, 0), (17, .invokestatic 223, 20, 164), (20, .iconst 2, 21, 2), (21, .if_icmp .ge 6, 24, 27), (24, .bipush (-4), 26, 4), (26, .ireturn, 27, 0), (27, .bipush (-4), 29, 4), (29, .istore_n 3, 30, 0), (30, .iconst 0, 31, 0), (31, .istore 4, 33, 0), (33, .iconst 0, 34, 0), (34, .istore 5, 36, 0), (36, .iload 5, 38, 0), (38, .bipush 30, 40, 30), (40, .if_icmp .ge 64, 43, 104), (43, .aload_n 0, 44, 0), (44, .iload_n 2, 45, 0), (45, .iload 5, 47, 0), (47, .invokevirtual 236, 50, 168), (50, .istore 6, 52, 0), (52, .iload_n 3, 53, 0), (53, .bipush (-4), 55, 4), (55, .if_icmp .eq 10, 58, 65), (58, .iload 6, 60, 0), (60, .iload 4, 62, 0), (62, .if_icmp .ge 7, 65, 69), (65, .iconst 1, 66, 1), (66, .goto 4, 69, 70), (69, .iconst 0, 70, 0), (70, .istore 7, 72, 0), (72, .iload 7, 74, 0), (74, .ifCond .eq 8, 77, 82), (77, .iload 5, 79, 0), (79, .goto 4, 82, 83), (82, .iload_n 3, 83, 0), (83, .istore_n 3, 84, 0), (84, .iload 7, 86, 0), (86, .ifCond .eq 8, 89, 94), (89, .iload 6, 91, 0), (91, .goto 5, 94, 96), (94, .iload 4, 96, 0), (96, .istore 4, 98, 0), (98, .iinc 5 1, 101, 1), (101, .goto (-65), 104, 36), (104, .iload_n 1, 105, 0), (105, .ifCond .ne 7, 108, 112), (108, .iload_n 3, 109, 0), (109, .goto 5, 112, 114), (112, .iload 4, 114, 0), (114, .ireturn, 115, 0)]
def m_X9_tries : aM := (yX9_tries, 9, cX9_tries, 8, (some .int), k_X9_tries)
def k_X9_hear : List (Nat × aI) := [(0, .iload_n 1, 1, 0), (1, .iconst 0, 2, 0), (2, .bipush 19, 4, 19), (4, .invokestatic 97, 7, 134), (7, .ifCond .ne 11, 10, 18), (10, .iload_n 1, 11, 0), (11, .bipush 31, 13, 31), (13, .if_icmp .eq 5, 16, 18), (16, .iconst (-1), 17, 1), (17, .ireturn, 18, 0), (18, .aload_n 0, 19, 0), (19, .getfield 147, 22, 96), (22, .bipush 8, 24, 8), (24, .if_icmp .ne 6, 27, 30), (27, .bipush (-3), 29, 3), (29, .ireturn, 30, 0), (30, .aload_n 0, 31, 0), (31, .getfield 37, 34, 77), (34, .aload_n 0, 35, 0), (35, .getfield 147, 38, 96), (38, .iload_n 1, 39, 0), (39, .iastore, 40, 0), (40, .aload_n 0, 41, 0), (41, .dup, 42, 0), (42, .getfield 147, 45, 96), (45, .iconst 1, 46, 1), (46, .iadd, 47, 0), (47, .putfield 147, 50, 96), (50, .aload_n 0, 51, 0), (51, .getfield 147, 54, 96), (54, .ireturn, 55, 0)]
def m_X9_hear : aM := (yX9_hear, 9, cX9_hear, 2, (some .int), k_X9_hear)
def k_X9_fits : List (Nat × aI) := [(0, .iconst 0, 1, 0), (1, .istore_n 1, 2, 0), (2, .iconst 0, 3, 0), (3, .istore_n 2, 4, 0), (4, .iload_n 2, 5, 0), (5, .aload_n 0, 6, 0), (6, .getfield 94, 9, 89), (9, .if_icmp .ge 104, 12, 113), (12, .aload_n 0, 13, 0), (13, .getfield 16, 16, 70), (16, .iload_n 2, 17, 0), (17, .iaload, 18, 0), (18, .aload_n 0, 19, 0), (19, .getfield 147, 22, 96), (22, .if_icmp .ne 7, 25, 29), (25, .iconst 1, 26, 1), (26, .goto 4, 29, 30), (29, .iconst 0, 30, 0), (30, .istore_n 3, 31, 0), (31, .iconst 0, 32, 0), (32, .istore 4, 34, 0), (34, .iload 4, 36, 0), (36, .aload_n 0, 37, 0), (37, .getfield 147, 40, 96), (40, .if_icmp .ge 53, 43, 93), (43, .iload_n 3, 44, 0), (44, .ifCond .eq 49, 47, 93), (47, .aload_n 0, 48, 0), (48, .getfield 37, 51, 77), (51, .iload 4, 53, 0), (53, .iaload, 54, 0), (54, .bipush 31, 56, 31), (56, .if_icmp .eq 25, 59, 81), (59, .aload_n 0, 60, 0), (60, .getfield 37, 63, 77), (63, .iload 4, 65, 0), (65, .iaload, 66, 0), (66, .aload_n 0, 67, 0), (67, .getfield 19, 70, 71), (70, .bipush 8, 72, 8), (72, .iload_n 2, 73, 0), (73, .imul, 74, 0), (74, .iload 4, 76, 0), (76, .iadd, 77, 0), (77, .iaload, 78, 0), (78, .if_icmp .ne 7, 81, 85), (81, .iconst 1, 82, 1), (82, .goto 4, 85, 86), (85, .iconst 0, 86, 0), (86, .istore_n 3, 87, 0), (87, .iinc 4 1, 90, 1), (90, .goto (-56), 93, 34), (93, .iload_n 1, 94, 0), (94, .iload_n 3, 95, 0), (95, .ifCond .eq 9, 98, 104), (98, .iconst 1, 99, 1), (99, .iload_n 2, 100, 0), (100, .ishl, 101, 0), (101, .goto 4, 104, 105), (104, .iconst 0, 105, 0), (105, .ior, 106, 0), (106, .istore_n 1, 107, 0), (107, .iinc 2 1, 110, 1), (110, .goto (-106), 113, 4), (113, .iload_n 1, 114, 0), (114, .ireturn, 115, 0)]
def m_X9_fits : aM := (yX9_fits, 9, cX9_fits, 5, (some .int), k_X9_fits)
def k_X9_forget : List (Nat × aI) := [(0, .iload_n 1, 1, 0), (1, .iconst 0, 2, 0), (2, .iconst 1, 3, 1), (3, .invokestatic 97, 6, 134), (6, .ifCond .ne 5, 9, 11), (9, .iconst (-1), 10, 1), (10, .ireturn, 11, 0), (11, .iload_n 1, 12, 0), (12, .ifCond .ne 10, 15, 22), (15, .aload_n 0, 16, 0), (16, .getfield 144, 19, 95), (19, .goto 7, 22, 26), (22, .aload_n 0, 23, 0), (23, .getfield 147, 26, 96), (26, .istore_n 2, 27, 0), (27, .aload_n 0, 28, 0), (28, .iload_n 1, 29, 0), (29, .ifCond .ne 7, 32, 36), (32, .iconst 0, 33, 0), (33, .goto 7, 36, 40), (36, .aload_n 0, 37, 0), (37, .getfield 144, 40, 95), (40, .putfield 144, 43, 95), (43, .aload_n 0, 44, 0), (44, .iload_n 1, 45, 0), (45, .iconst 1, 46, 1), (46, .if_icmp .ne 7, 49, 53), (49, .iconst 0, 50, 0), (50, .goto 7, 53, 57), (53, .aload_n 0, 54, 0), (54, .getfield 147, 57, 96), (57, .putfield 147, 60, 96), (60, .iload_n 2, 61, 0), (61, .ireturn, 62, 0)]
def m_X9_forget : aM := (yX9_forget, 9, cX9_forget, 3, (some .int), k_X9_forget)
def k_X9_worthOf : List (Nat × aI) := [(0, .iconst 1, 1, 1), (1, .istore 4, 3, 0), (3, .iconst 1, 4, 1), (4, .istore 5, 6, 0), (6, .iload 5, 8, 0), (8, .iload_n 3, 9, 0), (9, .if_icmp .ge 16, 12, 25), (12, .iload 4, 14, 0), (14, .bipush 6, 16, 6), (16, .imul, 17, 0), (17, .istore 4, 19, 0), (19, .iinc 5 1, 22, 1), (22, .goto (-16), 25, 6), (25, .aload_n 0, 26, 0), (26, .invokevirtual 209, 29, 160), (29, .iconst 0, 30, 0), (30, .istore 5, 32, 0), (32, .iload 5, 34, 0), (34, .iload_n 3, 35, 0), (35, .if_icmp .ge 121, 38, 156), (38, .iload_n 2, 39, 0), (39, .iload 4, 41, 0), (41, .idiv, 42, 0), (42, .bipush 6, 44, 6), (44, .irem, 45, 0), (45, .iconst 1, 46, 1), (46, .isub, 47, 0), (47, .istore 6, 49, 0), (49, .iload 5, 51, 0), (51, .iload_n 3, 52, 0), (52, .iconst 1, 53, 1), (53, .isub, 54, 0), (54, .if_icmp .ge 11, 57, 65), (57, .iload 4, 59, 0), (59, .bipush 6, 61, 6), (61, .idiv, 62, 0), (62, .goto 5, 65, 67), (65, .iload 4, 67, 0), (67, .istore 4, 69, 0), (69, .iload 6, 71, 0), (71, .ifCond .lt 40, 74, 111), (74, .iload 5, 76, 0), (76, .iconst 2, 77, 2), (77, .irem, 78, 0), (78, .ifCond .ne 19, 81, 97), (81, .aload_n 0, 82, 0), (82, .getfield 25, 85, 73), (85, .iconst 0, 86, 0), (86, .iload 6, 88, 0), (88, .iadd, 89, 0), (89, .iaload, 90, 0), (90, .iconst 1, 91, 1), (91, .if_icmp .ne 20, 94, 111), (94, .goto 15, 97, 109), (97, .aload_n 0, 98, 0), (98, .getfield 25, 101, 73), (101, .iload 6, 103, 0), (103, .invokestatic 192, 106, 155), (106, .ifCond .ne 5, 109, 111), (109, .iconst (-1), 110, 1), (110, .ireturn, 111, 0), (111, .iload 6, 113, 0), (113, .ifCond .lt 23, 116, 136), (116, .iload 5, 118, 0), (118, .iconst 2, 119, 2), (119, .irem, 120, 0), (120, .ifCond .ne 16, 123, 136), (123, .aload_n 0, 124, 0), (124, .getfield 25, 127, 73), (127, .iconst 0, 128, 0), (128, .iload 6, 130, 0), (130, .iadd, 131, 0), (131, .iconst 1, 132, 1), (132, .iastore, 133, 0), (133, .goto 17, 136, 150), (136, .iload 6, 138, 0), (138, .ifCond .lt 12, 141, 150), (141, .aload_n 0, 142, 0), (142, .getfield 25, 145, 73), (145, .iload 6, 147, 0), (147, .invokestatic 195, 150, 156), (150, .iinc 5 1, 153, 1), (153, .goto (-121), 156, 32), (156, .aload_n 0, 157, 0), (157, .iload_n 1, 158, 0), (158, .iconst 1, 159, 1), (159, .iconst 1, 160, 1), (160, .invokevirtual 212, 163, 161), (163, .ireturn, 164, 0)]
def m_X9_worthOf : aM := (yX9_worthOf, 9, cX9_worthOf, 7, (some .int), k_X9_worthOf)
def k_X9_chosen : List (Nat × aI) := [(0, .aload_n 0, 1, 0), (1, .getfield 67, 4, 87), (4, .bipush 6, 6, 6), (6, .iload_n 1, 7, 0), (7, .imul, 8, 0), (8, .iaload, 9, 0), (9, .istore_n 3, 10, 0), (10, .iconst 1, 11, 1), (11, .istore 4, 13, 0), (13, .iload 4, 15, 0), (15, .bipush 6, 17, 6), (17, .if_icmp .ge 50, 20, 67), (20, .aload_n 0, 21, 0), (21, .getfield 67, 24, 87), (24, .bipush 6, 26, 6), (26, .iload_n 1, 27, 0), (27, .imul, 28, 0), (28, .iload 4, 30, 0), (30, .iadd, 31, 0), (31, .iaload, 32, 0), (32, .istore 5, 34, 0), (34, .iload 5, 36, 0), (36, .ifCond .lt 23, 39, 59), (39, .iload_n 2, 40, 0), (40, .iload 5, 42, 0), (42, .iload_n 3, 43, 0), (43, .if_icmp .ge 7, 46, 50), (46, .iconst 1, 47, 1), (47, .goto 4, 50, 51), (50, .iconst 0, 51, 0), (51, .if_icmp .ne 8, 54, 59), (54, .iload 5, 56, 0), (56, .goto 4, 59, 60), (59, .iload_n 3, 60, 0), (60, .istore_n 3, 61, 0), (61, .iinc 4 1, 64, 1), (64, .goto (-51), 67, 13), (67, .iload_n 3, 68, 0), (68, .ireturn, 69, 0)]
def m_X9_chosen : aM := (yX9_chosen, 9, cX9_chosen, 6, (some .int), k_X9_chosen)
def k_X9_duel : List (Nat × aI) := [(0, .aload_n 0, 1, 0), (1, .iload_n 1, 2, 0), (2, .invokevirtual 154, 5, 144), (5, .ifCond .eq 12, 8, 17), (8, .iload_n 2, 9, 0), (9, .iconst 0, 10, 0), (10, .iconst 4, 11, 4), (11, .invokestatic 97, 14, 134), (14, .ifCond .ne 5, 17, 19), (17, .iconst (-1), 18, 1), (18, .ireturn, 19, 0), (19, .iconst 1, 20, 1), (20, .istore_n 3, 21, 0), (21, .iconst 0, 22, 0), (22, .istore 4, 24, 0), (24, .iload 4, 26, 0), (26, .iload_n 2, 27, 0), (27, .if_icmp .ge 14, 30, 41), (30, .iload_n 3, 31, 0), (31, .bipush 6, 33, 6), (33, .imul, 34, 0), (34, .istore_n 3, 35, 0), (35, .iinc 4 1, 38, 1), (38, .goto (-14), 41, 24), (41, .iconst 0, 42, 0), (42, .istore 4, 44, 0), (44, .iload 4, 46, 0), (46, .iload_n 3, 47, 0), (47, .if_icmp .ge 24, 50, 71), (50, .aload_n 0, 51, 0), (51, .getfield 67, 54, 87), (54, .iload 4, 56, 0), (56, .aload_n 0, 57, 0), (57, .iload_n 1, 58, 0), (58, .iload 4, 60, 0), (60, .iload_n 2, 61, 0), (61, .invokevirtual 239, 64, 169), (64, .iastore, 65, 0), (65, .iinc 4 1, 68, 1), (68, .goto (-24), 71, 44), (71, .iload_n 2, 72, 0), (72, .iconst 1, 73, 1), (73, .isub, 74, 0), (74, .istore 4, 76, 0), (76, .iload 4, 78, 0), (78, .ifCond .lt 54, 81, 132), (81, .iload_n 3, 82, 0), (82, .bipush 6, 84, 6), (84, .idiv, 85, 0), (85, .istore_n 3, 86, 0), (86, .iconst 0, 87, 0), (87, .istore 5, 89, 0), (89, .iload 5, 91, 0), (91, .iload_n 3, 92, 0), (92, .if_icmp .ge 34, 95, 126), (95, .aload_n 0, 96, 0), (96, .getfield 67, 99, 87), (99, .iload 5, 101, 0), (101, .aload_n 0, 102, 0), (102, .iload 5, 104, 0), (104, .iload 4, 106, 0), (106, .iconst 2, 107, 2), (107, .irem, 108, 0), (108, .ifCond .ne 7, 111, 115), (111, .iconst 1, 112, 1), (112, .goto 4, 115, 116), (115, .iconst 0, 116, 0), (116, .invokevirtual 242, 119, 170), (119, .iastore, 120, 0), (120, .iinc 5 1, 123, 1), (123, .goto (-34), 126, 89), (126, .iinc 4 (-1), 129, 1), (129, .goto (-53), 132, 76), (132, .aload_n 0, 133, 0), (133, .getfield 67, 136, 87), (136, .iconst 0, 137, 0), (137, .iaload, 138, 0), (138, .ireturn, 139, 0)]
def m_X9_duel : aM := (yX9_duel, 9, cX9_duel, 6, (some .int), k_X9_duel)
def k_X9_divisor : List (Nat × aI) := [(0, .iload_n 0, 1, 0), (1, .istore_n 2, 2, 0), (2, .iload_n 1, 3, 0), (3, .istore_n 3, 4, 0), (4, .iload_n 3, 5, 0), (5, .ifCond .le 16, 8, 21), (8, .iload_n 2, 9, 0), (9, .iload_n 3, 10, 0), (10, .irem, 11, 0), (11, .istore 4, 13, 0), (13, .iload_n 3, 14, 0), (14, .istore_n 2, 15, 0), (15, .iload 4, 17, 0), (17, .istore_n 3, 18, 0), (18, .goto (-14), 21, 4), (21, .iload_n 2, 22, 0), (22, .ireturn, 23, 0)]
def m_X9_divisor : aM := (yX9_divisor, 9, cX9_divisor, 5, (some .int), k_X9_divisor)
def k_X9_likely : List (Nat × aI) := [(0, .iconst 1, 1, 1), (1, .istore_n 3, 2, 0), (2, .aload_n 0, 3, 0), (3, .invokevirtual 202, 6, 158), (6, .aload_n 0, 7, 0), (7, .aload_n 0, 8, 0), (8, .getfield 25, 11, 73), (11, .iload_n 1, 12, 0), (12, .invokevirtual 178, 15, 151), (15, .iconst 0, 16, 0), (16, .istore 4, 18, 0), (18, .iload 4, 20, 0), (20, .iconst 5, 21, 5), (21, .if_icmp .ge 71, 24, 92), (24, .aload_n 0, 25, 0), (25, .getfield 13, 28, 69), (28, .iconst 5, 29, 5), (29, .iload_n 1, 30, 0), (30, .imul, 31, 0), (31, .iload 4, 33, 0), (33, .iadd, 34, 0), (34, .iaload, 35, 0), (35, .istore 5, 37, 0), (37, .aload_n 0, 38, 0), (38, .getfield 25, 41, 73), (41, .bipush 19, 43, 19), (43, .iload 4, 45, 0), (45, .iadd, 46, 0), (46, .iaload, 47, 0), (47, .istore 6, 49, 0), (49, .iload_n 3, 50, 0), (50, .iload 6, 52, 0), (52, .iload 5, 54, 0), (54, .if_icmp .ne 20, 57, 74), (57, .iload 5, 59, 0), (59, .ifCond .ne 8, 62, 67), (62, .bipush 10, 64, 10), (64, .goto 20, 67, 84), (67, .bipush 10, 69, 10), (69, .iload_n 2, 70, 0), (70, .isub, 71, 0), (71, .goto 13, 74, 84), (74, .iload 5, 76, 0), (76, .ifCond .ne 7, 79, 83), (79, .iload_n 2, 80, 0), (80, .goto 4, 83, 84), (83, .iconst 0, 84, 0), (84, .imul, 85, 0), (85, .istore_n 3, 86, 0), (86, .iinc 4 1, 89, 1), (89, .goto (-71), 92, 18), (92, .iload_n 3, 93, 0), (93, .ireturn, 94, 0)]
def m_X9_likely : aM := (yX9_likely, 9, cX9_likely, 7, (some .int), k_X9_likely)
def k_X9_part : List (Nat × aI) := [(0, .iload_n 0, 1, 0), (1, .ldc 246, 3, 11), (3, .invokestatic 247, 6, 171), (6, .istore_n 2, 7, 0), (7, .iload_n 1, 8, 0), (8, .ifCond .ne 9, 11, 17), (11, .iload_n 0, 12, 0), (12, .iload_n 2, 13, 0), (13, .idiv, 14, 0), (14, .goto 7, 17, 21), (17, .ldc 246, 19, 11), (19, .iload_n 2, 20, 0), (20, .idiv, 21, 0), (21, .ireturn, 22, 0)]
def m_X9_part : aM := (yX9_part, 9, cX9_part, 3, (some .int), k_X9_part)
def k_X9_odds : List (Nat × aI) := [(0, .iload_n 1, 1, 0), (1, .iconst 0, 2, 0), (2, .bipush 29, 4, 29), (4, .invokestatic 97, 7, 134), (7, .ifCond .eq 22, 10, 29), (10, .iload_n 2, 11, 0), (11, .iconst 0, 12, 0), (12, .bipush 10, 14, 10), (14, .invokestatic 97, 17, 134), (17, .ifCond .eq 12, 20, 29), (20, .iload_n 3, 21, 0), (21, .iconst 0, 22, 0), (22, .iconst 1, 23, 1), (23, .invokestatic 97, 26, 134), (26, .ifCond .ne 5, 29, 31), (29, .iconst (-1), 30, 1), (30, .ireturn, 31, 0), (31, .aload_n 0, 32, 0), (32, .invokevirtual 209, 35, 160), (35, .aload_n 0, 36, 0), (36, .iload_n 1, 37, 0), (37, .iload_n 2, 38, 0), (38, .invokevirtual 250, 41, 172), (41, .iload_n 3, 42, 0), (42, .invokestatic 253, 45, 173), (45, .ireturn, 46, 0)]
def m_X9_odds : aM := (yX9_odds, 9, cX9_odds, 4, (some .int), k_X9_odds)
def k_X9_mean : List (Nat × aI) := [(0, .aload_n 0, 1, 0), (1, .iload_n 1, 2, 0), (2, .invokevirtual 154, 5, 144), (5, .ifCond .eq 22, 8, 27), (8, .iload_n 2, 9, 0), (9, .iconst 0, 10, 0), (10, .bipush 10, 12, 10), (12, .invokestatic 97, 15, 134), (15, .ifCond .eq 12, 18, 27), (18, .iload_n 3, 19, 0), (19, .iconst 0, 20, 0), (20, .iconst 1, 21, 1), (21, .invokestatic 97, 24, 134), (24, .ifCond .ne 5, 27, 29), (27, .iconst (-1), 28, 1), (28, .ireturn, 29, 0), (29, .iconst 0, 30, 0), (30, .istore 4, 32, 0), (32, .aload_n 0, 33, 0), (33, .invokevirtual 209, 36, 160), (36, .iconst 0, 37, 0), (37, .istore 5, 39, 0), (39, .iload 5, 41, 0), (41, .aload_n 0, 42, 0), (42, .getfield 16, 45, 70), (45, .iload_n 1, 46, 0), (46, .iaload, 47, 0), (47, .if_icmp .ge 31, 50, 78), (50, .iload 4, 52, 0), (52, .aload_n 0, 53, 0), (53, .aload_n 0, 54, 0), (54, .getfield 19, 57, 71), (57, .bipush 8, 59, 8), (59, .iload_n 1, 60, 0), (60, .imul, 61, 0), (61, .iload 5, 63, 0), (63, .iadd, 64, 0), (64, .iaload, 65, 0), (65, .iload_n 2, 66, 0), (66, .invokevirtual 250, 69, 172), (69, .iadd, 70, 0), (70, .istore 4, 72, 0), (72, .iinc 5 1, 75, 1), (75, .goto (-36), 78, 39), (78, .iload 4, 80, 0), (80, .iload_n 3, 81, 0), (81, .invokestatic 253, 84, 173), (84, .ireturn, 85, 0)]
def m_X9_mean : aM := (yX9_mean, 9, cX9_mean, 6, (some .int), k_X9_mean)
def k_X9_draw : List (Nat × aI) := [(0, .ldc2_w 256, 3, 12), (3, .iload_n 0, 4, 0), (4, .i2l, 5, 0), (5, .lmul, 6, 0), (6, .ldc2_w 258, 9, 13), (9, .iload_n 1, 10, 0), (10, .i2l, 11, 0), (11, .lmul, 12, 0), (12, .ladd, 13, 0), (13, .lconst 1, 14, 0), (14, .ladd, 15, 0), (15, .lstore_n 2, 16, 0), (16, .lload_n 2, 17, 0), (17, .lload_n 2, 18, 0), (18, .lmul, 19, 0), (19, .ldc2_w 260, 22, 14), (22, .lrem, 23, 0), (23, .l2i, 24, 0), (24, .ireturn, 25, 0)]
def m_X9_draw : aM := (yX9_draw, 9, cX9_draw, 4, (some .int), k_X9_draw)
def k_X9_day : List (Nat × aI) := [(0, .iload_n 1, 1, 0), (1, .iconst 0, 2, 0), (2, .sipush 9999, 5, 9999), (5, .invokestatic 97, 8, 134), (8, .ifCond .eq 22, 11, 30), (11, .iload_n 2, 12, 0), (12, .iconst 1, 13, 1), (13, .bipush 60, 15, 60), (15, .invokestatic 97, 18, 134), (18, .ifCond .eq 12, 21, 30), (21, .iload_n 3, 22, 0), (22, .iconst 0, 23, 0), (23, .iconst 2, 24, 2), (24, .invokestatic 97, 27, 134), (27, .ifCond .ne 5, 30, 32), (30, .iconst (-1), 31, 1), (31, .ireturn, 32, 0), (32, .iconst 0, 33, 0), (33, .istore 4, 35, 0), (35, .iconst 0, 36, 0), (36, .istore 5, 38, 0), (38, .aload_n 0, 39, 0), (39, .invokevirtual 209, 42, 160), (42, .iconst 0, 43, 0), (43, .istore 6, 45, 0), (45, .iload 6, 47, 0), (47, .iload_n 2, 48, 0), (48, .if_icmp .ge 161, 51, 209), (51, .iload_n 1, 52, 0), (52, .iload 6, 54, 0), (54, .invokestatic 262, 57, 174), (57, .istore 7, 59, 0), (59, .iload 7, 61, 0), (61, .bipush 8, 63, 8), (63, .idiv, 64, 0), (64, .bipush 31, 66, 31), (66, .irem, 67, 0), (67, .istore 8, 69, 0), (69, .iload 7, 71, 0), (71, .bipush 64, 73, 64), (73, .idiv, 74, 0), (74, .iconst 5, 75, 5), (75, .irem, 76, 0), (76, .istore 9, 78, 0), (78, .iload 7, 80, 0), (80, .bipush 8, 82, 8), (82, .irem, 83, 0), (83, .iconst 5, 84, 5), (84, .if_icmp .ge 60, 87, 144), (87, .aload_n 0, 88, 0), (88, .aload_n 0, 89, 0), (89, .getfield 25, 92, 73), (92, .iload 8, 94, 0), (94, .invokevirtual 178, 97, 151), (97, .aload_n 0, 98, 0), (98, .aload_n 0, 99, 0), (99, .getfield 25, 102, 73), (102, .invokevirtual 181, 105, 152), (105, .istore 10, 107, 0), (107, .iload 4, 109, 0), (109, .iload 10, 111, 0), (111, .iload 8, 113, 0), (113, .if_icmp .ne 7, 116, 120), (116, .iconst 1, 117, 1), (117, .goto 4, 120, 121), (120, .iconst 0, 121, 0), (121, .iadd, 122, 0), (122, .istore 4, 124, 0), (124, .iload 5, 126, 0), (126, .iload 10, 128, 0), (128, .bipush 31, 130, 31), (130, .if_icmp .ne 7, 133, 137), (133, .iconst 1, 134, 1), (134, .goto 4, 137, 138), (137, .iconst 0, 138, 0), (138, .iadd, 139, 0), (139, .istore 5, 141, 0), (141, .goto 62, 144, 203), (144, .iload 7, 146, 0), (146, .bipush 8, 148, 8), (148, .irem, 149, 0), (149, .iconst 5, 150, 5), (150, .if_icmp .ne 16, 153, 166), (153, .aload_n 0, 154, 0), (154, .getfield 25, 157, 73), (157, .iconst 0, 158, 0), (158, .iload 9, 160, 0), (160, .iadd, 161, 0), (161, .iconst 1, 162, 1), (162, .iastore, 163, 0), (163, .goto 40, 166, 203), (166, .iload 7, 168, 0), (168, .bipush 8, 170, 8), (170, .irem, 171, 0), (171, .bipush 6, 173, 6), (173, .if_icmp .ne 15, 176, 188), (176, .aload_n 0, 177, 0), (177, .getfield 25, 180, 73), (180, .iload 9, 182, 0), (182, .invokestatic 195, 185, 156), (185, .goto 18, 188, 203), (188, .aload_n 0, 189, 0), (189, .getfield 25, 192, 73), (192, .iload 9, 194, 0), (194, .iload 9, 196, 0), (196, .iconst 1, 197, 1), (197, .iadd, 198, 0), (198, .iconst 5, 199, 5), (199, .irem, 200, 0), (200, .invokestatic 198, 203, 157), (203, .iinc 6 1, 206, 1), (206, .goto (-161), 209, 45), (209, .iload_n 3, 210, 0), (210, .ifCond .ne 8, 213, 218), (213, .iload 4, 215, 0), (215, .goto 22, 218, 237), (218, .iload_n 3, 219, 0), (219, .iconst 1, 220, 1), (220, .if_icmp .ne 8, 223, 228), (223, .iload 5, 225, 0), (225, .goto 12, 228, 237), (228, .aload_n 0, 229, 0), (229, .getfield 25, 232, 73), (232, .iconst 0, 233, 0), (233, .iconst 5, 234, 5), (234, .invokestatic 185, 237, 153), (237, .ireturn, 238, 0)]
def m_X9_day : aM := (yX9_day, 9, cX9_day, 11, (some .int), k_X9_day)
def k_X9_keep : List (Nat × aI) := [(0, .aload_n 0, 1, 0), (1, .getfield 141, 4, 94), (4, .iconst 2, 5, 2), (5, .if_icmp .ne 6, 8, 11), (8, .bipush (-3), 10, 3), (10, .ireturn, 11, 0), (11, .aload_n 0, 12, 0), (12, .getfield 22, 15, 72), (15, .iconst 0, 16, 0), (16, .aload_n 0, 17, 0), (17, .getfield 31, 20, 75), (20, .bipush 29, 22, 29), (22, .aload_n 0, 23, 0), (23, .getfield 141, 26, 94), (26, .imul, 27, 0), (27, .bipush 29, 29, 29), (29, .invokestatic 134, 32, 142), (32, .aload_n 0, 33, 0), (33, .dup, 34, 0), (34, .getfield 141, 37, 94), (37, .iconst 1, 38, 1), (38, .iadd, 39, 0), (39, .putfield 141, 42, 94), (42, .aload_n 0, 43, 0), (43, .getfield 141, 46, 94), (46, .ireturn, 47, 0)]
def m_X9_keep : aM := (yX9_keep, 9, cX9_keep, 1, (some .int), k_X9_keep)
def k_X9_back : List (Nat × aI) := [(0, .aload_n 0, 1, 0), (1, .getfield 141, 4, 94), (4, .ifCond .ne 6, 7, 10), (7, .bipush (-2), 9, 2), (9, .ireturn, 10, 0), (10, .aload_n 0, 11, 0), (11, .dup, 12, 0), (12, .getfield 141, 15, 94), (15, .iconst 1, 16, 1), (16, .isub, 17, 0), (17, .putfield 141, 20, 94), (20, .aload_n 0, 21, 0), (21, .getfield 31, 24, 75), (24, .bipush 29, 26, 29), (26, .aload_n 0, 27, 0), (27, .getfield 141, 30, 94), (30, .imul, 31, 0), (31, .aload_n 0, 32, 0), (32, .getfield 22, 35, 72), (35, .iconst 0, 36, 0), (36, .bipush 29, 38, 29), (38, .invokestatic 134, 41, 142), (41, .aload_n 0, 42, 0), (42, .iconst 0, 43, 0), (43, .putfield 138, 46, 93), (46, .aload_n 0, 47, 0), (47, .getfield 141, 50, 94), (50, .ireturn, 51, 0)]
def m_X9_back : aM := (yX9_back, 9, cX9_back, 1, (some .int), k_X9_back)
def k_X9_notUpright : List (Nat × aI) := [(0, .iconst 0, 1, 0), (1, .istore_n 1, 2, 0), (2, .iconst 0, 3, 0), (3, .istore_n 2, 4, 0), (4, .iload_n 2, 5, 0), (5, .iconst 5, 6, 5), (6, .if_icmp .ge 29, 9, 35), (9, .iload_n 1, 10, 0), (10, .aload_n 0, 11, 0), (11, .getfield 22, 14, 72), (14, .bipush 19, 16, 19), (16, .iload_n 2, 17, 0), (17, .iadd, 18, 0), (18, .iaload, 19, 0), (19, .ifCond .ne 7, 22, 26), (22, .iconst 0, 23, 0), (23, .goto 4, 26, 27), (26, .iconst 1, 27, 1), (27, .iadd, 28, 0), (28, .istore_n 1, 29, 0), (29, .iinc 2 1, 32, 1), (32, .goto (-28), 35, 4), (35, .iload_n 1, 36, 0), (36, .ireturn, 37, 0)]
def m_X9_notUpright : aM := (yX9_notUpright, 9, cX9_notUpright, 3, (some .int), k_X9_notUpright)
def k_X9_count : List (Nat × aI) := [(0, .iload_n 1, 1, 0), (1, .tableswitch 121 0 9 #[55, 60, 70, 80, 91, 96, 101, 106, 111, 116], 56, 0), (56, .aload_n 0, 57, 0), (57, .getfield 94, 60, 89), (60, .ireturn, 61, 0), (61, .aload_n 0, 62, 0), (62, .getfield 22, 65, 72), (65, .iconst 0, 66, 0), (66, .iconst 5, 67, 5), (67, .invokestatic 185, 70, 153), (70, .ireturn, 71, 0), (71, .aload_n 0, 72, 0), (72, .getfield 22, 75, 72), (75, .iconst 5, 76, 5), (76, .iconst 5, 77, 5), (77, .invokestatic 185, 80, 153), (80, .ireturn, 81, 0), (81, .aload_n 0, 82, 0), (82, .getfield 22, 85, 72), (85, .bipush 10, 87, 10), (87, .iconst 4, 88, 4), (88, .invokestatic 185, 91, 153), (91, .ireturn, 92, 0), (92, .aload_n 0, 93, 0), (93, .invokevirtual 265, 96, 175), (96, .ireturn, 97, 0), (97, .aload_n 0, 98, 0), (98, .getfield 138, 101, 93), (101, .ireturn, 102, 0), (102, .aload_n 0, 103, 0), (103, .getfield 141, 106, 94), (106, .ireturn, 107, 0), (107, .aload_n 0, 108, 0), (108, .getfield 144, 111, 95), (111, .ireturn, 112, 0), (112, .aload_n 0, 113, 0), (113, .getfield 147, 116, 96), (116, .ireturn, 117, 0), (117, .aload_n 0, 118, 0), (118, .getfield 88, 121, 88), (121, .ireturn, 122, 0), (122, .iconst (-1), 123, 1), (123, .ireturn, 124, 0)]
def m_X9_count : aM := (yX9_count, 9, cX9_count, 2, (some .int), k_X9_count)
def k_J6_bitCount : List (Nat × aI) := [(0, .iload_n 0, 1, 0), (1, .iload_n 0, 2, 0), (2, .iconst 1, 3, 1), (3, .iushr, 4, 0), (4, .ldc_w 265, 7, 15), (7, .iand, 8, 0), (8, .isub, 9, 0), (9, .istore_n 0, 10, 0), (10, .iload_n 0, 11, 0), (11, .ldc_w 266, 14, 16), (14, .iand, 15, 0), (15, .iload_n 0, 16, 0), (16, .iconst 2, 17, 2), (17, .iushr, 18, 0), (18, .ldc_w 266, 21, 16), (21, .iand, 22, 0), (22, .iadd, 23, 0), (23, .istore_n 0, 24, 0), (24, .iload_n 0, 25, 0), (25, .iload_n 0, 26, 0), (26, .iconst 4, 27, 4), (27, .iushr, 28, 0), (28, .iadd, 29, 0), (29, .ldc_w 267, 32, 17), (32, .iand, 33, 0), (33, .istore_n 0, 34, 0), (34, .iload_n 0, 35, 0), (35, .iload_n 0, 36, 0), (36, .bipush 8, 38, 8), (38, .iushr, 39, 0), (39, .iadd, 40, 0), (40, .istore_n 0, 41, 0), (41, .iload_n 0, 42, 0), (42, .iload_n 0, 43, 0), (43, .bipush 16, 45, 16), (45, .iushr, 46, 0), (46, .iadd, 47, 0), (47, .istore_n 0, 48, 0), (48, .iload_n 0, 49, 0), (49, .bipush 63, 51, 63), (51, .iand, 52, 0), (52, .ireturn, 53, 0)]
def m_J6_bitCount : aM := (yJ6_bitCount_0f7a4, 10, cJ6_bitCount_0f7a4, 1, (some .int), k_J6_bitCount)
def k_J7_fill : List (Nat × aI) := [(0, .iconst 0, 1, 0), (1, .istore_n 2, 2, 0), (2, .aload_n 0, 3, 0), (3, .arraylength, 4, 0), (4, .istore_n 3, 5, 0), (5, .iload_n 2, 6, 0), (6, .iload_n 3, 7, 0), (7, .if_icmp .ge 13, 10, 20), (10, .aload_n 0, 11, 0), (11, .iload_n 2, 12, 0), (12, .iload_n 1, 13, 0), (13, .iastore, 14, 0), (14, .iinc 2 1, 17, 1), (17, .goto (-12), 20, 5), (20, .return_, 21, 0)]
def m_J7_fill : aM := (yJ7_fill_53178, 11, cJ7_fill_53178, 4, none, k_J7_fill)
def am_tab : List aM := [m_X0_init, m_X0_find, m_X0_noteShown, m_X0_standsBehind, m_X0_fillFrom, m_X0_keepIfBetter, m_X1_init, m_X1_beginFor, m_X1_outcome, m_X1_mendableBehind, m_X1_endOf, m_X1_layOut, m_X2_init, m_X2_add, m_X2_empty, m_X2_isLike, m_X3_init, m_X3_copyFrom, m_X3_makeWhole, m_X3_rest, m_X3_sendFromRest, m_X3_sendFor, m_X3_carrySign, m_X3_shareFrom, m_X3_aheadOf, m_X3_standing, m_X3_otherWay, m_X3_readSign, m_X3_notUpright, m_X3_mendableWires, m_X3_mendAll, m_X3_swapNeedles, m_X3_swapIn, m_X4_init, m_X4_begin, m_X4_spell, m_X4_lengthOf, m_X4_signOf, m_X4_readOn, m_X4_rightOn, m_X4_isAllRightOn, m_X5_init, m_X5_empty, m_X5_remember, m_X5_undoOn, m_X5_keepLine, m_X5_backOn, m_X6_init, m_X6_append, m_X6_empty, m_X6_firstFault, m_X6_tellsMessage, m_X6_tell, m_X6_tellItem, m_X6_tellMessage, m_X6_itemEnd, m_X6_needleEnd, m_X6_wireEnd, m_X6_messageEnd, m_X6_figureAt, m_X6_letterAt, m_X7_init, m_X7_add, m_X7_empty, m_X7_possible, m_X7_agrees, m_X7_bestSign, m_X7_greatestPart, m_X7_workOutReadings, m_X7_makeWrong, m_X8_init, m_X8_write, m_X8_wipe, m_X8_fault, m_X8_lay, m_X8_needle, m_X8_wire, m_X8_spelt, m_X8_send, m_X8_cut, m_X8_turn, m_X8_touch, m_X8_mend, m_X8_change, m_X8_undo, m_X8_reads, m_X8_said, m_X8_pace, m_X8_clear, m_X8_like, m_X8_mending, m_X8_changing, m_X8_order, m_X8_see, m_X8_canBe, m_X8_tries, m_X8_hear, m_X8_fits, m_X8_forget, m_X8_duel, m_X8_odds, m_X8_mean, m_X8_day, m_X8_keep, m_X8_back, m_X8_count, m_X8_within, m_X8_isPlace, m_X8_isBeats, m_X8_isMessage, m_X8_isSaying, m_X8_bitAt, m_X8_layScript, m_X8_isAllRightMended, m_X8_slackChances, m_X8_slackShare, m_X8_lowestTerms, m_X8_commonDivisor, m_X8_drawOf, m_X8_doDrawn, m_X9_init, m_X9_in, m_X9_bits, m_X9_bring, m_X9_tells, m_X9_isMessage, m_X9_isPlace, m_X9_here, m_X9_figure, m_X9_sign, m_X9_signOf, m_X9_readMessage, m_X9_readItem, m_X9_reading, m_X9_write, m_X9_wipe, m_X9_fault, m_X9_lay, m_X9_needle, m_X9_wire, m_X9_spelt, m_X9_other, m_X9_carries, m_X9_stiff, m_X9_stands, m_X9_beat, m_X9_isSign, m_X9_readOf, m_X9_notes, m_X9_sum, m_X9_send, m_X9_cut, m_X9_turn, m_X9_touch, m_X9_touches, m_X9_mayMend, m_X9_mends, m_X9_mend, m_X9_changes, m_X9_change, m_X9_undo, m_X9_reads, m_X9_asItIs, m_X9_rests, m_X9_says, m_X9_isPace, m_X9_said, m_X9_pace, m_X9_sent, m_X9_clearOf, m_X9_clear, m_X9_like, m_X9_mending, m_X9_changing, m_X9_nextOrder, m_X9_order, m_X9_readBy, m_X9_see, m_X9_canBe, m_X9_greatest, m_X9_tries, m_X9_hear, m_X9_fits, m_X9_forget, m_X9_worthOf, m_X9_chosen, m_X9_duel, m_X9_divisor, m_X9_likely, m_X9_part, m_X9_odds, m_X9_mean, m_X9_draw, m_X9_day, m_X9_keep, m_X9_back, m_X9_notUpright, m_X9_count, m_J6_bitCount, m_J7_fill]
/-- own class, pool index, class of the object, field, its type, final -/
def am_fs : List (Nat × Nat × Nat × Nat × FieldType × Bool) := [(0, 9, 0, 0, .array .int, true), (0, 15, 0, 1, .array .int, true), (0, 18, 0, 2, .array .int, true), (0, 37, 0, 3, .int, false), (0, 46, 3, 0, .array .int, true), (0, 56, 3, 3, .array .int, true), (1, 9, 1, 3, .array .int, true), (1, 15, 1, 0, .object "LetterNeedles$Line", true), (1, 19, 1, 1, .object "LetterNeedles$Line", true), (1, 22, 1, 2, .object "LetterNeedles$Messages", true), (1, 32, 1, 4, .int, false), (1, 79, 3, 4, .int, false), (2, 9, 2, 0, .array .int, true), (2, 15, 2, 1, .int, false), (3, 9, 3, 0, .array .int, true), (3, 15, 3, 1, .array .int, true), (3, 18, 3, 2, .array .int, true), (3, 21, 3, 3, .array .int, true), (3, 24, 3, 4, .int, false), (3, 28, 3, 5, .int, false), (3, 31, 3, 6, .int, false), (4, 9, 4, 0, .array .int, true), (4, 15, 4, 1, .array .int, true), (4, 18, 4, 2, .int, false), (5, 11, 5, 0, .array (.object "LetterNeedles$Line"), true), (5, 17, 5, 1, .array (.object "LetterNeedles$Line"), true), (5, 21, 5, 3, .int, false), (5, 25, 5, 4, .int, false), (5, 28, 5, 2, .int, false), (6, 9, 6, 0, .array .char, true), (6, 15, 6, 1, .int, false), (6, 34, 3, 0, .array .int, true), (6, 40, 3, 4, .int, false), (6, 43, 3, 5, .int, false), (6, 46, 3, 6, .int, false), (7, 9, 7, 0, .array .int, true), (7, 15, 7, 1, .array .int, true), (7, 18, 7, 2, .array .byte, true), (7, 22, 7, 4, .array .int, true), (7, 25, 7, 5, .int, false), (7, 55, 7, 3, .boolean, false), (7, 71, 3, 4, .int, false), (7, 74, 3, 5, .int, false), (7, 77, 3, 6, .int, false), (7, 80, 3, 0, .array .int, true), (8, 10, 8, 0, .object "LetterNeedles$Script", true), (8, 19, 8, 1, .object "LetterNeedles$Messages", true), (8, 26, 8, 2, .object "LetterNeedles$Line", true), (8, 30, 8, 3, .object "LetterNeedles$Line", true), (8, 36, 8, 4, .object "LetterNeedles$Past", true), (8, 43, 8, 5, .object "LetterNeedles$Suspects", true), (8, 50, 8, 6, .object "LetterNeedles$Hearing", true), (8, 59, 8, 7, .object "LetterNeedles$Contest", true), (8, 66, 8, 8, .object "LetterNeedles$Arrangement", true), (8, 96, 6, 1, .int, false), (8, 106, 4, 2, .int, false), (8, 113, 3, 0, .array .int, true), (8, 117, 3, 1, .array .int, true), (8, 120, 3, 2, .array .int, true), (8, 123, 3, 4, .int, false), (8, 130, 3, 5, .int, false), (8, 133, 3, 6, .int, false), (8, 169, 5, 3, .int, false), (8, 210, 0, 3, .int, false), (8, 213, 0, 2, .array .int, true), (8, 216, 7, 5, .int, false), (8, 232, 2, 1, .int, false), (8, 262, 5, 4, .int, false), (9, 7, 9, 0, .array .int, true), (9, 13, 9, 2, .array .int, true), (9, 16, 9, 4, .array .int, true), (9, 19, 9, 5, .array .int, true), (9, 22, 9, 6, .array .int, true), (9, 25, 9, 7, .array .int, true), (9, 28, 9, 8, .array .int, true), (9, 31, 9, 10, .array .int, true), (9, 34, 9, 12, .array .int, true), (9, 37, 9, 14, .array .int, true), (9, 40, 9, 19, .array .int, true), (9, 43, 9, 20, .array .int, true), (9, 46, 9, 21, .array .int, true), (9, 49, 9, 22, .array .int, true), (9, 52, 9, 23, .array .int, true), (9, 55, 9, 24, .array .int, true), (9, 58, 9, 25, .array .int, true), (9, 61, 9, 26, .array .int, true), (9, 64, 9, 27, .array .int, true), (9, 67, 9, 28, .array .int, true), (9, 88, 9, 1, .int, false), (9, 94, 9, 3, .int, false), (9, 101, 9, 16, .int, false), (9, 107, 9, 17, .boolean, false), (9, 111, 9, 18, .int, false), (9, 138, 9, 9, .int, false), (9, 141, 9, 11, .int, false), (9, 144, 9, 13, .int, false), (9, 147, 9, 15, .int, false)]
/-- own class, pool index, callee, kind (0 virtual, 1 static, 2 special, 4 and 5 static and special of a nest mate, 6 Object.<init>, 7 and 8 String.length, charAt), parameters -/
def am_ms : List (Nat × Nat × Nat × Nat × Nat) := [(0, 3, 0, 6, 0), (0, 21, 199, 1, 2), (0, 27, 22, 0, 1), (0, 33, 2, 0, 3), (0, 42, 4, 0, 3), (0, 49, 3, 1, 4), (0, 59, 24, 0, 1), (0, 63, 25, 1, 5), (0, 67, 198, 1, 1), (0, 72, 5, 0, 1), (0, 75, 111, 4, 2), (1, 3, 0, 6, 0), (1, 26, 199, 1, 2), (1, 36, 10, 0, 2), (1, 40, 8, 0, 4), (1, 44, 9, 0, 2), (1, 47, 0, 10, 2), (1, 52, 0, 9, 2), (1, 55, 11, 0, 2), (1, 59, 29, 0, 0), (1, 65, 39, 0, 4), (1, 71, 17, 0, 1), (1, 75, 30, 0, 1), (2, 3, 0, 6, 0), (2, 19, 36, 0, 1), (2, 25, 37, 0, 2), (3, 3, 0, 6, 0), (3, 34, 19, 0, 0), (3, 37, 21, 0, 2), (3, 41, 22, 0, 1), (3, 45, 24, 0, 1), (3, 49, 25, 1, 5), (3, 53, 27, 0, 0), (3, 60, 111, 4, 2), (3, 63, 26, 1, 1), (3, 66, 23, 0, 1), (3, 72, 32, 1, 3), (4, 3, 0, 6, 0), (4, 22, 106, 4, 3), (4, 29, 19, 0, 0), (4, 34, 37, 0, 2), (4, 38, 21, 0, 2), (5, 3, 0, 6, 0), (5, 20, 16, 5, 0), (5, 31, 17, 0, 1), (5, 35, 0, 10, 2), (6, 3, 0, 6, 0), (6, 19, 55, 0, 1), (6, 23, 60, 0, 1), (6, 27, 53, 0, 4), (6, 31, 59, 0, 1), (6, 49, 54, 0, 3), (6, 53, 34, 0, 0), (6, 58, 35, 0, 1), (6, 62, 56, 0, 1), (6, 65, 57, 0, 2), (6, 69, 58, 0, 1), (6, 72, 107, 4, 1), (6, 76, 106, 4, 3), (7, 3, 0, 6, 0), (7, 29, 68, 0, 1), (7, 33, 65, 0, 1), (7, 37, 67, 0, 2), (7, 41, 199, 1, 2), (7, 47, 111, 4, 2), (7, 50, 0, 9, 2), (7, 59, 18, 0, 0), (7, 64, 69, 1, 2), (7, 68, 20, 0, 2), (8, 1, 0, 6, 0), (8, 9, 47, 5, 0), (8, 18, 33, 5, 0), (8, 25, 16, 5, 0), (8, 35, 41, 2, 0), (8, 42, 61, 5, 0), (8, 49, 12, 5, 0), (8, 56, 6, 2, 3), (8, 65, 0, 5, 0), (8, 72, 0, 7, 0), (8, 78, 0, 8, 1), (8, 82, 48, 0, 1), (8, 86, 112, 0, 0), (8, 89, 49, 0, 0), (8, 92, 106, 1, 3), (8, 99, 50, 0, 0), (8, 102, 51, 0, 0), (8, 109, 107, 1, 1), (8, 126, 111, 1, 2), (8, 136, 109, 0, 1), (8, 139, 36, 0, 1), (8, 143, 37, 0, 2), (8, 146, 43, 0, 1), (8, 150, 21, 0, 2), (8, 153, 198, 1, 1), (8, 158, 29, 0, 0), (8, 161, 30, 0, 1), (8, 165, 31, 0, 2), (8, 172, 44, 0, 1), (8, 175, 27, 0, 0), (8, 178, 110, 0, 3), (8, 181, 17, 0, 1), (8, 184, 39, 0, 4), (8, 188, 38, 0, 5), (8, 192, 40, 0, 4), (8, 196, 108, 1, 1), (8, 199, 20, 0, 2), (8, 202, 113, 0, 4), (8, 206, 1, 0, 2), (8, 219, 62, 0, 2), (8, 222, 64, 0, 1), (8, 226, 66, 0, 1), (8, 229, 67, 0, 2), (8, 235, 13, 0, 1), (8, 237, 15, 0, 2), (8, 241, 63, 0, 0), (8, 242, 14, 0, 0), (8, 243, 7, 0, 1), (8, 246, 8, 0, 4), (8, 250, 114, 0, 2), (8, 253, 116, 1, 2), (8, 256, 118, 1, 2), (8, 259, 119, 0, 2), (8, 265, 45, 0, 1), (8, 268, 46, 0, 1), (8, 271, 28, 0, 0), (8, 274, 18, 0, 0), (8, 277, 19, 0, 0), (8, 280, 52, 0, 2), (8, 284, 42, 0, 0), (8, 289, 115, 1, 3), (8, 294, 117, 1, 2), (9, 1, 0, 6, 0), (9, 72, 124, 0, 2), (9, 84, 137, 0, 0), (9, 97, 121, 1, 3), (9, 104, 127, 0, 0), (9, 114, 130, 1, 1), (9, 118, 129, 0, 1), (9, 122, 128, 0, 1), (9, 125, 131, 0, 0), (9, 128, 132, 0, 0), (9, 131, 133, 0, 0), (9, 134, 123, 1, 5), (9, 150, 126, 1, 1), (9, 154, 125, 0, 1), (9, 157, 141, 1, 1), (9, 160, 143, 0, 2), (9, 164, 142, 0, 2), (9, 168, 144, 0, 2), (9, 171, 146, 0, 2), (9, 175, 148, 0, 0), (9, 178, 145, 0, 2), (9, 181, 147, 0, 1), (9, 185, 149, 1, 3), (9, 189, 154, 1, 2), (9, 192, 155, 1, 2), (9, 195, 156, 1, 2), (9, 198, 158, 1, 3), (9, 202, 163, 0, 0), (9, 205, 165, 1, 2), (9, 209, 162, 0, 0), (9, 212, 164, 0, 3), (9, 216, 168, 0, 2), (9, 220, 169, 0, 2), (9, 223, 122, 1, 1), (9, 226, 174, 0, 0), (9, 230, 176, 0, 2), (9, 233, 178, 0, 0), (9, 236, 179, 0, 2), (9, 239, 184, 0, 3), (9, 242, 185, 0, 2), (9, 247, 187, 1, 2), (9, 250, 188, 0, 2), (9, 253, 189, 1, 2), (9, 262, 192, 1, 2), (9, 265, 196, 0, 0)]
def am_ks : List (Nat × Nat × (Int32 ⊕ Int64)) := [(0, 41, .inl 1048575), (8, 293, .inl 100000), (8, 297, .inr 7919), (8, 299, .inr 6151), (8, 301, .inr 65521), (9, 70, .inr 7940176207992992556), (9, 76, .inr 3619603493795221845), (9, 78, .inr 4704930455205270348), (9, 80, .inr 5716553677576948801), (9, 82, .inr 5522747), (9, 92, .inr 255), (9, 246, .inl 100000), (9, 256, .inr 7919), (9, 258, .inr 6151), (9, 260, .inr 65521), (10, 265, .inl 1431655765), (10, 266, .inl 858993459), (10, 267, .inl 252645135)]
def am_ss : List (Nat × Nat × Nat × Bool) := [(0, 53, 0, true), (3, 57, 0, true), (3, 69, 1, true), (4, 26, 2, true), (8, 286, 0, false)]
def am_cs : List (Nat × Nat × Nat) := [(5, 9, 3), (8, 7, 6), (8, 16, 4), (8, 23, 3), (8, 33, 5), (8, 40, 7), (8, 47, 2), (8, 54, 1), (8, 63, 0)]
end
section
def am_y (k : Nat) : MethodName := (am_tab.getD k m_X0_init).1
def am_fw (q : Nat × Nat × Nat × Nat × FieldType × Bool) : Cond := .fieldLink (am_nm q.1) q.2.1 (am_cl q.2.2.1).1 ((am_cl q.2.2.1).2.1 q.2.2.2.1).2.1 ((am_cl q.2.2.1).2.1 q.2.2.2.1).2.2.1
def am_sw (q : Nat × Nat × Nat × Nat × Nat) : List Cond := match q.2.2.2.1 with
  | 0 => [.methodLink (am_nm q.1) q.2.1 (am_y q.2.2.1), .instanceMethod (am_y q.2.2.1), .selects (am_y q.2.2.1).cls (am_y q.2.2.1) (am_y q.2.2.1), .initialized (am_y q.2.2.1).cls]
  | 1 => [.methodLink (am_nm q.1) q.2.1 (am_y q.2.2.1), .static (am_y q.2.2.1), .initialized (am_y q.2.2.1).cls]
  | 2 => [.methodLink (am_nm q.1) q.2.1 (am_y q.2.2.1), .instanceMethod (am_y q.2.2.1), .initialized (am_y q.2.2.1).cls]
  | 4 => [.static (am_y q.2.2.1), .initialized (am_y q.2.2.1).cls]
  | 5 => [.instanceMethod (am_y q.2.2.1), .initialized (am_y q.2.2.1).cls]
  | 6 => [.methodLink (am_nm q.1) q.2.1 objectInit, .instanceMethod objectInit, .code objectInit ⟨#[0xb1]⟩ 1 none]
  | 9 => [.methodLink (am_nm q.1) q.2.1 Lib.Math.max.name, .static Lib.Math.max.name, .initialized "java/lang/Math", .code Lib.Math.max.name Lib.Math.max.code 2 (some .int)]
  | 10 => [.methodLink (am_nm q.1) q.2.1 Lib.Math.min.name, .static Lib.Math.min.name, .initialized "java/lang/Math", .code Lib.Math.min.name Lib.Math.min.code 2 (some .int)]
  | _ => []
def am_cw (m : aM) : Cond := .code m.1 m.2.2.1 m.2.2.2.1 m.2.2.2.2.1
def am_kw (q : Nat × Nat × (Int32 ⊕ Int64)) : Cond := match q.2.2 with
  | .inl v => .constant (am_nm q.1) q.2.1 v
  | .inr v => .constantLong (am_nm q.1) q.2.1 v
def am_nw (q : Nat × Nat × Nat) : List Cond := [.classLink (am_nm q.1) q.2.1 (am_cl q.2.2).1, .instantiable (am_cl q.2.2).1 (am_cl q.2.2).2.2, .initialized (am_cl q.2.2).1]
def am_uw (q : vw_C) : List Cond := u_ws q.1 q.2.1 q.2.2
theorem am_appM {α : Type} {big : List Cond} {f : α → Cond} {a b : List α} (ha : GoodIn big (a.map f)) (hb : GoodIn big (b.map f)) : GoodIn big ((a ++ b).map f) := by rw [List.map_append]; exact goodIn_app ha hb
theorem am_appF {α : Type} {big : List Cond} {f : α → List Cond} {a b : List α} (ha : GoodIn big (a.flatMap f)) (hb : GoodIn big (b.flatMap f)) : GoodIn big ((a ++ b).flatMap f) := by rw [List.flatMap_append]; exact goodIn_app ha hb
def am_fs0 : List (Nat × Nat × Nat × Nat × FieldType × Bool) := [(0, 9, 0, 0, .array .int, true), (0, 15, 0, 1, .array .int, true), (0, 18, 0, 2, .array .int, true), (0, 37, 0, 3, .int, false), (0, 46, 3, 0, .array .int, true), (0, 56, 3, 3, .array .int, true), (1, 9, 1, 3, .array .int, true), (1, 15, 1, 0, .object "LetterNeedles$Line", true), (1, 19, 1, 1, .object "LetterNeedles$Line", true), (1, 22, 1, 2, .object "LetterNeedles$Messages", true), (1, 32, 1, 4, .int, false), (1, 79, 3, 4, .int, false), (2, 9, 2, 0, .array .int, true), (2, 15, 2, 1, .int, false), (3, 9, 3, 0, .array .int, true), (3, 15, 3, 1, .array .int, true), (3, 18, 3, 2, .array .int, true), (3, 21, 3, 3, .array .int, true), (3, 24, 3, 4, .int, false), (3, 28, 3, 5, .int, false), (3, 31, 3, 6, .int, false), (4, 9, 4, 0, .array .int, true), (4, 15, 4, 1, .array .int, true), (4, 18, 4, 2, .int, false), (5, 11, 5, 0, .array (.object "LetterNeedles$Line"), true)]
set_option maxRecDepth 20000 in
theorem am_fs0_g : GoodIn lw_tbl (am_fs0.map am_fw) := goodIn_r _ [250, 251, 252, 254, 116, 125, 231, 228, 229, 230, 232, 127, 214, 215, 115, 120, 122, 124, 126, 131, 135, 97, 98, 99, 163] (by decide +kernel) (by decide +kernel)
def am_fs1 : List (Nat × Nat × Nat × Nat × FieldType × Bool) := [(5, 17, 5, 1, .array (.object "LetterNeedles$Line"), true), (5, 21, 5, 3, .int, false), (5, 25, 5, 4, .int, false), (5, 28, 5, 2, .int, false), (6, 9, 6, 0, .array .char, true), (6, 15, 6, 1, .int, false), (6, 34, 3, 0, .array .int, true), (6, 40, 3, 4, .int, false), (6, 43, 3, 5, .int, false), (6, 46, 3, 6, .int, false), (7, 9, 7, 0, .array .int, true), (7, 15, 7, 1, .array .int, true), (7, 18, 7, 2, .array .byte, true), (7, 22, 7, 4, .array .int, true), (7, 25, 7, 5, .int, false), (7, 55, 7, 3, .boolean, false), (7, 71, 3, 4, .int, false), (7, 74, 3, 5, .int, false), (7, 77, 3, 6, .int, false), (7, 80, 3, 0, .array .int, true), (8, 10, 8, 0, .object "LetterNeedles$Script", true), (8, 19, 8, 1, .object "LetterNeedles$Messages", true), (8, 26, 8, 2, .object "LetterNeedles$Line", true), (8, 30, 8, 3, .object "LetterNeedles$Line", true), (8, 36, 8, 4, .object "LetterNeedles$Past", true)]
set_option maxRecDepth 20000 in
theorem am_fs1_g : GoodIn lw_tbl (am_fs1.map am_fw) := goodIn_r _ [164, 166, 168, 165, 82, 83, 118, 129, 133, 137, 187, 188, 189, 191, 192, 190, 130, 134, 138, 119, 400, 401, 402, 403, 404] (by decide +kernel) (by decide +kernel)
def am_fs2 : List (Nat × Nat × Nat × Nat × FieldType × Bool) := [(8, 43, 8, 5, .object "LetterNeedles$Suspects", true), (8, 50, 8, 6, .object "LetterNeedles$Hearing", true), (8, 59, 8, 7, .object "LetterNeedles$Contest", true), (8, 66, 8, 8, .object "LetterNeedles$Arrangement", true), (8, 96, 6, 1, .int, false), (8, 106, 4, 2, .int, false), (8, 113, 3, 0, .array .int, true), (8, 117, 3, 1, .array .int, true), (8, 120, 3, 2, .array .int, true), (8, 123, 3, 4, .int, false), (8, 130, 3, 5, .int, false), (8, 133, 3, 6, .int, false), (8, 169, 5, 3, .int, false), (8, 210, 0, 3, .int, false), (8, 213, 0, 2, .array .int, true), (8, 216, 7, 5, .int, false), (8, 232, 2, 1, .int, false), (8, 262, 5, 4, .int, false), (9, 7, 9, 0, .array .int, true), (9, 13, 9, 2, .array .int, true), (9, 16, 9, 4, .array .int, true), (9, 19, 9, 5, .array .int, true), (9, 22, 9, 6, .array .int, true), (9, 25, 9, 7, .array .int, true), (9, 28, 9, 8, .array .int, true)]
set_option maxRecDepth 20000 in
theorem am_fs2_g : GoodIn lw_tbl (am_fs2.map am_fw) := goodIn_r _ [405, 406, 407, 408, 84, 100, 117, 121, 123, 128, 132, 136, 167, 255, 253, 193, 216, 169, 885, 887, 889, 890, 891, 892, 893] (by decide +kernel) (by decide +kernel)
def am_fs3 : List (Nat × Nat × Nat × Nat × FieldType × Bool) := [(9, 31, 9, 10, .array .int, true), (9, 34, 9, 12, .array .int, true), (9, 37, 9, 14, .array .int, true), (9, 40, 9, 19, .array .int, true), (9, 43, 9, 20, .array .int, true), (9, 46, 9, 21, .array .int, true), (9, 49, 9, 22, .array .int, true), (9, 52, 9, 23, .array .int, true), (9, 55, 9, 24, .array .int, true), (9, 58, 9, 25, .array .int, true), (9, 61, 9, 26, .array .int, true), (9, 64, 9, 27, .array .int, true), (9, 67, 9, 28, .array .int, true), (9, 88, 9, 1, .int, false), (9, 94, 9, 3, .int, false), (9, 101, 9, 16, .int, false), (9, 107, 9, 17, .boolean, false), (9, 111, 9, 18, .int, false), (9, 138, 9, 9, .int, false), (9, 141, 9, 11, .int, false), (9, 144, 9, 13, .int, false), (9, 147, 9, 15, .int, false)]
set_option maxRecDepth 20000 in
theorem am_fs3_g : GoodIn lw_tbl (am_fs3.map am_fw) := goodIn_r _ [895, 897, 899, 904, 905, 906, 907, 908, 909, 910, 911, 912, 913, 886, 888, 901, 902, 903, 894, 896, 898, 900] (by decide +kernel) (by decide +kernel)
set_option maxRecDepth 20000 in
theorem am_fs_eq : am_fs = am_fs0 ++ (am_fs1 ++ (am_fs2 ++ (am_fs3))) := by decide +kernel
theorem am_fs_g : GoodIn lw_tbl (am_fs.map am_fw) := by rw [am_fs_eq]; exact am_appM am_fs0_g (am_appM am_fs1_g (am_appM am_fs2_g (am_fs3_g)))
def am_ms0 : List (Nat × Nat × Nat × Nat × Nat) := [(0, 3, 0, 6, 0), (0, 21, 199, 1, 2), (0, 27, 22, 0, 1), (0, 33, 2, 0, 3), (0, 42, 4, 0, 3), (0, 49, 3, 1, 4), (0, 59, 24, 0, 1), (0, 63, 25, 1, 5), (0, 67, 198, 1, 1), (0, 72, 5, 0, 1), (0, 75, 111, 4, 2), (1, 3, 0, 6, 0), (1, 26, 199, 1, 2), (1, 36, 10, 0, 2), (1, 40, 8, 0, 4)]
set_option maxRecDepth 20000 in
theorem am_ms0_g : GoodIn lw_tbl (am_ms0.flatMap am_sw) := goodIn_r _ [249, 74, 75, 645, 646, 67, 648, 500, 501, 54, 649, 651, 13, 59, 660, 662, 14, 59, 653, 654, 59, 656, 514, 515, 54, 657, 518, 54, 664, 531, 66, 665, 667, 15, 59, 462, 51, 227, 74, 75, 747, 646, 67, 752, 754, 18, 58, 763, 749, 750, 58] (by decide +kernel) (by decide +kernel)
def am_ms1 : List (Nat × Nat × Nat × Nat × Nat) := [(1, 44, 9, 0, 2), (1, 47, 0, 10, 2), (1, 52, 0, 9, 2), (1, 55, 11, 0, 2), (1, 59, 29, 0, 0), (1, 65, 39, 0, 4), (1, 71, 17, 0, 1), (1, 75, 30, 0, 1), (2, 3, 0, 6, 0), (2, 19, 36, 0, 1), (2, 25, 37, 0, 2), (3, 3, 0, 6, 0), (3, 34, 19, 0, 0), (3, 37, 21, 0, 2), (3, 41, 22, 0, 1)]
set_option maxRecDepth 20000 in
theorem am_ms1_g : GoodIn lw_tbl (am_ms1.flatMap am_sw) := goodIn_r _ [764, 766, 20, 58, 769, 493, 65, 494, 770, 714, 65, 715, 756, 758, 19, 58, 768, 549, 550, 54, 762, 593, 594, 53, 760, 489, 490, 54, 761, 553, 554, 54, 213, 74, 75, 733, 473, 474, 53, 734, 477, 478, 53, 114, 74, 75, 619, 327, 328, 54, 620, 496, 497, 54, 499, 500, 501, 54] (by decide +kernel) (by decide +kernel)
def am_ms2 : List (Nat × Nat × Nat × Nat × Nat) := [(3, 45, 24, 0, 1), (3, 49, 25, 1, 5), (3, 53, 27, 0, 0), (3, 60, 111, 4, 2), (3, 63, 26, 1, 1), (3, 66, 23, 0, 1), (3, 72, 32, 1, 3), (4, 3, 0, 6, 0), (4, 22, 106, 4, 3), (4, 29, 19, 0, 0), (4, 34, 37, 0, 2), (4, 38, 21, 0, 2), (5, 3, 0, 6, 0), (5, 20, 16, 5, 0), (5, 31, 17, 0, 1)]
set_option maxRecDepth 20000 in
theorem am_ms2_g : GoodIn lw_tbl (am_ms2.flatMap am_sw) := goodIn_r _ [513, 514, 515, 54, 517, 518, 54, 520, 521, 522, 54, 462, 51, 506, 507, 54, 509, 511, 10, 54, 564, 565, 54, 96, 74, 75, 351, 51, 596, 327, 328, 54, 597, 477, 478, 53, 598, 496, 497, 54, 159, 74, 75, 112, 54, 488, 489, 490, 54] (by decide +kernel) (by decide +kernel)
def am_ms3 : List (Nat × Nat × Nat × Nat × Nat) := [(5, 35, 0, 10, 2), (6, 3, 0, 6, 0), (6, 19, 55, 0, 1), (6, 23, 60, 0, 1), (6, 27, 53, 0, 4), (6, 31, 59, 0, 1), (6, 49, 54, 0, 3), (6, 53, 34, 0, 0), (6, 58, 35, 0, 1), (6, 62, 56, 0, 1), (6, 65, 57, 0, 2), (6, 69, 58, 0, 1), (6, 72, 107, 4, 1), (6, 76, 106, 4, 3), (7, 3, 0, 6, 0)]
set_option maxRecDepth 20000 in
theorem am_ms3_g : GoodIn lw_tbl (am_ms3.flatMap am_sw) := goodIn_r _ [492, 493, 65, 494, 81, 74, 75, 334, 336, 1, 52, 338, 340, 2, 52, 365, 367, 7, 52, 346, 348, 4, 52, 369, 371, 8, 52, 373, 374, 375, 53, 377, 378, 379, 53, 342, 344, 3, 52, 357, 359, 5, 52, 361, 363, 6, 52, 354, 51, 351, 51, 186, 74, 75] (by decide +kernel) (by decide +kernel)
def am_ms4 : List (Nat × Nat × Nat × Nat × Nat) := [(7, 29, 68, 0, 1), (7, 33, 65, 0, 1), (7, 37, 67, 0, 2), (7, 41, 199, 1, 2), (7, 47, 111, 4, 2), (7, 50, 0, 9, 2), (7, 59, 18, 0, 0), (7, 64, 69, 1, 2), (7, 68, 20, 0, 2), (8, 1, 0, 6, 0), (8, 9, 47, 5, 0), (8, 18, 33, 5, 0), (8, 25, 16, 5, 0), (8, 35, 41, 2, 0), (8, 42, 61, 5, 0)]
set_option maxRecDepth 20000 in
theorem am_ms4_g : GoodIn lw_tbl (am_ms4.flatMap am_sw) := goodIn_r _ [686, 688, 16, 56, 695, 697, 17, 56, 707, 708, 709, 56, 711, 646, 67, 462, 51, 713, 714, 65, 715, 690, 323, 324, 54, 691, 692, 56, 694, 616, 617, 54, 73, 74, 75, 79, 52, 94, 53, 112, 54, 156, 157, 55, 184, 56] (by decide +kernel) (by decide +kernel)
def am_ms5 : List (Nat × Nat × Nat × Nat × Nat) := [(8, 49, 12, 5, 0), (8, 56, 6, 2, 3), (8, 65, 0, 5, 0), (8, 72, 0, 7, 0), (8, 78, 0, 8, 1), (8, 82, 48, 0, 1), (8, 86, 112, 0, 0), (8, 89, 49, 0, 0), (8, 92, 106, 1, 3), (8, 99, 50, 0, 0), (8, 102, 51, 0, 0), (8, 109, 107, 1, 1), (8, 126, 111, 1, 2), (8, 136, 109, 0, 1), (8, 139, 36, 0, 1)]
set_option maxRecDepth 20000 in
theorem am_ms5_g : GoodIn lw_tbl (am_ms5.flatMap am_sw) := goodIn_r _ [211, 57, 224, 225, 58, 247, 59, 314, 315, 316, 52, 318, 320, 0, 51, 396, 397, 398, 52, 356, 351, 51, 440, 441, 442, 52, 448, 449, 450, 52, 456, 354, 51, 461, 462, 51, 468, 470, 9, 51, 472, 473, 474, 53] (by decide +kernel) (by decide +kernel)
def am_ms6 : List (Nat × Nat × Nat × Nat × Nat) := [(8, 143, 37, 0, 2), (8, 146, 43, 0, 1), (8, 150, 21, 0, 2), (8, 153, 198, 1, 1), (8, 158, 29, 0, 0), (8, 161, 30, 0, 1), (8, 165, 31, 0, 2), (8, 172, 44, 0, 1), (8, 175, 27, 0, 0), (8, 178, 110, 0, 3), (8, 181, 17, 0, 1), (8, 184, 39, 0, 4), (8, 188, 38, 0, 5), (8, 192, 40, 0, 4), (8, 196, 108, 1, 1)]
set_option maxRecDepth 20000 in
theorem am_ms6_g : GoodIn lw_tbl (am_ms6.flatMap am_sw) := goodIn_r _ [476, 477, 478, 53, 484, 485, 486, 55, 495, 496, 497, 54, 530, 531, 66, 548, 549, 550, 54, 552, 553, 554, 54, 560, 561, 562, 54, 571, 572, 573, 55, 579, 521, 522, 54, 584, 586, 11, 51, 591, 489, 490, 54, 592, 593, 594, 53, 599, 600, 601, 53, 607, 608, 609, 53, 588, 589, 51] (by decide +kernel) (by decide +kernel)
def am_ms7 : List (Nat × Nat × Nat × Nat × Nat) := [(8, 199, 20, 0, 2), (8, 202, 113, 0, 4), (8, 206, 1, 0, 2), (8, 219, 62, 0, 2), (8, 222, 64, 0, 1), (8, 226, 66, 0, 1), (8, 229, 67, 0, 2), (8, 235, 13, 0, 1), (8, 237, 15, 0, 2), (8, 241, 63, 0, 0), (8, 242, 14, 0, 0), (8, 243, 7, 0, 1), (8, 246, 8, 0, 4), (8, 250, 114, 0, 2), (8, 253, 116, 1, 2)]
set_option maxRecDepth 20000 in
theorem am_ms7_g : GoodIn lw_tbl (am_ms7.flatMap am_sw) := goodIn_r _ [615, 616, 617, 54, 629, 631, 12, 51, 641, 642, 643, 59, 674, 675, 676, 56, 682, 683, 684, 56, 703, 704, 705, 56, 716, 708, 709, 56, 721, 722, 723, 57, 729, 730, 731, 57, 388, 389, 390, 56, 392, 393, 394, 57, 743, 744, 745, 58, 748, 749, 750, 58, 775, 777, 21, 51, 783, 784, 51] (by decide +kernel) (by decide +kernel)
def am_ms8 : List (Nat × Nat × Nat × Nat × Nat) := [(8, 256, 118, 1, 2), (8, 259, 119, 0, 2), (8, 265, 45, 0, 1), (8, 268, 46, 0, 1), (8, 271, 28, 0, 0), (8, 274, 18, 0, 0), (8, 277, 19, 0, 0), (8, 280, 52, 0, 2), (8, 284, 42, 0, 0), (8, 289, 115, 1, 3), (8, 294, 117, 1, 2), (9, 1, 0, 6, 0), (9, 72, 124, 0, 2), (9, 84, 137, 0, 0), (9, 97, 121, 1, 3)]
set_option maxRecDepth 20000 in
theorem am_ms8_g : GoodIn lw_tbl (am_ms8.flatMap am_sw) := goodIn_r _ [798, 799, 51, 804, 806, 22, 51, 812, 813, 814, 55, 820, 821, 822, 55, 828, 829, 830, 54, 322, 323, 324, 54, 326, 327, 328, 54, 330, 331, 332, 52, 384, 385, 386, 55, 780, 781, 51, 787, 788, 51, 837, 74, 75, 839, 841, 23, 64, 848, 849, 850, 64, 868, 869, 64] (by decide +kernel) (by decide +kernel)
def am_ms9 : List (Nat × Nat × Nat × Nat × Nat) := [(9, 104, 127, 0, 0), (9, 114, 130, 1, 1), (9, 118, 129, 0, 1), (9, 122, 128, 0, 1), (9, 125, 131, 0, 0), (9, 128, 132, 0, 0), (9, 131, 133, 0, 0), (9, 134, 123, 1, 5), (9, 150, 126, 1, 1), (9, 154, 125, 0, 1), (9, 157, 141, 1, 1), (9, 160, 143, 0, 2), (9, 164, 142, 0, 2), (9, 168, 144, 0, 2), (9, 171, 146, 0, 2)]
set_option maxRecDepth 20000 in
theorem am_ms9_g : GoodIn lw_tbl (am_ms9.flatMap am_sw) := goodIn_r _ [860, 862, 26, 64, 879, 880, 64, 871, 873, 28, 64, 864, 866, 27, 64, 875, 877, 29, 64, 856, 858, 25, 64, 852, 854, 24, 64, 882, 883, 64, 990, 991, 64, 1001, 1003, 30, 64, 1021, 1022, 64, 1028, 1030, 35, 64, 1017, 1019, 33, 64, 1024, 1026, 34, 64, 1036, 1038, 37, 64] (by decide +kernel) (by decide +kernel)
def am_ms10 : List (Nat × Nat × Nat × Nat × Nat) := [(9, 175, 148, 0, 0), (9, 178, 145, 0, 2), (9, 181, 147, 0, 1), (9, 185, 149, 1, 3), (9, 189, 154, 1, 2), (9, 192, 155, 1, 2), (9, 195, 156, 1, 2), (9, 198, 158, 1, 3), (9, 202, 163, 0, 0), (9, 205, 165, 1, 2), (9, 209, 162, 0, 0), (9, 212, 164, 0, 3), (9, 216, 168, 0, 2), (9, 220, 169, 0, 2), (9, 223, 122, 1, 1)]
set_option maxRecDepth 20000 in
theorem am_ms10_g : GoodIn lw_tbl (am_ms10.flatMap am_sw) := goodIn_r _ [1009, 1011, 31, 64, 1013, 1015, 32, 64, 1032, 1034, 36, 64, 1044, 1045, 64, 1062, 1063, 64, 1059, 1060, 64, 1065, 1066, 64, 1072, 1073, 64, 1098, 1100, 40, 64, 1087, 1088, 64, 1090, 1092, 38, 64, 1094, 1096, 39, 64, 1114, 1116, 42, 64, 1110, 1112, 41, 64, 1126, 1127, 64] (by decide +kernel) (by decide +kernel)
def am_ms11 : List (Nat × Nat × Nat × Nat × Nat) := [(9, 226, 174, 0, 0), (9, 230, 176, 0, 2), (9, 233, 178, 0, 0), (9, 236, 179, 0, 2), (9, 239, 184, 0, 3), (9, 242, 185, 0, 2), (9, 247, 187, 1, 2), (9, 250, 188, 0, 2), (9, 253, 189, 1, 2), (9, 262, 192, 1, 2), (9, 265, 196, 0, 0)]
set_option maxRecDepth 20000 in
theorem am_ms11_g : GoodIn lw_tbl (am_ms11.flatMap am_sw) := goodIn_r _ [1137, 1139, 43, 64, 1149, 1151, 44, 64, 1157, 1146, 1147, 64, 1158, 1160, 45, 64, 1178, 1180, 46, 64, 1182, 1184, 47, 64, 1198, 1199, 64, 1190, 1192, 48, 64, 1194, 1195, 64, 1209, 1210, 64, 1227, 1229, 49, 64] (by decide +kernel) (by decide +kernel)
set_option maxRecDepth 20000 in
theorem am_ms_eq : am_ms = am_ms0 ++ (am_ms1 ++ (am_ms2 ++ (am_ms3 ++ (am_ms4 ++ (am_ms5 ++ (am_ms6 ++ (am_ms7 ++ (am_ms8 ++ (am_ms9 ++ (am_ms10 ++ (am_ms11))))))))))) := by decide +kernel
theorem am_ms_g : GoodIn lw_tbl (am_ms.flatMap am_sw) := by rw [am_ms_eq]; exact am_appF am_ms0_g (am_appF am_ms1_g (am_appF am_ms2_g (am_appF am_ms3_g (am_appF am_ms4_g (am_appF am_ms5_g (am_appF am_ms6_g (am_appF am_ms7_g (am_appF am_ms8_g (am_appF am_ms9_g (am_appF am_ms10_g (am_ms11_g)))))))))))
def am_tab0 : List (aM) := [m_X0_init, m_X0_find, m_X0_noteShown, m_X0_standsBehind, m_X0_fillFrom, m_X0_keepIfBetter, m_X1_init, m_X1_beginFor, m_X1_outcome, m_X1_mendableBehind, m_X1_endOf, m_X1_layOut, m_X2_init, m_X2_add, m_X2_empty, m_X2_isLike, m_X3_init, m_X3_copyFrom, m_X3_makeWhole, m_X3_rest]
set_option maxRecDepth 20000 in
theorem am_tab0_g : GoodIn lw_tbl (am_tab0.map am_cw) := goodIn_r _ [248, 644, 652, 655, 663, 668, 226, 746, 751, 767, 755, 759, 212, 724, 395, 732, 113, 491, 325, 329] (by decide +kernel) (by decide +kernel)
def am_tab1 : List (aM) := [m_X3_sendFromRest, m_X3_sendFor, m_X3_carrySign, m_X3_shareFrom, m_X3_aheadOf, m_X3_standing, m_X3_otherWay, m_X3_readSign, m_X3_notUpright, m_X3_mendableWires, m_X3_mendAll, m_X3_swapNeedles, m_X3_swapIn, m_X4_init, m_X4_begin, m_X4_spell, m_X4_lengthOf, m_X4_signOf, m_X4_readOn, m_X4_rightOn]
set_option maxRecDepth 20000 in
theorem am_tab1_g : GoodIn lw_tbl (am_tab1.map am_cw) := goodIn_r _ [618, 498, 502, 512, 516, 519, 508, 523, 831, 551, 555, 563, 566, 95, 376, 380, 475, 479, 602, 595] (by decide +kernel) (by decide +kernel)
def am_tab2 : List (aM) := [m_X4_isAllRightOn, m_X5_init, m_X5_empty, m_X5_remember, m_X5_undoOn, m_X5_keepLine, m_X5_backOn, m_X6_init, m_X6_append, m_X6_empty, m_X6_firstFault, m_X6_tellsMessage, m_X6_tell, m_X6_tellItem, m_X6_tellMessage, m_X6_itemEnd, m_X6_needleEnd, m_X6_wireEnd, m_X6_messageEnd, m_X6_figureAt]
set_option maxRecDepth 20000 in
theorem am_tab2_g : GoodIn lw_tbl (am_tab2.map am_cw) := goodIn_r _ [610, 158, 387, 487, 574, 815, 823, 80, 317, 399, 443, 451, 333, 368, 372, 337, 345, 360, 364, 349] (by decide +kernel) (by decide +kernel)
def am_tab3 : List (aM) := [m_X6_letterAt, m_X7_init, m_X7_add, m_X7_empty, m_X7_possible, m_X7_agrees, m_X7_bestSign, m_X7_greatestPart, m_X7_workOutReadings, m_X7_makeWrong, m_X8_init, m_X8_write, m_X8_wipe, m_X8_fault, m_X8_lay, m_X8_needle, m_X8_wire, m_X8_spelt, m_X8_send, m_X8_cut]
set_option maxRecDepth 20000 in
theorem am_tab3_g : GoodIn lw_tbl (am_tab3.map am_cw) := goodIn_r _ [341, 185, 677, 391, 685, 698, 706, 710, 689, 693, 72, 431, 435, 439, 447, 455, 460, 467, 483, 529] (by decide +kernel) (by decide +kernel)
def am_tab4 : List (aM) := [m_X8_turn, m_X8_touch, m_X8_mend, m_X8_change, m_X8_undo, m_X8_reads, m_X8_said, m_X8_pace, m_X8_clear, m_X8_like, m_X8_mending, m_X8_changing, m_X8_order, m_X8_see, m_X8_canBe, m_X8_tries, m_X8_hear, m_X8_fits, m_X8_forget, m_X8_duel]
set_option maxRecDepth 20000 in
theorem am_tab4_g : GoodIn lw_tbl (am_tab4.map am_cw) := goodIn_r _ [539, 543, 547, 559, 570, 578, 583, 606, 614, 624, 628, 636, 640, 673, 681, 702, 720, 728, 738, 742] (by decide +kernel) (by decide +kernel)
def am_tab5 : List (aM) := [m_X8_odds, m_X8_mean, m_X8_day, m_X8_keep, m_X8_back, m_X8_count, m_X8_within, m_X8_isPlace, m_X8_isBeats, m_X8_isMessage, m_X8_isSaying, m_X8_bitAt, m_X8_layScript, m_X8_isAllRightMended, m_X8_slackChances, m_X8_slackShare, m_X8_lowestTerms, m_X8_commonDivisor, m_X8_drawOf, m_X8_doDrawn]
set_option maxRecDepth 20000 in
theorem am_tab5_g : GoodIn lw_tbl (am_tab5.map am_cw) := goodIn_r _ [774, 793, 797, 811, 819, 827, 352, 355, 590, 471, 587, 463, 321, 632, 778, 782, 785, 789, 800, 807] (by decide +kernel) (by decide +kernel)
def am_tab6 : List (aM) := [m_X9_init, m_X9_in, m_X9_bits, m_X9_bring, m_X9_tells, m_X9_isMessage, m_X9_isPlace, m_X9_here, m_X9_figure, m_X9_sign, m_X9_signOf, m_X9_readMessage, m_X9_readItem, m_X9_reading, m_X9_write, m_X9_wipe, m_X9_fault, m_X9_lay, m_X9_needle, m_X9_wire]
set_option maxRecDepth 20000 in
theorem am_tab6_g : GoodIn lw_tbl (am_tab6.map am_cw) := goodIn_r _ [836, 870, 1128, 884, 842, 1004, 992, 863, 867, 874, 881, 878, 859, 855, 976, 980, 984, 851, 989, 996] (by decide +kernel) (by decide +kernel)
def am_tab7 : List (aM) := [m_X9_spelt, m_X9_other, m_X9_carries, m_X9_stiff, m_X9_stands, m_X9_beat, m_X9_isSign, m_X9_readOf, m_X9_notes, m_X9_sum, m_X9_send, m_X9_cut, m_X9_turn, m_X9_touch, m_X9_touches, m_X9_mayMend, m_X9_mends, m_X9_mend, m_X9_changes, m_X9_change]
set_option maxRecDepth 20000 in
theorem am_tab7_g : GoodIn lw_tbl (am_tab7.map am_cw) := goodIn_r _ [1000, 1023, 1020, 1031, 1027, 1016, 1039, 1035, 1012, 1046, 1008, 1043, 1050, 1054, 1064, 1061, 1067, 1058, 1074, 1071] (by decide +kernel) (by decide +kernel)
def am_tab8 : List (aM) := [m_X9_undo, m_X9_reads, m_X9_asItIs, m_X9_rests, m_X9_says, m_X9_isPace, m_X9_said, m_X9_pace, m_X9_sent, m_X9_clearOf, m_X9_clear, m_X9_like, m_X9_mending, m_X9_changing, m_X9_nextOrder, m_X9_order, m_X9_readBy, m_X9_see, m_X9_canBe, m_X9_greatest]
set_option maxRecDepth 20000 in
theorem am_tab8_g : GoodIn lw_tbl (am_tab8.map am_cw) := goodIn_r _ [1078, 1082, 1093, 1101, 1097, 1089, 1086, 1105, 1117, 1113, 1109, 1121, 1125, 1132, 1140, 1136, 1152, 1144, 1148, 1161] (by decide +kernel) (by decide +kernel)
def am_tab9 : List (aM) := [m_X9_tries, m_X9_hear, m_X9_fits, m_X9_forget, m_X9_worthOf, m_X9_chosen, m_X9_duel, m_X9_divisor, m_X9_likely, m_X9_part, m_X9_odds, m_X9_mean, m_X9_draw, m_X9_day, m_X9_keep, m_X9_back, m_X9_notUpright, m_X9_count, m_J6_bitCount, m_J7_fill]
set_option maxRecDepth 20000 in
theorem am_tab9_g : GoodIn lw_tbl (am_tab9.map am_cw) := goodIn_r _ [1156, 1165, 1169, 1173, 1181, 1185, 1177, 1200, 1193, 1196, 1189, 1204, 1211, 1208, 1218, 1222, 1230, 1226, 532, 647] (by decide +kernel) (by decide +kernel)
set_option maxRecDepth 20000 in
theorem am_tab_eq : am_tab = am_tab0 ++ (am_tab1 ++ (am_tab2 ++ (am_tab3 ++ (am_tab4 ++ (am_tab5 ++ (am_tab6 ++ (am_tab7 ++ (am_tab8 ++ (am_tab9))))))))) := rfl
theorem am_tab_g : GoodIn lw_tbl (am_tab.map am_cw) := by rw [am_tab_eq]; exact am_appM am_tab0_g (am_appM am_tab1_g (am_appM am_tab2_g (am_appM am_tab3_g (am_appM am_tab4_g (am_appM am_tab5_g (am_appM am_tab6_g (am_appM am_tab7_g (am_appM am_tab8_g (am_tab9_g)))))))))
def am_ks0 : List (Nat × Nat × (Int32 ⊕ Int64)) := [(0, 41, .inl 1048575), (8, 293, .inl 100000), (8, 297, .inr 7919), (8, 299, .inr 6151), (8, 301, .inr 65521), (9, 70, .inr 7940176207992992556), (9, 76, .inr 3619603493795221845), (9, 78, .inr 4704930455205270348), (9, 80, .inr 5716553677576948801), (9, 82, .inr 5522747), (9, 92, .inr 255), (9, 246, .inl 100000), (9, 256, .inr 7919), (9, 258, .inr 6151), (9, 260, .inr 65521), (10, 265, .inl 1431655765), (10, 266, .inl 858993459), (10, 267, .inl 252645135)]
set_option maxRecDepth 20000 in
theorem am_ks0_g : GoodIn lw_tbl (am_ks0.map am_kw) := goodIn_r _ [659, 786, 801, 802, 803, 838, 844, 845, 846, 847, 843, 1197, 1212, 1213, 1214, 533, 534, 535] (by decide +kernel) (by decide +kernel)
set_option maxRecDepth 20000 in
theorem am_ks_eq : am_ks = am_ks0 := by decide +kernel
theorem am_ks_g : GoodIn lw_tbl (am_ks.map am_kw) := by rw [am_ks_eq]; exact am_ks0_g
def am_cs0 : List (Nat × Nat × Nat) := [(5, 9, 3), (8, 7, 6), (8, 16, 4), (8, 23, 3), (8, 33, 5), (8, 40, 7), (8, 47, 2), (8, 54, 1), (8, 63, 0)]
set_option maxRecDepth 20000 in
theorem am_cs0_g : GoodIn lw_tbl (am_cs0.flatMap am_nw) := goodIn_r _ [160, 110, 54, 76, 77, 52, 91, 92, 53, 109, 110, 54, 154, 155, 55, 181, 182, 56, 208, 209, 57, 222, 223, 58, 244, 245, 59] (by decide +kernel) (by decide +kernel)
set_option maxRecDepth 20000 in
theorem am_cs_eq : am_cs = am_cs0 := by decide +kernel
theorem am_cs_g : GoodIn lw_tbl (am_cs.flatMap am_nw) := by rw [am_cs_eq]; exact am_cs0_g
set_option maxRecDepth 20000 in
theorem am_u0_g : GoodIn lw_tbl (u_ws RX0 TX0 4) := goodIn_r _ [256, 258, 260, 262] (by decide +kernel) (by decide +kernel)
set_option maxRecDepth 20000 in
theorem am_u1_g : GoodIn lw_tbl (u_ws RX1 TX1 5) := goodIn_r _ [233, 235, 237, 239, 241] (by decide +kernel) (by decide +kernel)
set_option maxRecDepth 20000 in
theorem am_u2_g : GoodIn lw_tbl (u_ws RX2 TX2 2) := goodIn_r _ [217, 219] (by decide +kernel) (by decide +kernel)
set_option maxRecDepth 20000 in
theorem am_u3_g : GoodIn lw_tbl (u_ws RX3 TX3 7) := goodIn_r _ [139, 141, 143, 145, 147, 149, 151] (by decide +kernel) (by decide +kernel)
set_option maxRecDepth 20000 in
theorem am_u4_g : GoodIn lw_tbl (u_ws RX4 TX4 3) := goodIn_r _ [101, 103, 105] (by decide +kernel) (by decide +kernel)
set_option maxRecDepth 20000 in
theorem am_u5_g : GoodIn lw_tbl (u_ws RX5 TX5 5) := goodIn_r _ [170, 172, 174, 176, 178] (by decide +kernel) (by decide +kernel)
set_option maxRecDepth 20000 in
theorem am_u6_g : GoodIn lw_tbl (u_ws RX6 TX6 2) := goodIn_r _ [85, 87] (by decide +kernel) (by decide +kernel)
set_option maxRecDepth 20000 in
theorem am_u7_g : GoodIn lw_tbl (u_ws RX7 TX7 6) := goodIn_r _ [194, 196, 198, 200, 202, 204] (by decide +kernel) (by decide +kernel)
set_option maxRecDepth 20000 in
theorem am_u8_g : GoodIn lw_tbl (u_ws RX8 TX8 9) := goodIn_r _ [409, 411, 413, 415, 417, 419, 421, 423, 425] (by decide +kernel) (by decide +kernel)
set_option maxRecDepth 20000 in
theorem am_u9_g : GoodIn lw_tbl (u_ws RX9 TX9 29) := goodIn_r _ [914, 916, 918, 920, 922, 924, 926, 928, 930, 932, 934, 936, 938, 940, 942, 944, 946, 948, 950, 952, 954, 956, 958, 960, 962, 964, 966, 968, 970] (by decide +kernel) (by decide +kernel)
theorem am_uw_g : GoodIn lw_tbl (vwCl.flatMap am_uw) := by
  simp only [vwCl, List.flatMap_cons, List.flatMap_nil, List.append_nil, am_uw]
  exact goodIn_app am_u0_g (goodIn_app am_u1_g (goodIn_app am_u2_g (goodIn_app am_u3_g (goodIn_app am_u4_g (goodIn_app am_u5_g (goodIn_app am_u6_g (goodIn_app am_u7_g (goodIn_app am_u8_g (am_u9_g)))))))))
def am_xw : List Cond := [.arrayClass .int, .arrayClass .char, .arrayClass .byte, .fieldLink RX8 286 RX8 "POINTING" "[I", .initialized RX8, .initialized RJ0, .initialized RJ1, .initialized RJ3, .methodLink RX8 72 yJ0_length_8abf5, .instanceMethod yJ0_length_8abf5, .selects RJ0 yJ0_length_8abf5 yJ0_length_8abf5, .code yJ0_length_8abf5 cJ0_length_8abf5 1 (some .int), .methodLink RX8 78 yJ0_charAt_5068e, .instanceMethod yJ0_charAt_5068e, .selects RJ0 yJ0_charAt_5068e yJ0_charAt_5068e, .code yJ0_charAt_5068e cJ0_charAt_5068e 2 (some .char), .methodLink RJ0 335 yJ0_coder_7d493, .instanceMethod yJ0_coder_7d493, .selects RJ0 yJ0_coder_7d493 yJ0_coder_7d493, .code yJ0_coder_7d493 cJ0_coder_7d493 1 (some .byte), .methodLink RJ0 492 yJ0_isLatin1_aae02, .instanceMethod yJ0_isLatin1_aae02, .selects RJ0 yJ0_isLatin1_aae02 yJ0_isLatin1_aae02, .code yJ0_isLatin1_aae02 cJ0_isLatin1_aae02 1 (some .boolean), .methodLink RJ0 495 yJ1_charAt_3b067, .static yJ1_charAt_3b067, .code yJ1_charAt_3b067 cJ1_charAt_3b067 2 (some .char), .methodLink RJ1 9 yJ0_checkIndex_df160, .static yJ0_checkIndex_df160, .code yJ0_checkIndex_df160 cJ0_checkIndex_df160 2 none, .methodLink RJ0 1059 yJ3_checkIndex_8e157, .static yJ3_checkIndex_8e157, .code yJ3_checkIndex_8e157 cJ3_checkIndex_8e157 3 (some .int), .fieldLink RJ0 9 "java/lang/String" "value" "[B", .fieldLink RJ0 38 "java/lang/String" "COMPACT_STRINGS" "Z", .fieldLink RJ0 15 "java/lang/String" "coder" "B", .fieldLink RJ0 1053 "jdk/internal/util/Preconditions" "SIOOBE_FORMATTER" "Ljava/util/function/BiFunction;"]
theorem am_xw_g : GoodIn lw_tbl am_xw := goodIn_r _ [108, 90, 207, 779, 51, 60, 61, 62, 266, 267, 268, 269, 276, 277, 278, 279, 270, 271, 272, 273, 280, 281, 282, 283, 284, 285, 286, 287, 288, 289, 292, 293, 294, 1231, 274, 1232, 290] (by decide +kernel) (by decide +kernel)
/-- all words that the machine's instructions need (those of nest mates apart) -/
def am_G : List Cond := am_fs.map am_fw ++ (am_ms.flatMap am_sw ++ (am_tab.map am_cw ++ (am_ks.map am_kw ++ (am_cs.flatMap am_nw ++ (vwCl.flatMap am_uw ++ am_xw)))))
theorem am_G_g : GoodIn lw_tbl am_G := goodIn_app am_fs_g (goodIn_app am_ms_g (goodIn_app am_tab_g (goodIn_app am_ks_g (goodIn_app am_cs_g (goodIn_app am_uw_g am_xw_g)))))
theorem am_in_fs {q} (h : q ∈ am_fs) : am_fw q ∈ am_G := List.mem_append_left _ (List.mem_map_of_mem h)
theorem am_in_ms {q} (h : q ∈ am_ms) {w : Cond} (hw : w ∈ am_sw q) : w ∈ am_G := List.mem_append_right _ (List.mem_append_left _ (List.mem_flatMap.mpr ⟨q, h, hw⟩))
theorem am_in_tab {q} (h : q ∈ am_tab) : am_cw q ∈ am_G := List.mem_append_right _ (List.mem_append_right _ (List.mem_append_left _ (List.mem_map_of_mem h)))
theorem am_in_ks {q} (h : q ∈ am_ks) : am_kw q ∈ am_G := List.mem_append_right _ (List.mem_append_right _ (List.mem_append_right _ (List.mem_append_left _ (List.mem_map_of_mem h))))
theorem am_in_cs {q} (h : q ∈ am_cs) {w : Cond} (hw : w ∈ am_nw q) : w ∈ am_G := List.mem_append_right _ (List.mem_append_right _ (List.mem_append_right _ (List.mem_append_right _ (List.mem_append_left _ (List.mem_flatMap.mpr ⟨q, h, hw⟩)))))
theorem am_in_uw {q} (h : q ∈ vwCl) {w : Cond} (hw : w ∈ am_uw q) : w ∈ am_G := List.mem_append_right _ (List.mem_append_right _ (List.mem_append_right _ (List.mem_append_right _ (List.mem_append_right _ (List.mem_append_left _ (List.mem_flatMap.mpr ⟨q, h, hw⟩))))))
theorem am_in_xw {w : Cond} (h : w ∈ am_xw) : w ∈ am_G := List.mem_append_right _ (List.mem_append_right _ (List.mem_append_right _ (List.mem_append_right _ (List.mem_append_right _ (List.mem_append_right _ h)))))
theorem am_G_self : GoodIn am_G am_G := fun w h => ⟨h, (am_G_g w h).2⟩
theorem am_G_cons {m : aM} (h : m ∈ am_tab) : GoodIn am_G (am_cw m :: am_G) := fun w hw => (List.mem_cons.mp hw).elim (fun e => by rw [e]; exact am_G_self _ (am_in_tab h)) (am_G_self w)
end
section
/-! the abstract machine: one step, runs -/
abbrev aK : Type := Nat × aL × List Value × aH
abbrev aR : Type := Option Value × aH
abbrev aX : Type := Nat × List Value × aK
abbrev aS : Type := aK ⊕ aR ⊕ aX
def am_cd (m : aM) (pc : Nat) : Option aI := m.2.2.2.2.2.lookup pc
def am_nx (np : Nat) (L : aL) (S : List Value) (h : aH) : Option aS := some (.inl (np, L, S, h))
def am_ld (L : aL) (i : Nat) : Option Value := L[i]?.join
/-- no long lies in the local ahead -/
def am_nl (L : aL) (i : Nat) : Bool := match i with
  | 0 => true
  | j + 1 => match L[j]? with
    | some (some v) => v.category == 1
    | _ => true
def am_ix {α : Type} (l : List α) (i : Int32) : Option α := if i < 0 then none else l[i.toNatClampNeg]?
/-- the class's three tables -/
def am_t0 : List Int32 := [1, 0, 0, 0, 2, 1, 0, 0, 2, 0, 0, 1, 0, 0, 2, 1, 0, 2, 0, 0, 0, 1, 0, 2, 0, 0, 0, 1, 0, 2, 1, 2, 0, 0, 0, 0, 1, 2, 0, 0, 0, 0, 1, 2, 0, 0, 0, 0, 1, 2, 2, 1, 0, 0, 0, 0, 2, 1, 0, 0, 0, 0, 2, 1, 0, 0, 0, 0, 2, 1, 2, 0, 1, 0, 0, 0, 2, 0, 1, 0, 0, 0, 2, 0, 1, 2, 0, 0, 1, 0, 0, 2, 0, 0, 1, 2, 0, 0, 0, 1, 1, 0, 0, 0, 0, 0, 1, 0, 0, 0, 0, 0, 1, 0, 0, 0, 0, 0, 1, 0, 0, 0, 0, 0, 1, 2, 0, 0, 0, 0, 0, 2, 0, 0, 0, 0, 0, 2, 0, 0, 0, 0, 0, 2, 0, 0, 0, 0, 0, 2, 0, 0, 0, 0, 0]
def am_t1 : List Int32 := [31, 6, 3, 1, 0, 10, 31, 7, 4, 2, 14, 11, 31, 8, 5, 17, 15, 12, 31, 9, 19, 18, 16, 13, 31]
def am_t2 : List Int32 := [0, 1, 8, 2, 3, 4, 5, 6, 7, 5, 8, 9, 10, 11, 12, 13, 8, 14, 15, 16, 18, 17, 18, 15, 19, 15]
def am_sta : List (List Int32) := [am_t0, am_t1, am_t2]
/-- the bytes of the class's text -/
def am_tx : List Int32 := [110, 49, 44, 49, 59, 110, 51, 44, 50, 59, 106, 51, 59, 109, 81, 85, 65, 75, 69, 82, 59, 109, 83, 76, 79, 85, 71, 72, 59, 109, 76, 65, 84, 69, 59]
def am_arr (h : aH) (a : Nat) : Option (Nat × List Int32) :=
  if a < 100000 then (match h[a]? with
    | some (.inl x) => some x
    | _ => none)
  else (am_sta[a - 100000]?).map (fun l => (0, l))
def am_b2 (i : Instr) (x y : Int32) : Option Int32 := match i with
  | .iadd => some (x + y)
  | .isub => some (x - y)
  | .imul => some (x * y)
  | .iand => some (x &&& y)
  | .ior => some (x ||| y)
  | .ixor => some (x ^^^ y)
  | .ishl => some (x <<< (y &&& 31))
  | .ishr => some (x >>> (y &&& 31))
  | .iushr => some (x.toUInt32 >>> (y.toUInt32 &&& Int32.toUInt32 31)).toInt32
  | .idiv => if y = 0 then none else some (x / y)
  | .irem => if y = 0 then none else some (x - x / y * y)
  | _ => none
def am_l2 (i : Instr) (x y : Int64) : Option Int64 := match i with
  | .ladd => some (x + y)
  | .lmul => some (x * y)
  | .land => some (x &&& y)
  | .lrem => if y = 0 then none else some (x - x / y * y)
  | _ => none
def am_c2 (c : ClassFile.Cond) (x y : Int32) : Bool := match c with
  | .eq => x == y
  | .ne => !(x == y)
  | .lt => decide (x < y)
  | .ge => decide (y ≤ x)
  | .gt => decide (y < x)
  | .le => decide (x ≤ y)
def am_tag (t : ArrayType) : Option Nat := match t with
  | .int => some 0
  | .char => some 1
  | .byte => some 2
  | _ => none
def am_sum (S : List Value) : Nat := (S.map fun v => v.category).sum
/-- the values with which objects begin -/
def am_df (ci : Nat) : List Value := match ci with
  | 0 => [.null, .null, .null, .int 0]
  | 1 => [.null, .null, .null, .null, .int 0]
  | 2 => [.null, .int 0]
  | 3 => [.null, .null, .null, .null, .int 0, .int 0, .int 0]
  | 4 => [.null, .null, .int 0]
  | 5 => [.null, .null, .int 0, .int 0, .int 0]
  | 6 => [.null, .int 0]
  | 7 => [.null, .null, .null, .int 0, .null, .int 0]
  | _ => [.null, .null, .null, .null, .null, .null, .null, .null, .null]
def am_call (q : Nat × Nat × Nat × Nat × Nat) (np : Nat) (L : aL) (S : List Value) (h : aH) : Option aS :=
  let n := if q.2.2.2.1 = 1 ∨ q.2.2.2.1 = 4 ∨ q.2.2.2.1 = 9 ∨ q.2.2.2.1 = 10 then q.2.2.2.2 else q.2.2.2.2 + 1
  let as := (S.take n).reverse
  let rest := S.drop n
  if n ≤ S.length ∧ am_sum rest ≤ 8 then
    match q.2.2.2.1 with
    | 0 => match as with
      | .ref b :: _ => match h[b]? with
        | some (.inr (.inr (ci, _))) => if b < 100000 ∧ (am_tab[q.2.2.1]?).map (fun m => m.2.1) = some ci then some (.inr (.inr (q.2.2.1, as, np, L, rest, h))) else none
        | _ => none
      | _ => none
    | 1 => some (.inr (.inr (q.2.2.1, as, np, L, rest, h)))
    | 4 => some (.inr (.inr (q.2.2.1, as, np, L, rest, h)))
    | 2 => match as with
      | .ref _ :: _ => some (.inr (.inr (q.2.2.1, as, np, L, rest, h)))
      | _ => none
    | 5 => match as with
      | .ref _ :: _ => some (.inr (.inr (q.2.2.1, as, np, L, rest, h)))
      | _ => none
    | 6 => match as with
      | [.ref _] => am_nx np L rest h
      | _ => none
    | 7 => match as with
      | [.ref a] => if a = 100003 then am_nx np L (.int 35 :: rest) h else none
      | _ => none
    | 8 => match as with
      | [.ref a, .int i] => if a = 100003 then (match am_ix am_tx i with
          | some x => am_nx np L (.int x :: rest) h
          | none => none) else none
      | _ => none
    | 9 => match as with
      | [.int x, .int y] => am_nx np L (.int (if x < y then y else x) :: rest) h
      | _ => none
    | 10 => match as with
      | [.int x, .int y] => am_nx np L (.int (if y < x then y else x) :: rest) h
      | _ => none
    | _ => none
  else none
def am_put (m : aM) (q : Nat × Nat × Nat × Nat × FieldType × Bool) (np : Nat) (L : aL) (S : List Value) (h : aH) : Option aS := match S with
  | v :: .ref a :: S' => match h[a]? with
    | some (.inr (.inr (ci, fs))) => if a < 100000 ∧ ci = q.2.2.1 ∧ q.2.2.2.1 < fs.length ∧ narrow q.2.2.2.2.1 v = v ∧ fits q.2.2.2.2.1 v = true ∧ (q.2.2.2.2.2 = true → m.1.name = "<init>" ∧ q.1 = q.2.2.1) then am_nx np L S' (h.set a (.inr (.inr (ci, fs.set q.2.2.2.1 v)))) else none
    | _ => none
  | _ => none
def am_ast (t : Nat) (ty : FieldType) (np : Nat) (L : aL) (S : List Value) (h : aH) : Option aS := match S with
  | .int x :: .int i :: .ref a :: S' => match h[a]? with
    | some (.inl (t', l)) => if a < 100000 ∧ t' = t ∧ ¬ i < 0 ∧ i.toNatClampNeg < l.length then am_nx np L S' (h.set a (.inl (t, l.set i.toNatClampNeg (vp_nar ty x)))) else none
    | _ => none
  | _ => none
def am_ald (t : Nat) (np : Nat) (L : aL) (S : List Value) (h : aH) : Option aS := match S with
  | .int i :: .ref a :: S' => match am_arr h a with
    | some (t', l) => if t' = t then (match am_ix l i with
      | some x => am_nx np L (.int x :: S') h
      | none => none) else none
    | none => none
  | _ => none
def am_loadi (i np : Nat) (L : aL) (S : List Value) (h : aH) : Option aS := match am_ld L i with
  | some (.int x) => am_nx np L (.int x :: S) h
  | _ => none
def am_loadl (i np : Nat) (L : aL) (S : List Value) (h : aH) : Option aS := match am_ld L i with
  | some (.long x) => am_nx np L (.long x :: S) h
  | _ => none
def am_loada (i np : Nat) (L : aL) (S : List Value) (h : aH) : Option aS := match am_ld L i with
  | some (.ref x) => am_nx np L (.ref x :: S) h
  | _ => none
def am_stori (i np : Nat) (L : aL) (S : List Value) (h : aH) : Option aS := match S with
  | .int x :: S' => if i < L.length ∧ am_nl L i = true then am_nx np (L.set i (some (.int x))) S' h else none
  | _ => none
def am_storl (i np : Nat) (L : aL) (S : List Value) (h : aH) : Option aS := match S with
  | .long x :: S' => if i + 1 < L.length ∧ am_nl L i = true then am_nx np ((L.set i (some (.long x))).set (i + 1) none) S' h else none
  | _ => none
/-- a constant: numbers are nI k and -(nI k) -/
def am_kn (b : Nat) (n : Int) (r np : Nat) (L : aL) (S : List Value) (h : aH) : Option aS := match n with
  | .ofNat k => if k = r ∧ k < b then am_nx np L (.int (nI r) :: S) h else none
  | .negSucc k => if k + 1 = r ∧ k < b then am_nx np L (.int (-(nI r)) :: S) h else none
def am_iinc (i : Nat) (n : Int) (r np : Nat) (L : aL) (S : List Value) (h : aH) : Option aS := match am_ld L i with
  | some (.int x) => if am_nl L i = true then (match n with
    | .ofNat k => if k = r ∧ k < 128 then am_nx np (L.set i (some (.int (x + nI r)))) S h else none
    | .negSucc k => if k + 1 = r ∧ k < 128 then am_nx np (L.set i (some (.int (x - nI r)))) S h else none) else none
  | _ => none
def am_bin (i : Instr) (np : Nat) (L : aL) (S : List Value) (h : aH) : Option aS := match S with
  | .int y :: .int x :: S' => match am_b2 i x y with
    | some v => am_nx np L (.int v :: S') h
    | none => none
  | _ => none
def am_lin (i : Instr) (np : Nat) (L : aL) (S : List Value) (h : aH) : Option aS := match S with
  | .long y :: .long x :: S' => match am_l2 i x y with
    | some v => am_nx np L (.long v :: S') h
    | none => none
  | _ => none
def am_if (c : ClassFile.Cond) (np r : Nat) (L : aL) (S : List Value) (h : aH) : Option aS := match S with
  | .int x :: S' => am_nx (if am_c2 c x 0 then r else np) L S' h
  | _ => none
def am_icmp (c : ClassFile.Cond) (np r : Nat) (L : aL) (S : List Value) (h : aH) : Option aS := match S with
  | .int y :: .int x :: S' => am_nx (if am_c2 c x y then r else np) L S' h
  | _ => none
def am_jmp (pc : Nat) (off : Int) : Nat := ((pc : Int) + off).toNat
def am_tsw (pc : Nat) (d lo hi : Int) (offs : Array Int) (L : aL) (S : List Value) (h : aH) : Option aS := match S with
  | .int x :: S' => if x.toInt < lo ∨ hi < x.toInt then (if 0 ≤ (pc : Int) + d then am_nx (am_jmp pc d) L S' h else none)
    else match offs[(x.toInt - lo).toNat]? with
      | some off => if 0 ≤ (pc : Int) + off then am_nx (am_jmp pc off) L S' h else none
      | none => none
  | _ => none
def am_lsw (pc : Nat) (d : Int) (ps : Array (Int × Int)) (L : aL) (S : List Value) (h : aH) : Option aS := match S with
  | .int x :: S' => if (ps.toList.zip (ps.toList.drop 1)).all (fun (a, next) => a.1 < next.1) = true ∧ 0 ≤ (pc : Int) + Op.lookupswitch.offset ps.toList d x.toInt then am_nx (am_jmp pc (Op.lookupswitch.offset ps.toList d x.toInt)) L S' h else none
  | _ => none
def am_new (al : Bool) (r np : Nat) (L : aL) (S : List Value) (h : aH) : Option aS := match am_cs[r]? with
  | some q => if al = true ∧ h.length < 99999 then am_nx np L (.ref h.length :: S) (h ++ [.inr (.inr (q.2.2, am_df q.2.2))]) else none
  | none => none
def am_newa (al : Bool) (t : ArrayType) (np : Nat) (L : aL) (S : List Value) (h : aH) : Option aS := match S with
  | .int n :: S' => match am_tag t with
    | some g => if al = true ∧ h.length < 99999 ∧ ¬ n < 0 ∧ n.toNatClampNeg < 10000 then am_nx np L (.ref h.length :: S') (h ++ [.inl (g, List.replicate n.toNatClampNeg 0)]) else none
    | none => none
  | _ => none
def am_anew (al : Bool) (r np : Nat) (L : aL) (S : List Value) (h : aH) : Option aS := match S with
  | .int n :: S' => match am_cs[r]? with
    | some q => if al = true ∧ q.2.2 = 3 ∧ h.length < 99999 ∧ ¬ n < 0 ∧ n.toNatClampNeg < 10000 then am_nx np L (.ref h.length :: S') (h ++ [.inr (.inl (List.replicate n.toNatClampNeg none))]) else none
    | none => none
  | _ => none
def am_aald (np : Nat) (L : aL) (S : List Value) (h : aH) : Option aS := match S with
  | .int i :: .ref a :: S' => match h[a]? with
    | some (.inr (.inl l)) => match am_ix l i with
      | some (some x) => if a < 100000 then am_nx np L (.ref x :: S') h else none
      | _ => none
    | _ => none
  | _ => none
def am_aast (np : Nat) (L : aL) (S : List Value) (h : aH) : Option aS := match S with
  | .ref v :: .int i :: .ref a :: S' => match h[a]? with
    | some (.inr (.inl l)) => match h[v]? with
      | some (.inr (.inr (3, _))) => if a < 100000 ∧ v < 100000 ∧ ¬ i < 0 ∧ i.toNatClampNeg < l.length then am_nx np L S' (h.set a (.inr (.inl (l.set i.toNatClampNeg (some v))))) else none
      | _ => none
    | _ => none
  | _ => none
def am_get (q : Nat × Nat × Nat × Nat × FieldType × Bool) (np : Nat) (L : aL) (S : List Value) (h : aH) : Option aS := match S with
  | .ref a :: S' => match h[a]? with
    | some (.inr (.inr (ci, fs))) => match fs[q.2.2.2.1]? with
      | some v => if a < 100000 ∧ ci = q.2.2.1 then am_nx np L (v :: S') h else none
      | none => none
    | _ => none
  | _ => none
def am_ldc (i : Instr) (r np : Nat) (L : aL) (S : List Value) (h : aH) : Option aS := if r = 999 then am_nx np L (.ref 100003 :: S) h else match am_ks[r]? with
  | some (_, _, .inl v) => am_nx np L (.int v :: S) h
  | some (_, _, .inr v) => am_nx np L (.long v :: S) h
  | none => none
def am_un (i : Instr) (v : Value) : Option Value := match i, v with
  | .i2l, .int x => some (.long x.toInt64)
  | .l2i, .long x => some (.int x.toInt32)
  | .i2b, .int x => some (.int x.toInt8.toInt32)
  | .i2c, .int x => some (.int (x.toUInt32 % 65536).toInt32)
  | _, _ => none
def am_uno (i : Instr) (np : Nat) (L : aL) (S : List Value) (h : aH) : Option aS := match S with
  | v :: S' => match am_un i v with
    | some w => am_nx np L (w :: S') h
    | none => none
  | _ => none
def am_iret (m : aM) (S : List Value) (h : aH) : Option aS := match S with
  | [.int v] => match m.2.2.2.2.1 with
    | some ty => if narrow ty (.int v) = .int v then some (.inr (.inl (some (.int v), h))) else none
    | none => none
  | _ => none
def am_op (al : Bool) (m : aM) (i : Instr) (pc np r : Nat) (L : aL) (S : List Value) (h : aH) : Option aS := match i with
  | .iconst n => am_kn 128 n r np L S h
  | .bipush n => am_kn 128 n r np L S h
  | .sipush n => am_kn 10000 n r np L S h
  | .lconst n => am_nx np L (.long (Int64.ofNat n) :: S) h
  | .ldc _ => am_ldc i r np L S h
  | .ldc_w _ => am_ldc i r np L S h
  | .ldc2_w _ => am_ldc i r np L S h
  | .iload_n k => am_loadi k np L S h
  | .iload k => am_loadi k np L S h
  | .lload_n k => am_loadl k np L S h
  | .aload_n k => am_loada k np L S h
  | .aload k => am_loada k np L S h
  | .istore_n k => am_stori k np L S h
  | .istore k => am_stori k np L S h
  | .lstore_n k => am_storl k np L S h
  | .iinc k n => am_iinc k n r np L S h
  | .iadd => am_bin i np L S h
  | .isub => am_bin i np L S h
  | .imul => am_bin i np L S h
  | .iand => am_bin i np L S h
  | .ior => am_bin i np L S h
  | .ixor => am_bin i np L S h
  | .ishl => am_bin i np L S h
  | .ishr => am_bin i np L S h
  | .iushr => am_bin i np L S h
  | .idiv => am_bin i np L S h
  | .irem => am_bin i np L S h
  | .ladd => am_lin i np L S h
  | .lmul => am_lin i np L S h
  | .land => am_lin i np L S h
  | .lrem => am_lin i np L S h
  | .lshr => match S with
    | .int y :: .long x :: S' => am_nx np L (.long (x >>> (y.toInt64 &&& 63)) :: S') h
    | _ => none
  | .i2l => am_uno i np L S h
  | .l2i => am_uno i np L S h
  | .i2b => am_uno i np L S h
  | .i2c => am_uno i np L S h
  | .dup => match S with
    | v :: S' => if v.category = 1 then am_nx np L (v :: v :: S') h else none
    | _ => none
  | .dup2 => match S with
    | v :: w :: S' => if v.category = 1 ∧ w.category = 1 then am_nx np L (v :: w :: v :: w :: S') h else none
    | _ => none
  | .pop => match S with
    | v :: S' => if v.category = 1 then am_nx np L S' h else none
    | _ => none
  | .ifCond c _ => am_if c np r L S h
  | .if_icmp c _ => am_icmp c np r L S h
  | .goto _ => am_nx r L S h
  | .tableswitch d lo hi offs => am_tsw pc d lo hi offs L S h
  | .lookupswitch d ps => am_lsw pc d ps L S h
  | .iaload => am_ald 0 np L S h
  | .caload => am_ald 1 np L S h
  | .baload => am_ald 2 np L S h
  | .iastore => am_ast 0 .int np L S h
  | .castore => am_ast 1 .char np L S h
  | .bastore => am_ast 2 .byte np L S h
  | .aaload => am_aald np L S h
  | .aastore => am_aast np L S h
  | .arraylength => match S with
    | .ref a :: S' => match am_arr h a with
      | some (t, l) => if t < 3 then am_nx np L (.int (Int32.ofNat l.length) :: S') h else none
      | none => none
    | _ => none
  | .getfield _ => match am_fs[r]? with
    | some q => am_get q np L S h
    | none => none
  | .putfield _ => match am_fs[r]? with
    | some q => am_put m q np L S h
    | none => none
  | .getstatic _ => match am_ss[r]? with
    | some q => am_nx np L (.ref (100000 + q.2.2.1) :: S) h
    | none => none
  | .invokevirtual _ => match am_ms[r]? with
    | some q => am_call q np L S h
    | none => none
  | .invokestatic _ => match am_ms[r]? with
    | some q => am_call q np L S h
    | none => none
  | .invokespecial _ => match am_ms[r]? with
    | some q => am_call q np L S h
    | none => none
  | .new _ => am_new al r np L S h
  | .newarray t => am_newa al t np L S h
  | .anewarray _ => am_anew al r np L S h
  | .ireturn => am_iret m S h
  | .return_ => match S with
    | [] => match m.2.2.2.2.1 with
      | none => some (.inr (.inl (none, h)))
      | some _ => none
    | _ => none
  | _ => none
def am_stp (al : Bool) (m : aM) (k : aK) : Option aS := match am_cd m k.1 with
  | some (i, np, r) => am_op al m i k.1 np r k.2.1 k.2.2.1 k.2.2.2
  | none => none
def am_en (vs : List Value) : aL := vs.flatMap (fun v => if v.category = 2 then [some v, none] else [some v])
/-- a method's first locals -/
def am_ent (m : aM) (vs : List Value) : aL := am_en vs ++ List.replicate (m.2.2.2.1 - (am_en vs).length) none
def am_run (al : Bool) : Nat → Nat → aM → aK → Option aR
  | 0, _, _, _ => none
  | n + 1, d, m, k => match am_stp al m k with
    | none => none
    | some (.inl k') => am_run al n d m k'
    | some (.inr (.inl r)) => some r
    | some (.inr (.inr (c, as, k'))) => match d with
      | 0 => none
      | d' + 1 => match am_tab[c]? with
        | none => none
        | some m' => if (am_en as).length ≤ m'.2.2.2.1 then (match am_run al n d' m' (0, am_ent m' as, [], k'.2.2.2) with
          | none => none
          | some (v, h') => am_run al n (d' + 1) m (k'.1, k'.2.1, v.toList ++ k'.2.2.1, h')) else none
end
section
/-! the code tables are the bytes of the methods -/
def am_len (i : Instr) : Nat := match i with
  | .bipush _ => 2
  | .ldc _ => 2
  | .iload _ => 2
  | .aload _ => 2
  | .istore _ => 2
  | .newarray _ => 2
  | .sipush _ => 3
  | .ldc_w _ => 3
  | .ldc2_w _ => 3
  | .iinc _ _ => 3
  | .ifCond _ _ => 3
  | .if_icmp _ _ => 3
  | .goto _ => 3
  | .getfield _ => 3
  | .putfield _ => 3
  | .getstatic _ => 3
  | .invokevirtual _ => 3
  | .invokestatic _ => 3
  | .invokespecial _ => 3
  | .new _ => 3
  | .anewarray _ => 3
  | _ => 1
def am_sok (oc : Nat) (i : Instr) (pc r : Nat) : Bool := match i with
  | .getfield x => match am_fs[r]? with
    | some q => decide (q.1 = oc ∧ q.2.1 = x)
    | none => false
  | .putfield x => match am_fs[r]? with
    | some q => decide (q.1 = oc ∧ q.2.1 = x)
    | none => false
  | .goto off => decide ((pc : Int) + off = (r : Int))
  | .ifCond _ off => decide ((pc : Int) + off = (r : Int))
  | .if_icmp _ off => decide ((pc : Int) + off = (r : Int))
  | .invokevirtual x => match am_ms[r]? with
    | some q => decide (q.1 = oc ∧ q.2.1 = x ∧ (q.2.2.2.1 = 0 ∨ q.2.2.2.1 = 7 ∨ q.2.2.2.1 = 8))
    | none => false
  | .invokestatic x => match am_ms[r]? with
    | some q => decide (q.1 = oc ∧ q.2.1 = x ∧ (q.2.2.2.1 = 1 ∨ q.2.2.2.1 = 4 ∨ q.2.2.2.1 = 9 ∨ q.2.2.2.1 = 10))
    | none => false
  | .invokespecial x => match am_ms[r]? with
    | some q => decide (q.1 = oc ∧ q.2.1 = x ∧ (q.2.2.2.1 = 2 ∨ q.2.2.2.1 = 5 ∨ q.2.2.2.1 = 6))
    | none => false
  | .ldc x => if r = 999 then decide (oc = 8 ∧ x = 70) else match am_ks[r]? with
    | some (a, b, .inl _) => decide (a = oc ∧ b = x)
    | _ => false
  | .ldc_w x => if r = 999 then false else match am_ks[r]? with
    | some (a, b, .inl _) => decide (a = oc ∧ b = x)
    | _ => false
  | .ldc2_w x => if r = 999 then false else match am_ks[r]? with
    | some (a, b, .inr _) => decide (a = oc ∧ b = x)
    | _ => false
  | .getstatic x => match am_ss[r]? with
    | some q => decide (q.1 = oc ∧ q.2.1 = x)
    | none => false
  | .new x => match am_cs[r]? with
    | some q => decide (q.1 = oc ∧ q.2.1 = x)
    | none => false
  | .anewarray x => match am_cs[r]? with
    | some q => decide (q.1 = oc ∧ q.2.1 = x)
    | none => false
  | _ => true
def am_sw? (i : Instr) : Bool := match i with
  | .tableswitch .. => true
  | .lookupswitch .. => true
  | _ => false
def am_ok (m : aM) (q : Nat × aI) : Bool := (match decode m.2.2.1 q.1 with
    | .ok (i, n) => decide (i = q.2.1) && (am_sw? i || (n == am_len i && q.1 + n == q.2.2.1))
    | _ => false) && am_sok m.2.1 q.2.1 q.1 q.2.2.2
def am_okm (m : aM) : Bool := m.2.2.2.2.2.all (am_ok m) && (decide (m.2.2.2.1 ≤ 20)) && (plainName m.1.cls && decide (m.1.cls = am_nm m.2.1))
def am_msk (q : Nat × Nat × Nat × Nat × Nat) : Bool := match q.2.2.2.1 with
  | 0 => decide (q.2.2.1 < am_tab.length) && (am_y q.2.2.1).cls != "java/lang/invoke/MethodHandle" && (am_y q.2.2.1).cls != "java/lang/invoke/VarHandle" && decide ((parseMethodDescriptor (am_y q.2.2.1).desc).map (fun d => d.parameters.length) = some q.2.2.2.2)
  | 1 => decide (q.2.2.1 < am_tab.length) && (am_y q.2.2.1).cls != "java/lang/invoke/MethodHandle" && (am_y q.2.2.1).cls != "java/lang/invoke/VarHandle" && decide ((parseMethodDescriptor (am_y q.2.2.1).desc).map (fun d => d.parameters.length) = some q.2.2.2.2)
  | 2 => decide (q.2.2.1 < am_tab.length) && (am_y q.2.2.1).cls != "java/lang/invoke/MethodHandle" && (am_y q.2.2.1).cls != "java/lang/invoke/VarHandle" && decide ((parseMethodDescriptor (am_y q.2.2.1).desc).map (fun d => d.parameters.length) = some q.2.2.2.2) && (am_y q.2.2.1).name == "<init>" && ((am_tab[q.2.2.1]?).map (fun m => m.2.2.2.2.1) == some none)
  | 4 => decide (q.2.2.1 < am_tab.length) && (am_y q.2.2.1).cls != "java/lang/invoke/MethodHandle" && (am_y q.2.2.1).cls != "java/lang/invoke/VarHandle" && decide ((parseMethodDescriptor (am_y q.2.2.1).desc).map (fun d => d.parameters.length) = some q.2.2.2.2)
  | 5 => decide (q.2.2.1 < am_tab.length) && (am_y q.2.2.1).cls != "java/lang/invoke/MethodHandle" && (am_y q.2.2.1).cls != "java/lang/invoke/VarHandle" && decide ((parseMethodDescriptor (am_y q.2.2.1).desc).map (fun d => d.parameters.length) = some q.2.2.2.2) && (am_y q.2.2.1).name == "<init>" && ((am_tab[q.2.2.1]?).map (fun m => m.2.2.2.2.1) == some none)
  | 9 => q.2.2.2.2 == 2
  | 10 => q.2.2.2.2 == 2
  | 6 => q.2.2.2.2 == 0
  | 7 => q.2.2.2.2 == 0 && q.1 == 8 && q.2.1 == 72
  | 8 => q.2.2.2.2 == 1 && q.1 == 8 && q.2.1 == 78
  | _ => false
set_option maxRecDepth 20000 in
theorem am_ms_ok : am_ms.all am_msk = true := by decide +kernel
def am_fsk (q : Nat × Nat × Nat × Nat × FieldType × Bool) : Bool := decide (q.2.2.1 < 10 ∧ q.2.2.2.1 < (am_cl q.2.2.1).2.2 ∧ ((am_cl q.2.2.1).2.1 q.2.2.2.1).1 = (am_cl q.2.2.1).1 ∧ parseFieldDescriptor ((am_cl q.2.2.1).2.1 q.2.2.2.1).2.2.1 = some q.2.2.2.2.1 ∧ ((am_cl q.2.2.1).2.1 q.2.2.2.1).2.2.2 = q.2.2.2.2.2 ∧ am_nm q.2.2.1 = (am_cl q.2.2.1).1)
set_option maxRecDepth 20000 in
theorem am_fs_ok : am_fs.all am_fsk = true := by decide +kernel

set_option maxRecDepth 20000 in
theorem am_tab0_ok : am_tab0.all am_okm = true := by decide +kernel
set_option maxRecDepth 20000 in
theorem am_tab1_ok : am_tab1.all am_okm = true := by decide +kernel
set_option maxRecDepth 20000 in
theorem am_tab2_ok : am_tab2.all am_okm = true := by decide +kernel
set_option maxRecDepth 20000 in
theorem am_tab3_ok : am_tab3.all am_okm = true := by decide +kernel
set_option maxRecDepth 20000 in
theorem am_tab4_ok : am_tab4.all am_okm = true := by decide +kernel
set_option maxRecDepth 20000 in
theorem am_tab5_ok : am_tab5.all am_okm = true := by decide +kernel
set_option maxRecDepth 20000 in
theorem am_tab6_ok : am_tab6.all am_okm = true := by decide +kernel
set_option maxRecDepth 20000 in
theorem am_tab7_ok : am_tab7.all am_okm = true := by decide +kernel
set_option maxRecDepth 20000 in
theorem am_tab8_ok : am_tab8.all am_okm = true := by decide +kernel
set_option maxRecDepth 20000 in
theorem am_tab9_ok : am_tab9.all am_okm = true := by decide +kernel
theorem am_tab_ok : am_tab.all am_okm = true := by
  rw [am_tab_eq]
  simp only [List.all_append, am_tab0_ok, am_tab1_ok, am_tab2_ok, am_tab3_ok, am_tab4_ok, am_tab5_ok, am_tab6_ok, am_tab7_ok, am_tab8_ok, am_tab9_ok, Bool.and_self]
theorem am_mem_ok {m : aM} (h : m ∈ am_tab) : am_okm m = true := List.all_eq_true.mp am_tab_ok m h
end
section
/-! the abstract machine's states and the machine's -/
def am_v (f : Nat → Nat) (v : Value) : Value := match v with
  | .ref a => .ref (f a)
  | w => w
theorem am_v_cat (f : Nat → Nat) (v : Value) : (am_v f v).category = v.category := by cases v <;> rfl
theorem am_v_sum (f : Nat → Nat) (S : List Value) : ((S.map (am_v f)).map fun v => v.category).sum = am_sum S := by
  simp only [am_sum, List.map_map, Function.comp_def, am_v_cat]
def am_lv (f : Nat → Nat) (L : aL) : List (Nat × Value) := L.zipIdx.filterMap (fun q => q.1.map (fun v => (q.2, am_v f v)))
theorem am_lv_mem {f : Nat → Nat} {L : aL} {i : Nat} {w : Value} : (i, w) ∈ am_lv f L ↔ ∃ v, L[i]? = some (some v) ∧ w = am_v f v := by
  unfold am_lv
  rw [List.mem_filterMap]
  constructor
  · rintro ⟨⟨o, j⟩, hm, hq⟩
    have h1 := List.mem_zipIdx_iff_getElem?.mp hm
    cases o with
    | none => simp at hq
    | some v =>
      simp at hq
      obtain ⟨rfl, rfl⟩ := hq
      exact ⟨v, h1, rfl⟩
  · rintro ⟨v, h1, rfl⟩
    exact ⟨(some v, i), List.mem_zipIdx_iff_getElem?.mpr h1, rfl⟩
theorem am_lv_sub {ls : Array Slot} {nL : Nat} {l l' : List (Nat × Value)} (h : lv_has ls nL l) (hs : ∀ q ∈ l', q ∈ l) : lv_has ls nL l' := ⟨h.1, h.2.1, fun q hq => h.2.2 q (hs q hq)⟩
theorem am_ld_at {L : aL} {i : Nat} {v : Value} (h : am_ld L i = some v) : L[i]? = some (some v) := by
  unfold am_ld at h
  cases h1 : L[i]? with
  | none => rw [h1] at h; cases h
  | some o => rw [h1] at h; cases o with
    | none => cases h
    | some w => cases h; rfl
theorem am_lv_at {f : Nat → Nat} {ls : Array Slot} {nL : Nat} {L : aL} {i : Nat} {v : Value} (h : lv_has ls nL (am_lv f L)) (hi : am_ld L i = some v) : ls[i]? = some (.val (am_v f v)) :=
  h.2.2 (i, am_v f v) (am_lv_mem.mpr ⟨v, am_ld_at hi, rfl⟩)
theorem am_lv_st {f : Nat → Nat} {ls : Array Slot} {nL : Nat} {L : aL} {i : Nat} {v : Value} (h : lv_has ls nL ((i, am_v f v) :: (am_lv f L).filter (fun q => !(q.1 == i) && !(q.1 + 1 == i && q.2.category == 2)))) (hn : am_nl L i = true) : lv_has ls nL (am_lv f (L.set i (some v))) := by
  refine am_lv_sub h ?_
  rintro ⟨j, w⟩ hq
  obtain ⟨v', h1, rfl⟩ := am_lv_mem.mp hq
  rw [List.getElem?_set] at h1
  by_cases hj : i = j
  · rw [if_pos hj] at h1
    split at h1
    · cases h1; subst hj; exact List.mem_cons_self
    · cases h1
  · rw [if_neg hj] at h1
    refine List.mem_cons_of_mem _ (List.mem_filter.mpr ⟨am_lv_mem.mpr ⟨v', h1, rfl⟩, ?_⟩)
    have e1 : (j == i) = false := by simpa using fun e => hj e.symm
    simp only [e1, am_v_cat, Bool.not_false, Bool.true_and, Bool.not_eq_true', Bool.and_eq_false_iff]
    by_cases h2 : j + 1 = i
    · subst h2
      right
      simp only [am_nl, h1] at hn
      simp at hn
      simp [hn]
    · left; simpa using h2
theorem am_lv_st2 {f : Nat → Nat} {ls : Array Slot} {nL : Nat} {L : aL} {i : Nat} {x : Int64} (h : lv_has ls nL ((i, .long x) :: (am_lv f L).filter (fun q => !(q.1 == i) && (!(q.1 == i + 1) && !(q.1 + 1 == i && q.2.category == 2))))) (hn : am_nl L i = true) : lv_has ls nL (am_lv f ((L.set i (some (.long x))).set (i + 1) none)) := by
  refine am_lv_sub h ?_
  rintro ⟨j, w⟩ hq
  obtain ⟨v', h1, rfl⟩ := am_lv_mem.mp hq
  rw [List.getElem?_set] at h1
  by_cases hj : i + 1 = j
  · rw [if_pos hj] at h1
    split at h1 <;> cases h1
  · rw [if_neg hj, List.getElem?_set] at h1
    by_cases hk : i = j
    · rw [if_pos hk] at h1
      split at h1
      · cases h1; subst hk; exact List.mem_cons_self
      · cases h1
    · rw [if_neg hk] at h1
      refine List.mem_cons_of_mem _ (List.mem_filter.mpr ⟨am_lv_mem.mpr ⟨v', h1, rfl⟩, ?_⟩)
      have e1 : (j == i) = false := by simpa using fun e => hk e.symm
      have e2 : (j == i + 1) = false := by simpa using fun e => hj e.symm
      simp only [e1, e2, am_v_cat, Bool.not_false, Bool.true_and, Bool.not_eq_true', Bool.and_eq_false_iff]
      by_cases h2 : j + 1 = i
      · subst h2
        right
        simp only [am_nl, h1] at hn
        simp at hn
        simp [hn]
      · left; simpa using h2
/-! cells -/
def am_e (f : Nat → Nat) (tc : Nat → ClassId) (c : aC) : va_E := match c with
  | .inl (t, l) => .inl (tc t, l.length, .inl (fun j => l.getD j 0))
  | .inr (.inl l) => .inl (tc 3, l.length, .inr (.inr (.inr (.inr (fun j => (l.getD j none).map f)))))
  | .inr (.inr (ci, fs)) => .inr (ci, fs.map (am_v f))
def am_W (f : Nat → Nat) (tc : Nat → ClassId) (h : aH) : va_W := h.mapIdx (fun k c => (f k, am_e f tc c))
theorem am_W_get {f : Nat → Nat} {tc : Nat → ClassId} {h : aH} {k : Nat} : (am_W f tc h)[k]? = (h[k]?).map (fun c => (f k, am_e f tc c)) := List.getElem?_mapIdx
theorem am_W_at {f : Nat → Nat} {tc : Nat → ClassId} {h : aH} {k : Nat} {c : aC} (hk : h[k]? = some c) : (am_W f tc h)[k]? = some (f k, am_e f tc c) := by rw [am_W_get, hk]; rfl
theorem am_W_set {f : Nat → Nat} {tc : Nat → ClassId} {h : aH} {k : Nat} {c : aC} : am_W f tc (h.set k c) = (am_W f tc h).set k (f k, am_e f tc c) := by
  apply List.ext_getElem?
  intro i
  rw [am_W_get, List.getElem?_set, List.getElem?_set]
  have hl : (am_W f tc h).length = h.length := List.length_mapIdx
  rw [hl]
  by_cases hi : k = i
  · subst hi
    rw [if_pos rfl, if_pos rfl]
    split <;> rfl
  · rw [if_neg hi, if_neg hi, am_W_get]
theorem am_W_app {f : Nat → Nat} {tc : Nat → ClassId} {h : aH} {c : aC} : am_W f tc (h ++ [c]) = am_W f tc h ++ [(f h.length, am_e f tc c)] := List.mapIdx_concat
def am_sg (base : Nat) (ts : Nat → Nat) : Nat → Nat := fun k => if k < 100000 then base + k else ts (k - 100000)
theorem am_sg_lt {base : Nat} {ts : Nat → Nat} {k : Nat} (h : k < 100000) : am_sg base ts k = base + k := if_pos h
theorem am_D {base : Nat} {ts : Nat → Nat} {tc : Nat → ClassId} {A : Nat → Prop} {h : aH} (hA : ∀ j, j < h.length → A (base + j)) (hl : h.length ≤ 100000) : va_D A (am_W (am_sg base ts) tc h) := by
  have key : ∀ (i : Nat) (q : Nat × va_E), (am_W (am_sg base ts) tc h)[i]? = some q → i < h.length ∧ q.1 = base + i := by
    intro i q hq
    rw [am_W_get] at hq
    cases hi : h[i]? with
    | none => rw [hi] at hq; cases hq
    | some c =>
      rw [hi] at hq
      cases hq
      have h1 : i < h.length := (List.getElem?_eq_some_iff.mp hi).1
      exact ⟨h1, am_sg_lt (by omega)⟩
  refine ⟨fun i j a b ha hb e => ?_, fun k q hq => ?_⟩
  · have h1 := (key i a ha).2
    have h2 := (key j b hb).2
    omega
  · obtain ⟨h1, h2⟩ := key k q hq
    rw [h2]; exact hA k h1
def am_tys (tc : Nat → ClassId) : List (ClassId × FieldType) := [(tc 0, .int), (tc 1, .char), (tc 2, .byte), (tc 3, .object RX3)]
def am_sz (c : aC) : Nat := match c with
  | .inl (_, l) => l.length
  | .inr (.inl l) => l.length
  | .inr (.inr (_, fs)) => fs.length
def am_slt (h : aH) : Nat := (h.map am_sz).sum
theorem am_slt_app (h : aH) (c : aC) : am_slt (h ++ [c]) = am_slt h + am_sz c := by simp [am_slt]
theorem am_slt_set {h : aH} {k : Nat} {c c' : aC} (hk : h[k]? = some c) (hz : am_sz c' = am_sz c) : am_slt (h.set k c') = am_slt h := by
  unfold am_slt
  congr 1
  apply List.ext_getElem?
  intro i
  rw [List.getElem?_map, List.getElem?_map, List.getElem?_set]
  by_cases hi : k = i
  · subst hi
    rw [if_pos rfl, hk, if_pos (List.getElem?_eq_some_iff.mp hk).1]
    simp [hz]
  · rw [if_neg hi]
/-! what is there beside the cells: tables of the class, its text, links of nest mates -/
def am_sn (j : Nat) : String := ["POINTING", "LETTER_BETWEEN", "SPELLING"].getD j "POINTING"
def am_str : String := "n1,1;n3,2;j3;mQUAKER;mSLOUGH;mLATE;"
def am_SE (A : Nat → Prop) (ts : Nat → Nat) (U : State) (H : Heap) : Prop :=
  (∀ q ∈ am_ms, q.2.2.2.1 = 4 ∨ q.2.2.2.1 = 5 → va_Nw (.methodLinkNest (am_nm q.1) q.2.1 (am_y q.2.2.1) RX8) U) ∧
  (∀ q ∈ am_ss, q.2.2.2 = true → va_Nw (.fieldLinkNest (am_nm q.1) q.2.1 RX8 (am_sn q.2.2.1) "[I" RX8) U) ∧
  va_AO RX3 U ∧
  (∀ j, j < 3 → va_Z RX8 (am_sn j) "[I" (.ref (ts j)) A U H ∧ va_T .int (ts j) (am_sta.getD j []).length (fun i => .int ((am_sta.getD j []).getD i 0)) A U H) ∧
  vk_R RX8 70 am_str (ts 3) U ∧ vk_S 1 [35] [am_tx] (fun _ => ts 3) (fun _ => ts 4) A U H ∧
  va_Z "java/lang/String" "COMPACT_STRINGS" "Z" (.int 1) A U H ∧ va_Zq "jdk/internal/util/Preconditions" "SIOOBE_FORMATTER" "Ljava/util/function/BiFunction;" A U H
theorem am_SE.go {A : Nat → Prop} {ts : Nat → Nat} {s U : State} {H0 : Heap} (h : am_SE A ts s H0) (hW : s.WarmedH U.vm) {H : Heap} (hH : ∀ a : Nat, a < H0.size → ¬ A a → H[a]? = H0[a]?) : am_SE A ts U H := by
  obtain ⟨h1, h2, h3, h4, h5, h6, h7, h8⟩ := h
  have hv : s.vm.Alike U.vm := hW.alike
  exact ⟨fun q hq hk => va_Nw.warmM hW (h1 q hq hk), fun q hq hk => va_Nw.warmF hW (h2 q hq hk), h3.moved hv, fun j hj => ⟨((h4 j hj).1.moved hv).kept hH, ((h4 j hj).2.moved hv).kept hH⟩, h5.warm hW, (h6.moved hv).kept hH, (h7.moved hv).kept hH, (h8.moved hv).kept hH⟩
theorem am_SE.same {A : Nat → Prop} {ts : Nat → Nat} {s U : State} {H : Heap} (h : am_SE A ts s H) (hv : s.vm = U.vm) : am_SE A ts U H := by
  obtain ⟨h1, h2, h3, h4, h5, h6, h7, h8⟩ := h
  have ha : s.vm.Alike U.vm := by rw [hv]; exact Vm.Alike.refl _
  exact ⟨fun q hq hk => va_Nw.same rfl hv (h1 q hq hk), fun q hq hk => va_Nw.same rfl hv (h2 q hq hk), h3.moved ha, fun j hj => ⟨(h4 j hj).1.moved ha, (h4 j hj).2.moved ha⟩, h5.same hv.symm, h6.moved ha, h7.moved ha, h8.moved ha⟩
/-! a world: allocation allowed, base, static cells, the frame, classes, array classes; cells and slots at the start and at the end -/
abbrev aE : Type := Bool × Nat × (Nat → Nat) × (Nat → Prop) × va_G × (Nat → ClassId) × Nat × Nat × Nat × Nat
abbrev ae_al (w : aE) : Bool := w.1
abbrev ae_b (w : aE) : Nat := w.2.1
abbrev ae_ts (w : aE) : Nat → Nat := w.2.2.1
abbrev ae_A (w : aE) : Nat → Prop := w.2.2.2.1
abbrev ae_D (w : aE) : va_G := w.2.2.2.2.1
abbrev ae_tc (w : aE) : Nat → ClassId := w.2.2.2.2.2.1
abbrev ae_n0 (w : aE) : Nat := w.2.2.2.2.2.2.1
abbrev ae_z0 (w : aE) : Nat := w.2.2.2.2.2.2.2.1
abbrev ae_n1 (w : aE) : Nat := w.2.2.2.2.2.2.2.2.1
abbrev ae_z1 (w : aE) : Nat := w.2.2.2.2.2.2.2.2.2
abbrev ae_s (w : aE) : Nat → Nat := am_sg (ae_b w) (ae_ts w)
def am_Hp (w : aE) (s : State) (h : aH) (H : Heap) (locs : List Loc) (cells slots : Nat) : Prop :=
  (h.length ≤ ae_n1 w ∧ am_slt h ≤ ae_z1 w ∧ cells + ae_n0 w = h.length ∧ slots + ae_z0 w = am_slt h) ∧ va_P (ae_D w) vwCl (am_W (ae_s w) (ae_tc w) h) H ∧ va_S (ae_A w) s.heap H locs ∧ (∀ j, j < h.length → ae_A w (ae_b w + j)) ∧ h.length ≤ 100000 ∧ (ae_al w = true → H.size = ae_b w + h.length)
def am_Gl (w : aE) (p : Program) (l : Launch) (e : Env) (R : Room) (s : State) (m : MethodId) (args : Array Value) (below : List Frame) (meth : Method) (c : Code) (Q : State → Prop) (k : aK) : Prop :=
  ∀ (ls : Array Slot) (H : Heap) (locs : List Loc) (cells slots : Nat), am_Hp w s k.2.2.2 H locs cells slots → lv_has ls c.maxLocals (am_lv (ae_s w) k.2.1) → W p l e R s m args below meth c H locs cells slots Q (F0 m k.1 ls (k.2.2.1.map (am_v (ae_s w))))
def am_Cx (w : aE) (m0 : aM) (d : Nat) (p : Program) (l : Launch) (e : Env) (R : Room) (s : State) (m : MethodId) (args : Array Value) (below : List Frame) (meth : Method) (c : Code) : Prop :=
  p.tables.exec = Jvm.exec ∧ c.code = m0.2.2.1 ∧ meth.sig.returnType = m0.2.2.2.2.1 ∧ c.maxLocals = m0.2.2.2.1 ∧ s.vm.findClass (am_nm m0.2.1) = some m.cls ∧ (∀ w ∈ am_G, w.before args s = true) ∧ va_K (ae_D w) vwCl (am_tys (ae_tc w)) s ∧ am_SE (ae_A w) (ae_ts w) s s.heap ∧ meth.locks = false ∧ meth.name = m0.1.name ∧
  (ae_al w = true → ∀ q, ae_b w ≤ q → ae_A w q) ∧ (d + 8 ≤ R.frames ∧ 40 * d + 400 ≤ R.locals ∧ ae_n1 w ≤ R.cells + ae_n0 w ∧ ae_z1 w ≤ R.slots + ae_z0 w) ∧ m0 ∈ am_tab
end
section
/-! one step of the abstract machine is one step of the machine -/
section AMR
variable {w : aE} {m0 : aM} {d : Nat} {p : Program} {l : Launch} {e : Env} {R : Room} {s : State} {m : MethodId} {args : Array Value} {below : List Frame} {meth : Method} {c : Code} {Q : State → Prop}
variable {pc np r : Nat} {L : aL} {S : List Value} {h : aH} {k' : aK}
theorem am_cl_ty {ci : Nat} (h : ci < 10) : ∃ ty0 : Nat → FieldType, (∀ k, k < (am_cl ci).2.2 → parseFieldDescriptor ((am_cl ci).2.1 k).2.2.1 = some (ty0 k)) ∧ ∀ a, a < (am_cl ci).2.2 → ∀ b, b < (am_cl ci).2.2 → a ≠ b → ((am_cl ci).2.1 a).2.1 ≠ ((am_cl ci).2.1 b).2.1 := by
  match ci, h with
  | 0, _ => exact ⟨tyX0, tyX0_ok, nmX0⟩
  | 1, _ => exact ⟨tyX1, tyX1_ok, nmX1⟩
  | 2, _ => exact ⟨tyX2, tyX2_ok, nmX2⟩
  | 3, _ => exact ⟨tyX3, tyX3_ok, nmX3⟩
  | 4, _ => exact ⟨tyX4, tyX4_ok, nmX4⟩
  | 5, _ => exact ⟨tyX5, tyX5_ok, nmX5⟩
  | 6, _ => exact ⟨tyX6, tyX6_ok, nmX6⟩
  | 7, _ => exact ⟨tyX7, tyX7_ok, nmX7⟩
  | 8, _ => exact ⟨tyX8, tyX8_ok, nmX8⟩
  | 9, _ => exact ⟨tyX9, tyX9_ok, nmX9⟩
theorem so_push (v : Value) (hrow : ∀ (ls : Array Slot) (H : Heap) (locs : List Loc) (cells slots : Nat) (rest : List Value), W p l e R s m args below meth c H locs cells slots Q (F0 m np ls (v :: rest)) → W p l e R s m args below meth c H locs cells slots Q (F0 m pc ls rest)) (hv : am_v (ae_s w) v = v) (g : am_Gl w p l e R s m args below meth c Q (np, L, v :: S, h)) : am_Gl w p l e R s m args below meth c Q (pc, L, S, h) := by
  intro ls H locs cells slots hp hl
  refine hrow ls H locs cells slots _ ?_
  have g1 := g ls H locs cells slots hp hl
  simp only [List.map_cons, hv] at g1
  exact g1
theorem so_loadi (i : Nat) (hs : am_loadi i np L S h = some (.inl k')) (hrow : ∀ (ls : Array Slot) (H : Heap) (locs : List Loc) (cells slots : Nat) (rest : List Value) (x : Int32), ls[i]? = some (.val (.int x)) → W p l e R s m args below meth c H locs cells slots Q (F0 m np ls (.int x :: rest)) → W p l e R s m args below meth c H locs cells slots Q (F0 m pc ls rest)) (g : am_Gl w p l e R s m args below meth c Q k') : am_Gl w p l e R s m args below meth c Q (pc, L, S, h) := by
  unfold am_loadi at hs
  split at hs
  · rename_i x hx
    cases hs
    intro ls H locs cells slots hp hl
    exact hrow ls H locs cells slots _ x (am_lv_at hl hx) (g ls H locs cells slots hp hl)
  · cases hs
theorem so_loadl (i : Nat) (hs : am_loadl i np L S h = some (.inl k')) (hrow : ∀ (ls : Array Slot) (H : Heap) (locs : List Loc) (cells slots : Nat) (rest : List Value) (x : Int64), ls[i]? = some (.val (.long x)) → W p l e R s m args below meth c H locs cells slots Q (F0 m np ls (.long x :: rest)) → W p l e R s m args below meth c H locs cells slots Q (F0 m pc ls rest)) (g : am_Gl w p l e R s m args below meth c Q k') : am_Gl w p l e R s m args below meth c Q (pc, L, S, h) := by
  unfold am_loadl at hs
  split at hs
  · rename_i x hx
    cases hs
    intro ls H locs cells slots hp hl
    exact hrow ls H locs cells slots _ x (am_lv_at hl hx) (g ls H locs cells slots hp hl)
  · cases hs
theorem so_loada (i : Nat) (hs : am_loada i np L S h = some (.inl k')) (hrow : ∀ (ls : Array Slot) (H : Heap) (locs : List Loc) (cells slots : Nat) (rest : List Value) (x : Nat), ls[i]? = some (.val (.ref x)) → W p l e R s m args below meth c H locs cells slots Q (F0 m np ls (.ref x :: rest)) → W p l e R s m args below meth c H locs cells slots Q (F0 m pc ls rest)) (g : am_Gl w p l e R s m args below meth c Q k') : am_Gl w p l e R s m args below meth c Q (pc, L, S, h) := by
  unfold am_loada at hs
  split at hs
  · rename_i x hx
    cases hs
    intro ls H locs cells slots hp hl
    exact hrow ls H locs cells slots _ (ae_s w x) (am_lv_at hl hx) (g ls H locs cells slots hp hl)
  · cases hs
theorem so_stori (i : Nat) (hs : am_stori i np L S h = some (.inl k')) (hLl : L.length ≤ c.maxLocals) (hrow : ∀ (ls : Array Slot) (H : Heap) (locs : List Loc) (cells slots : Nat) (rest : List Value) (x : Int32) (lv : List (Nat × Value)), lv_has ls c.maxLocals lv → i < c.maxLocals → (∀ ls' : Array Slot, lv_has ls' c.maxLocals ((i, Value.int x) :: lv.filter (fun q => !(q.1 == i) && !(q.1 + 1 == i && q.2.category == 2))) → W p l e R s m args below meth c H locs cells slots Q (F0 m np ls' rest)) → W p l e R s m args below meth c H locs cells slots Q (F0 m pc ls (.int x :: rest))) (g : am_Gl w p l e R s m args below meth c Q k') : am_Gl w p l e R s m args below meth c Q (pc, L, S, h) := by
  unfold am_stori at hs
  split at hs
  · rename_i x S'
    split at hs
    · rename_i hi
      cases hs
      intro ls H locs cells slots hp hl
      exact hrow ls H locs cells slots _ x _ hl (Nat.lt_of_lt_of_le hi.1 hLl) (fun ls' hl' => g ls' H locs cells slots hp (am_lv_st (v := .int x) hl' hi.2))
    · cases hs
  · cases hs
theorem so_storl (i : Nat) (hs : am_storl i np L S h = some (.inl k')) (hLl : L.length ≤ c.maxLocals) (hrow : ∀ (ls : Array Slot) (H : Heap) (locs : List Loc) (cells slots : Nat) (rest : List Value) (x : Int64) (lv : List (Nat × Value)), lv_has ls c.maxLocals lv → i + 1 < c.maxLocals → (∀ ls' : Array Slot, lv_has ls' c.maxLocals ((i, Value.long x) :: lv.filter (fun q => !(q.1 == i) && (!(q.1 == i + 1) && !(q.1 + 1 == i && q.2.category == 2)))) → W p l e R s m args below meth c H locs cells slots Q (F0 m np ls' rest)) → W p l e R s m args below meth c H locs cells slots Q (F0 m pc ls (.long x :: rest))) (g : am_Gl w p l e R s m args below meth c Q k') : am_Gl w p l e R s m args below meth c Q (pc, L, S, h) := by
  unfold am_storl at hs
  split at hs
  · rename_i x S'
    split at hs
    · rename_i hi
      cases hs
      intro ls H locs cells slots hp hl
      exact hrow ls H locs cells slots _ x _ hl (Nat.lt_of_lt_of_le hi.1 hLl) (fun ls' hl' => g ls' H locs cells slots hp (am_lv_st2 hl' hi.2))
    · cases hs
  · cases hs
theorem kn_8 : ∀ k : Fin 128, Int32.ofInt (Int.ofNat k) = nI k ∧ Int32.ofInt (Int.negSucc k) = -(nI (k + 1)) ∧ (Int8.ofInt (Int.ofNat k)).toInt32 = nI k ∧ (Int8.ofInt (Int.negSucc k)).toInt32 = -(nI (k + 1)) := by decide +kernel
theorem kn_16a : ∀ a b : Fin 100, (Int16.ofInt (Int.ofNat (100 * a.val + b.val))).toInt32 = nI (100 * a.val + b.val) ∧ (Int16.ofInt (Int.negSucc (100 * a.val + b.val))).toInt32 = -(nI (100 * a.val + b.val + 1)) := by decide +kernel
theorem kn_16 (k : Fin 10000) : (Int16.ofInt (Int.ofNat k.val)).toInt32 = nI k.val ∧ (Int16.ofInt (Int.negSucc k.val)).toInt32 = -(nI (k.val + 1)) := by
  have h := kn_16a ⟨k.val / 100, by omega⟩ ⟨k.val % 100, by omega⟩
  have e : 100 * (k.val / 100) + k.val % 100 = k.val := by omega
  simp only [e] at h
  exact h
theorem so_kn {b : Nat} {n : Int} (hs : am_kn b n r np L S h = some (.inl k')) (hrow : ∀ (ls : Array Slot) (H : Heap) (locs : List Loc) (cells slots : Nat) (rest : List Value) (v : Int32), (∀ k, n = .ofNat k → k < b → v = nI k) → (∀ k, n = .negSucc k → k < b → v = -(nI (k + 1))) → ((∃ k, n = .ofNat k ∧ k < b) ∨ ∃ k, n = .negSucc k ∧ k < b) → W p l e R s m args below meth c H locs cells slots Q (F0 m np ls (.int v :: rest)) → W p l e R s m args below meth c H locs cells slots Q (F0 m pc ls rest)) (g : am_Gl w p l e R s m args below meth c Q k') : am_Gl w p l e R s m args below meth c Q (pc, L, S, h) := by
  unfold am_kn at hs
  split at hs
  · rename_i k
    split at hs
    · rename_i hk
      obtain ⟨rfl, hk⟩ := hk
      cases hs
      intro ls H locs cells slots hp hl
      refine hrow ls H locs cells slots _ (nI k) (fun j hj _ => ?_) (fun j hj => ?_) (Or.inl ⟨k, rfl, hk⟩) (g ls H locs cells slots hp hl)
      · cases hj; rfl
      · cases hj
    · cases hs
  · rename_i k
    split at hs
    · rename_i hk
      obtain ⟨rfl, hk⟩ := hk
      cases hs
      intro ls H locs cells slots hp hl
      refine hrow ls H locs cells slots _ (-(nI (k + 1))) (fun j hj => ?_) (fun j hj _ => ?_) (Or.inr ⟨k, rfl, hk⟩) (g ls H locs cells slots hp hl)
      · cases hj
      · cases hj; rfl
    · cases hs
theorem so_iinc (i : Nat) (n : Int) (hs : am_iinc i n r np L S h = some (.inl k')) (hLl : L.length ≤ c.maxLocals) (hrow : ∀ (ls : Array Slot) (H : Heap) (locs : List Loc) (cells slots : Nat) (rest : List Value) (x : Int32) (lv : List (Nat × Value)) (kk : Nat), lv_has ls c.maxLocals lv → lv[kk]? = some (i, .int x) → i < c.maxLocals → (∀ ls' : Array Slot, lv_has ls' c.maxLocals ((i, Value.int (x + Int32.ofInt n)) :: lv.filter (fun q => !(q.1 == i) && !(q.1 + 1 == i && q.2.category == 2))) → W p l e R s m args below meth c H locs cells slots Q (F0 m np ls' rest)) → W p l e R s m args below meth c H locs cells slots Q (F0 m pc ls rest)) (g : am_Gl w p l e R s m args below meth c Q k') : am_Gl w p l e R s m args below meth c Q (pc, L, S, h) := by
  unfold am_iinc at hs
  split at hs
  · rename_i x hx
    split at hs
    · rename_i hi
      have h1 := am_ld_at hx
      have fin : ∀ y : Int32, x + Int32.ofInt n = y → k' = (np, L.set i (some (.int y)), S, h) → am_Gl w p l e R s m args below meth c Q (pc, L, S, h) := by
        intro y hy hk'
        subst hk'
        intro ls H locs cells slots hp hl
        obtain ⟨kk, hkk⟩ := List.getElem?_of_mem (am_lv_mem (f := ae_s w).mpr ⟨.int x, h1, rfl⟩)
        exact hrow ls H locs cells slots _ x _ kk hl hkk (Nat.lt_of_lt_of_le (List.getElem?_eq_some_iff.mp h1).1 hLl) (fun ls' hl' => g ls' H locs cells slots hp (am_lv_st (v := .int y) (by rw [hy] at hl'; exact hl') hi))
      split at hs
      · rename_i k
        split at hs
        · rename_i hk
          obtain ⟨rfl, hk⟩ := hk
          cases hs
          exact fin _ (by rw [(kn_8 ⟨k, hk⟩).1]) rfl
        · cases hs
      · rename_i k
        split at hs
        · rename_i hk
          obtain ⟨rfl, hk⟩ := hk
          cases hs
          exact fin _ (by rw [(kn_8 ⟨k, hk⟩).2.1, Int32.sub_eq_add_neg]) rfl
        · cases hs
    · cases hs
  · cases hs
theorem so_bin {i : Instr} (hs : am_bin i np L S h = some (.inl k')) (hrow : ∀ (ls : Array Slot) (H : Heap) (locs : List Loc) (cells slots : Nat) (rest : List Value) (x y v : Int32), am_b2 i x y = some v → W p l e R s m args below meth c H locs cells slots Q (F0 m np ls (.int v :: rest)) → W p l e R s m args below meth c H locs cells slots Q (F0 m pc ls (.int y :: .int x :: rest))) (g : am_Gl w p l e R s m args below meth c Q k') : am_Gl w p l e R s m args below meth c Q (pc, L, S, h) := by
  unfold am_bin at hs
  split at hs
  · rename_i y x S'
    split at hs
    · rename_i v hv
      cases hs
      intro ls H locs cells slots hp hl
      exact hrow ls H locs cells slots _ x y v hv (g ls H locs cells slots hp hl)
    · cases hs
  · cases hs
theorem so_lin {i : Instr} (hs : am_lin i np L S h = some (.inl k')) (hrow : ∀ (ls : Array Slot) (H : Heap) (locs : List Loc) (cells slots : Nat) (rest : List Value) (x y v : Int64), am_l2 i x y = some v → W p l e R s m args below meth c H locs cells slots Q (F0 m np ls (.long v :: rest)) → W p l e R s m args below meth c H locs cells slots Q (F0 m pc ls (.long y :: .long x :: rest))) (g : am_Gl w p l e R s m args below meth c Q k') : am_Gl w p l e R s m args below meth c Q (pc, L, S, h) := by
  unfold am_lin at hs
  split at hs
  · rename_i y x S'
    split at hs
    · rename_i v hv
      cases hs
      intro ls H locs cells slots hp hl
      exact hrow ls H locs cells slots _ x y v hv (g ls H locs cells slots hp hl)
    · cases hs
  · cases hs
theorem so_uno {i : Instr} (hs : am_uno i np L S h = some (.inl k')) (hrow : ∀ (ls : Array Slot) (H : Heap) (locs : List Loc) (cells slots : Nat) (rest : List Value) (v v' : Value), am_un i v = some v' → am_v (ae_s w) v = v ∧ am_v (ae_s w) v' = v' ∧ (W p l e R s m args below meth c H locs cells slots Q (F0 m np ls (v' :: rest)) → W p l e R s m args below meth c H locs cells slots Q (F0 m pc ls (v :: rest)))) (g : am_Gl w p l e R s m args below meth c Q k') : am_Gl w p l e R s m args below meth c Q (pc, L, S, h) := by
  unfold am_uno at hs
  split at hs
  · rename_i v S'
    split at hs
    · rename_i v' hv
      cases hs
      intro ls H locs cells slots hp hl
      obtain ⟨e1, e2, h3⟩ := hrow ls H locs cells slots (S'.map (am_v (ae_s w))) v v' hv
      have g1 := g ls H locs cells slots hp hl
      simp only [List.map_cons, e1, e2] at g1 ⊢
      exact h3 g1
    · cases hs
  · cases hs
theorem so_if {cnd : ClassFile.Cond} (hs : am_if cnd np r L S h = some (.inl k')) (hrow : ∀ (ls : Array Slot) (H : Heap) (locs : List Loc) (cells slots : Nat) (rest : List Value) (x : Int32), (am_c2 cnd x 0 = true → W p l e R s m args below meth c H locs cells slots Q (F0 m r ls rest)) → (am_c2 cnd x 0 = false → W p l e R s m args below meth c H locs cells slots Q (F0 m np ls rest)) → W p l e R s m args below meth c H locs cells slots Q (F0 m pc ls (.int x :: rest))) (g : am_Gl w p l e R s m args below meth c Q k') : am_Gl w p l e R s m args below meth c Q (pc, L, S, h) := by
  unfold am_if at hs
  split at hs
  · rename_i x S'
    cases hs
    intro ls H locs cells slots hp hl
    have g1 := g ls H locs cells slots hp hl
    refine hrow ls H locs cells slots _ x (fun hc => ?_) (fun hc => ?_)
    · simp only [hc, if_true] at g1; exact g1
    · simp only [hc] at g1; exact g1
  · cases hs
theorem so_icmp {cnd : ClassFile.Cond} (hs : am_icmp cnd np r L S h = some (.inl k')) (hrow : ∀ (ls : Array Slot) (H : Heap) (locs : List Loc) (cells slots : Nat) (rest : List Value) (x y : Int32), (am_c2 cnd x y = true → W p l e R s m args below meth c H locs cells slots Q (F0 m r ls rest)) → (am_c2 cnd x y = false → W p l e R s m args below meth c H locs cells slots Q (F0 m np ls rest)) → W p l e R s m args below meth c H locs cells slots Q (F0 m pc ls (.int y :: .int x :: rest))) (g : am_Gl w p l e R s m args below meth c Q k') : am_Gl w p l e R s m args below meth c Q (pc, L, S, h) := by
  unfold am_icmp at hs
  split at hs
  · rename_i y x S'
    cases hs
    intro ls H locs cells slots hp hl
    have g1 := g ls H locs cells slots hp hl
    refine hrow ls H locs cells slots _ x y (fun hc => ?_) (fun hc => ?_)
    · simp only [hc, if_true] at g1; exact g1
    · simp only [hc] at g1; exact g1
  · cases hs
theorem am_jmp_eq {pc : Nat} {off : Int} (h : 0 ≤ (pc : Int) + off) : (pc : Int) + off = (am_jmp pc off : Int) := (Int.toNat_of_nonneg h).symm
theorem so_tsw {dd lo hi : Int} {offs : Array Int} {len : Nat} (hx : p.tables.exec = Jvm.exec) (hb : c.code = m0.2.2.1) (hd : decode m0.2.2.1 pc = .ok (.tableswitch dd lo hi offs, len)) (hs : am_tsw pc dd lo hi offs L S h = some (.inl k')) (g : am_Gl w p l e R s m args below meth c Q k') : am_Gl w p l e R s m args below meth c Q (pc, L, S, h) := by
  unfold am_tsw at hs
  split at hs
  · rename_i x S'
    split at hs
    · rename_i ho
      split at hs
      · rename_i hj
        cases hs
        intro ls H locs cells slots hp hl
        exact lv_tableOut hx hb hd ho (am_jmp_eq hj) (g ls H locs cells slots hp hl)
      · cases hs
    · rename_i ho
      split at hs
      · rename_i off hoff
        split at hs
        · rename_i hj
          cases hs
          intro ls H locs cells slots hp hl
          exact lv_tableIn hx hb hd (fun q => ho (Or.inl q)) (fun q => ho (Or.inr q)) hoff (am_jmp_eq hj) (g ls H locs cells slots hp hl)
        · cases hs
      · cases hs
  · cases hs
theorem so_lsw {dd : Int} {ps : Array (Int × Int)} {len : Nat} (hx : p.tables.exec = Jvm.exec) (hb : c.code = m0.2.2.1) (hd : decode m0.2.2.1 pc = .ok (.lookupswitch dd ps, len)) (hs : am_lsw pc dd ps L S h = some (.inl k')) (g : am_Gl w p l e R s m args below meth c Q k') : am_Gl w p l e R s m args below meth c Q (pc, L, S, h) := by
  unfold am_lsw at hs
  split at hs
  · rename_i x S'
    split at hs
    · rename_i ho
      cases hs
      intro ls H locs cells slots hp hl
      exact lv_lookup hx hb hd ho.1 rfl (am_jmp_eq ho.2) (g ls H locs cells slots hp hl)
    · cases hs
  · cases hs
theorem am_ix_in {α : Type} {l : List α} {i : Int32} {x : α} (hx : am_ix l i = some x) : vp_in i l.length ∧ l[i.toNatClampNeg]? = some x := by
  unfold am_ix at hx
  split at hx
  · cases hx
  · rename_i hi
    refine ⟨fun q => ?_, hx⟩
    rcases q with q | q
    · exact hi q
    · have := (List.getElem?_eq_some_iff.mp hx).1
      omega
theorem am_ty_at (tc : Nat → ClassId) {t : Nat} {ty : FieldType} (ht : (t = 0 ∧ ty = .int) ∨ (t = 1 ∧ ty = .char) ∨ (t = 2 ∧ ty = .byte)) : (am_tys tc)[t]? = some (tc t, ty) := by
  rcases ht with ⟨rfl, rfl⟩ | ⟨rfl, rfl⟩ | ⟨rfl, rfl⟩ <;> rfl
theorem so_ald (t : Nat) (C : am_Cx w m0 d p l e R s m args below meth c) (hs : am_ald t np L S h = some (.inl k'))
    (hrow : ∀ (ls : Array Slot) (H : Heap) (locs : List Loc) (cells slots : Nat) (rest : List Value) (a k : Nat) (n : Nat) (f : Nat → Int32) (i : Int32), va_P (ae_D w) vwCl (am_W (ae_s w) (ae_tc w) h) H → (am_W (ae_s w) (ae_tc w) h)[k]? = some (a, .inl (ae_tc w t, n, .inl f)) → vp_in i n → W p l e R s m args below meth c H locs cells slots Q (F0 m np ls (.int (f i.toNatClampNeg) :: rest)) → W p l e R s m args below meth c H locs cells slots Q (F0 m pc ls (.int i :: .ref a :: rest)))
    (hrow2 : ∀ (ls : Array Slot) (H : Heap) (locs : List Loc) (cells slots : Nat) (rest : List Value) (j : Nat) (i x : Int32), t = 0 → j < 3 → va_S (ae_A w) s.heap H locs → vp_in i (am_sta.getD j []).length → (am_sta.getD j []).getD i.toNatClampNeg 0 = x → W p l e R s m args below meth c H locs cells slots Q (F0 m np ls (.int x :: rest)) → W p l e R s m args below meth c H locs cells slots Q (F0 m pc ls (.int i :: .ref (ae_ts w j) :: rest)))
    (g : am_Gl w p l e R s m args below meth c Q k') : am_Gl w p l e R s m args below meth c Q (pc, L, S, h) := by
  unfold am_ald at hs
  split at hs
  · rename_i i a S'
    split at hs
    · rename_i t' la hla
      split at hs
      · rename_i ht
        split at hs
        · rename_i x hxx
          cases hs
          obtain ⟨hin, hget⟩ := am_ix_in hxx
          subst ht
          intro ls H locs cells slots hp hl
          have hx2 : la.getD i.toNatClampNeg 0 = x := by simp [List.getD, hget]
          unfold am_arr at hla
          split at hla
          · rename_i ha
            split at hla
            · rename_i y hy
              cases hla
              have g1 := g ls H locs cells slots hp hl
              refine hrow ls H locs cells slots _ _ a la.length (fun j => la.getD j 0) i hp.2.1 (am_W_at hy) hin ?_
              simp only [hx2]
              exact g1
            · cases hla
          · rename_i ha
            have g1 := g ls H locs cells slots hp hl
            cases hj : am_sta[a - 100000]? with
            | none => rw [hj] at hla; cases hla
            | some l1 =>
              rw [hj] at hla
              cases hla
              have hj3 : a - 100000 < 3 := (List.getElem?_eq_some_iff.mp hj).1
              have hgd : am_sta.getD (a - 100000) [] = la := by simp [List.getD, hj]
              have hr := hrow2 ls H locs cells slots (S'.map (am_v (ae_s w))) (a - 100000) i x rfl hj3 hp.2.2.1 (by rw [hgd]; exact hin) (by rw [hgd]; exact hx2) g1
              have e1 : am_v (ae_s w) (.ref a) = .ref (ae_ts w (a - 100000)) := by simp [am_v, am_sg, ha]
              simp only [List.map_cons, e1]
              exact hr
        · cases hs
      · cases hs
    · cases hs
  · cases hs
theorem am_upd_set (la : List Int32) {i : Nat} (hi : i < la.length) (x : Int32) : upd (fun j => la.getD j 0) i x = fun j => (la.set i x).getD j 0 := by
  funext j
  simp only [upd, List.getD, List.getElem?_set]
  by_cases hj : j = i
  · subst hj; simp [hi]
  · rw [if_neg hj, if_neg (fun q => hj q.symm)]
theorem am_Hp.set {s : State} {h : aH} {H H1 : Heap} {locs locs1 : List Loc} {cells slots : Nat} {k : Nat} {c1 c2 : aC} (hp : am_Hp w s h H locs cells slots) (hk : h[k]? = some c1) (hz : am_sz c2 = am_sz c1) (hP : va_P (ae_D w) vwCl ((am_W (ae_s w) (ae_tc w) h).set k (ae_s w k, am_e (ae_s w) (ae_tc w) c2)) H1) (hS : va_S (ae_A w) s.heap H1 locs1) (hsz : H1.size = H.size) : am_Hp w s (h.set k c2) H1 locs1 cells slots := by
  obtain ⟨⟨a1, a2, a3, a4⟩, a5, a6, a7, a8, a9⟩ := hp
  refine ⟨⟨by rw [List.length_set]; exact a1, by rw [am_slt_set hk hz]; exact a2, by rw [List.length_set]; exact a3, by rw [am_slt_set hk hz]; exact a4⟩, by rw [am_W_set]; exact hP, hS, by rw [List.length_set]; exact a7, by rw [List.length_set]; exact a8, fun q => by rw [List.length_set, hsz]; exact a9 q⟩
theorem am_ast_cell {cA : ClassId} {n : Nat} {f : Nat → Int32} {i : Int32} {v : Value} {y : Int32} {H1 : Heap} {a : Nat} (hv : v = .int y) (e : H1[a]? = some ((vp_cell cA (n, .inl f)).setSlot i.toNatClampNeg v)) : H1[a]? = some (vp_cell cA (n, .inl (upd f i.toNatClampNeg y))) := by
  rw [e, vp_cell_i, vp_cell_i, arrV_store]
  congr 2
  funext q
  by_cases hq : q = i.toNatClampNeg
  · subst hq
    simp [updV, upd, hv]
  · simp [updV, upd, hq]
theorem so_ast (t : Nat) (ty : FieldType) (ht : (t = 0 ∧ ty = .int) ∨ (t = 1 ∧ ty = .char) ∨ (t = 2 ∧ ty = .byte)) (C : am_Cx w m0 d p l e R s m args below meth c) (hs : am_ast t ty np L S h = some (.inl k'))
    (hrow : ∀ (ls : Array Slot) (H : Heap) (locs : List Loc) (cells slots : Nat) (rest : List Value) (a : Nat) (i x : Int32) (cell : Cell), H[a]? = some cell → s.isArrayOf cell ty → cell.vm ≠ .unknown → ¬ (i < 0 ∨ cell.slots.size ≤ i.toNatClampNeg) → (∀ H' : Heap, H'[a]? = some (cell.setSlot i.toNatClampNeg (.int (vp_nar ty x))) → H'.size = H.size → (∀ q, q ≠ a → H'[q]? = H[q]?) → W p l e R s m args below meth c H' (locs ++ [⟨a, i.toNatClampNeg⟩]) cells slots Q (F0 m np ls rest)) → W p l e R s m args below meth c H locs cells slots Q (F0 m pc ls (.int x :: .int i :: .ref a :: rest)))
    (g : am_Gl w p l e R s m args below meth c Q k') : am_Gl w p l e R s m args below meth c Q (pc, L, S, h) := by
  unfold am_ast at hs
  split at hs
  · rename_i x i a S'
    split at hs
    · rename_i t' la hla
      split at hs
      · rename_i hc
        obtain ⟨ha, rfl, hi0, hil⟩ := hc
        cases hs
        intro ls H locs cells slots hp hl
        have hat := am_W_at (f := ae_s w) (tc := ae_tc w) hla
        have hP := hp.2.1
        have hDD := am_D (ts := ae_ts w) (tc := ae_tc w) hp.2.2.2.1 hp.2.2.2.2.1
        have hA9 := hDD.2 a _ hat
        obtain ⟨-, -, -, -, -, -, hK, -⟩ := C
        refine hrow ls H locs cells slots _ (ae_s w a) i x _ (hP a _ hat) ((hK.2 t' _ (am_ty_at (ae_tc w) ht)).1 la.length (fun j => .int (la.getD j 0))) (fun q => by cases q) (by show ¬ (i < 0 ∨ (arrV _ _ _).slots.size ≤ _); rw [arrV_size]; exact fun q => q.elim hi0 (fun q => Nat.not_le.mpr hil q)) (fun H1 e1 z1 oq => ?_)
        refine g ls H1 _ cells slots (am_Hp.set hp hla ?_ ?_ (hp.2.2.1.put z1 oq hA9) z1) hl
        · simp [am_sz]
        · refine hP.set hDD hat ?_ oq
          show H1[_]? = some (vp_cell _ _)
          have e2 := am_ast_cell (f := fun j => la.getD j 0) rfl e1
          rw [am_upd_set la hil] at e2
          simpa [am_e] using e2
      · cases hs
    · cases hs
  · cases hs
theorem am_cl_at {ci : Nat} (h : ci < 10) : vwCl[ci]? = some (am_cl ci) := by
  have h1 : ci < vwCl.length := h
  rw [am_cl, List.getD, List.getElem?_eq_getElem h1]; rfl
theorem am_fs_of {r : Nat} {q : Nat × Nat × Nat × Nat × FieldType × Bool} (hq : am_fs[r]? = some q) : q ∈ am_fs ∧ am_fsk q = true := ⟨List.mem_of_getElem? hq, List.all_eq_true.mp am_fs_ok q (List.mem_of_getElem? hq)⟩
theorem so_get {q : Nat × Nat × Nat × Nat × FieldType × Bool} (C : am_Cx w m0 d p l e R s m args below meth c) (hq : am_fs[r]? = some q) (hq1 : q.1 = m0.2.1) (hd : decode m0.2.2.1 pc = .ok (.getfield q.2.1, 3)) (hs : am_get q (pc + 3) L S h = some (.inl k')) (g : am_Gl w p l e R s m args below meth c Q k') : am_Gl w p l e R s m args below meth c Q (pc, L, S, h) := by
  obtain ⟨hmem, hk⟩ := am_fs_of hq
  simp only [am_fsk, decide_eq_true_eq] at hk
  obtain ⟨k1, k2, k3, k4, k5, k6⟩ := hk
  unfold am_get at hs
  split at hs
  · rename_i a S'
    split at hs
    · rename_i ci fs hfs
      split at hs
      · rename_i v hv
        split at hs
        · rename_i hc
          obtain ⟨ha, rfl⟩ := hc
          cases hs
          intro ls H locs cells slots hp hl
          obtain ⟨hx, hb, hr, hml, hown, hts, hK, hSE, -⟩ := C
          have hat := am_W_at (f := ae_s w) (tc := ae_tc w) hfs
          have hw := hts _ (am_in_fs hmem)
          simp only [am_fw] at hw
          refine va_get hx hb (C := (am_cl q.2.2.1).1) (T := (am_cl q.2.2.1).2.1) (N := (am_cl q.2.2.1).2.2) hts (fun w hw => am_in_uw (List.mem_of_getElem? (am_cl_at k1)) hw) hown hK hp.2.1 a hat (am_cl_at k1) q.2.2.2.1 k2 (by rw [← hq1]; exact hw) (fun x hx => by rw [← k3]; exact hx) (v := am_v (ae_s w) v) (by rw [List.getElem?_map, hv]; rfl) hd ?_
          exact g ls H locs cells slots hp hl
        · cases hs
      · cases hs
    · cases hs
  · cases hs
theorem am_v_nar (f : Nat → Nat) (ty : FieldType) (v : Value) (h : narrow ty v = v) : narrow ty (am_v f v) = am_v f v := by
  cases v <;> first | exact h | (cases ty <;> rfl)
theorem am_v_fit (f : Nat → Nat) (ty : FieldType) (v : Value) (h : fits ty v = true) : fits ty (am_v f v) = true := by
  cases v <;> first | exact h | (cases ty <;> first | exact h | rfl | (simp [fits] at h))
theorem so_put {q : Nat × Nat × Nat × Nat × FieldType × Bool} (C : am_Cx w m0 d p l e R s m args below meth c) (hq : am_fs[r]? = some q) (hq1 : q.1 = m0.2.1) (hd : decode m0.2.2.1 pc = .ok (.putfield q.2.1, 3)) (hs : am_put m0 q (pc + 3) L S h = some (.inl k')) (g : am_Gl w p l e R s m args below meth c Q k') : am_Gl w p l e R s m args below meth c Q (pc, L, S, h) := by
  obtain ⟨hmem, hk⟩ := am_fs_of hq
  simp only [am_fsk, decide_eq_true_eq] at hk
  obtain ⟨k1, k2, k3, k4, k5, k6⟩ := hk
  unfold am_put at hs
  split at hs
  · rename_i v a S'
    split at hs
    · rename_i ci fs hfs
      split at hs
      · rename_i hc
        obtain ⟨ha, rfl, hlt, hnar, hfit, hini⟩ := hc
        cases hs
        intro ls H locs cells slots hp hl
        obtain ⟨hx, hb, hr, hml, hown, hts, hK, hSE, hlk, hnm, -⟩ := C
        have hat := am_W_at (f := ae_s w) (tc := ae_tc w) hfs
        have hP := hp.2.1
        have hDD := am_D (ts := ae_ts w) (tc := ae_tc w) hp.2.2.2.1 hp.2.2.2.2.1
        have hA9 := hDD.2 a _ hat
        have hw := hts _ (am_in_fs hmem)
        simp only [am_fw] at hw
        rw [hq1] at hw
        have hinU : ∀ w ∈ u_ws (am_cl q.2.2.1).1 (am_cl q.2.2.1).2.1 (am_cl q.2.2.1).2.2, w ∈ am_G := fun w hw => am_in_uw (List.mem_of_getElem? (am_cl_at k1)) hw
        obtain ⟨ty0, hty, hnmm⟩ := am_cl_ty k1
        have hap := va_apart (own := am_nm m0.2.1) hts hinU ty0 hty hnmm hK (am_cl_at k1)
        obtain ⟨r9, h1, cell, q1, q2, q3, q4⟩ := hP a _ hat
        have hr9 : r9 = am_cl q.2.2.1 := Option.some.inj (h1.symm.trans (am_cl_at k1))
        subst hr9
        obtain ⟨hS, hfc, kC, hkC, hkind⟩ := hK.1 q.2.2.1 _ (am_cl_at k1)
        obtain ⟨cf, kf, fi, f, hi, hsl⟩ := hS q.2.2.2.1 k2
        have hlay := hts _ (hinU _ (u_in_lay k2))
        unfold u_lay at hlay
        have hst := (u_facts hfc hkC (u_lays hts hinU k2) hi).1
        have hnar' := am_v_nar (ae_s w) _ v hnar
        have hfit' := am_v_fit (ae_s w) _ v hfit
        have fin : ∀ H' : Heap, H'[ae_s w a]? = some (cell.setSlot f.slot (am_v (ae_s w) v)) → H'.size = H.size → (∀ x, x ≠ ae_s w a → H'[x]? = H[x]?) → W p l e R s m args below meth c H' (locs ++ [⟨ae_s w a, f.slot⟩]) cells slots Q (F0 m (pc + 3) ls (S'.map (am_v (ae_s w)))) := by
          intro H' e1 e2 e3
          rw [hsl] at e1 ⊢
          refine g ls H' _ cells slots (am_Hp.set hp hfs (by simp [am_sz]) ?_ (hp.2.2.1.put e2 e3 hA9) e2) hl
          refine hP.set hDD hat ⟨_, am_cl_at k1, t_OB.to (V := updV (vp_V (fs.map (am_v (ae_s w)))) q.2.2.2.1 (am_v (ae_s w) v)) ⟨_, e1, q2, q3, t_set q4 hap k2 _⟩ (fun j _ => ?_)⟩ e3
          rw [vp_updV_set (by rw [List.length_map]; exact hlt), List.map_set]
        by_cases hfin : q.2.2.2.2.2 = true
        · obtain ⟨n1, n2⟩ := hini hfin
          rw [if_pos (by rw [k5]; exact hfin)] at hlay
          have hcf : m.cls = cf := by
            obtain ⟨_, _, c', _, _, _, -, -, hf', -, -, -, hown2, -⟩ := Cond.laysFinal_spec hlay
            have e1 : c' = cf := by have := hi.symm.trans hf'; simp at this; exact this.1.symm
            rw [k3, ← k6, ← n2, hq1] at hown2
            rw [← e1]; exact Option.some.inj (hown.symm.trans hown2)
          have h6 := u_fits hfc hkC hkind (Or.inr hlay) hi k4 hnar' hfit'
          exact W.putFinK hx hb hown hw (by rw [k3] at hi; exact hi) hst hcf (by rw [hnm]; exact n1) (by rw [q2]; exact h6) q1 q3 (by rw [hsl]; exact k2_hasslot (q4 _ k2)) rfl rfl hd fin
        · rw [if_neg (by rw [k5]; exact hfin)] at hlay
          have h6 := u_store hfc hkC hkind hlay hi k4 hnar' hfit'
          exact W.putK hx hb (f := f) ⟨hown, hw, ⟨_, _, _, by rw [k3] at hi; exact hi⟩, hst⟩ (by rw [q2]; exact h6) q1 q3 (by rw [hsl]; exact k2_hasslot (q4 _ k2)) rfl rfl hd fin
      · cases hs
    · cases hs
  · cases hs
theorem so_aald (C : am_Cx w m0 d p l e R s m args below meth c) (hd : decode m0.2.2.1 pc = .ok (.aaload, 1)) (hs : am_aald (pc + 1) L S h = some (.inl k')) (g : am_Gl w p l e R s m args below meth c Q k') : am_Gl w p l e R s m args below meth c Q (pc, L, S, h) := by
  unfold am_aald at hs
  split at hs
  · rename_i i a S'
    split at hs
    · rename_i la hla
      split at hs
      · rename_i x hxx
        split at hs
        · rename_i ha
          cases hs
          intro ls H locs cells slots hp hl
          obtain ⟨hx, hb, hr, hml, hown, hts, hK, hSE, -⟩ := C
          have hat := am_W_at (f := ae_s w) (tc := ae_tc w) hla
          obtain ⟨hin, hget⟩ := am_ix_in hxx
          have g1 := g ls H locs cells slots hp hl
          refine va_aldq hx hb hK hp.2.1 a 3 hat rfl hin hd ?_
          have e1 : va_rf ((la.getD i.toNatClampNeg none).map (ae_s w)) = am_v (ae_s w) (.ref x) := by simp [List.getD, hget, va_rf, am_v]
          rw [e1]
          exact g1
        · cases hs
      · cases hs
    · cases hs
  · cases hs
theorem am_up_set (f : Nat → Nat) (la : List (Option Nat)) {i : Nat} (hi : i < la.length) (x : Nat) : va_up (fun j => (la.getD j none).map f) i (some (f x)) = fun j => ((la.set i (some x)).getD j none).map f := by
  funext j
  simp only [va_up, List.getD, List.getElem?_set]
  by_cases hj : j = i
  · subst hj; simp [hi]
  · rw [if_neg hj, if_neg (fun q => hj q.symm)]
theorem so_aast (C : am_Cx w m0 d p l e R s m args below meth c) (hd : decode m0.2.2.1 pc = .ok (.aastore, 1)) (hs : am_aast (pc + 1) L S h = some (.inl k')) (g : am_Gl w p l e R s m args below meth c Q k') : am_Gl w p l e R s m args below meth c Q (pc, L, S, h) := by
  unfold am_aast at hs
  split at hs
  · rename_i v i a S'
    split at hs
    · rename_i la hla
      split at hs
      · rename_i fs hfs
        split at hs
        · rename_i hc
          obtain ⟨ha, hv, hi0, hil⟩ := hc
          cases hs
          intro ls H locs cells slots hp hl
          obtain ⟨hx, hb, hr, hml, hown, hts, hK, hSE, -⟩ := C
          have hat := am_W_at (f := ae_s w) (tc := ae_tc w) hla
          have hvt := am_W_at (f := ae_s w) (tc := ae_tc w) hfs
          have hP := hp.2.1
          have hDD := am_D (ts := ae_ts w) (tc := ae_tc w) hp.2.2.2.1 hp.2.2.2.2.1
          have hA9 := hDD.2 a _ hat
          obtain ⟨r', hr', cellV, g1, g2, g3, -⟩ := hP v _ hvt
          have hcls := (hK.1 3 (RX3, TX3, 7) rfl).2
          obtain ⟨kA, comp, k1, k2, k3, -⟩ := (hK.2 3 (ae_tc w 3, .object RX3) rfl).2
          have hcomp : comp = (ae_D w).1 3 := Option.some.inj (k3.symm.trans hcls.1)
          subst hcomp
          obtain ⟨kC, hkC, -⟩ := hcls.2
          refine W.aast hx hb (hP a _ hat) (fun q h => by cases h) (fun h => by cases h) k1 k2 rfl hkC ⟨hi0, by show _ < (arrV _ _ _).slots.size; rw [arrV_size]; exact hil⟩ g1 (fun q h => by rw [g3] at h; cases h) (by rw [g2]; exact hkC) (by rw [g2]; exact va_assign hcls) rfl rfl hd fun H1 e1 z1 oq => ?_
          refine g ls H1 _ cells slots (am_Hp.set hp hla (by simp [am_sz]) ?_ (hp.2.2.1.put z1 oq hA9) z1) hl
          refine hP.set hDD hat ?_ oq
          show H1[_]? = some (vp_cell _ _)
          rw [e1]
          show some ((vp_cell _ (_, .inr (.inr (.inr (.inr _))))).setSlot _ _) = some (vp_cell _ (_, .inr (.inr (.inr (.inr _)))))
          rw [vp_cell_q, vp_cell_q, arrV_store]
          have e5 := am_up_set (ae_s w) la hil v
          simp only [List.length_set]
          congr 2
          funext x
          have e6 := congrFun e5 x
          simp only [← e6]
          by_cases hq : x = i.toNatClampNeg
          · subst hq; simp [updV, va_up, va_rf]
          · simp [updV, va_up, hq]
        · cases hs
      · cases hs
    · cases hs
  · cases hs
theorem so_alen (C : am_Cx w m0 d p l e R s m args below meth c) (hd : decode m0.2.2.1 pc = .ok (.arraylength, 1)) {a : Nat} {t : Nat} {la : List Int32} (hla : am_arr h a = some (t, la)) (ht : t < 3) (g : am_Gl w p l e R s m args below meth c Q (pc + 1, L, .int (Int32.ofNat la.length) :: S, h)) : am_Gl w p l e R s m args below meth c Q (pc, L, .ref a :: S, h) := by
  intro ls H locs cells slots hp hl
  obtain ⟨hx, hb, hr, hml, hown, hts, hK, hSE, -⟩ := C
  have g1 := g ls H locs cells slots hp hl
  unfold am_arr at hla
  split at hla
  · rename_i ha
    split at hla
    · rename_i y hy
      cases hla
      have hat := am_W_at (f := ae_s w) (tc := ae_tc w) hy
      rcases (show t = 0 ∨ t = 1 ∨ t = 2 by omega) with rfl | rfl | rfl
      · exact va_alen hx hb hK hp.2.1 a 0 hat rfl rfl hd g1
      · exact va_alen hx hb hK hp.2.1 a 1 hat rfl rfl hd g1
      · exact va_alen hx hb hK hp.2.1 a 2 hat rfl rfl hd g1
    · cases hla
  · rename_i ha
    cases hj : am_sta[a - 100000]? with
    | none => rw [hj] at hla; cases hla
    | some l1 =>
      rw [hj] at hla
      cases hla
      have hj3 : a - 100000 < 3 := (List.getElem?_eq_some_iff.mp hj).1
      have hgd : am_sta.getD (a - 100000) [] = la := by simp [List.getD, hj]
      have hT := (hSE.2.2.2.1 _ hj3).2
      rw [hgd] at hT
      have e1 : am_v (ae_s w) (.ref a) = .ref (ae_ts w (a - 100000)) := by simp [am_v, am_sg, ha]
      simp only [List.map_cons, e1]
      exact va_tlen hx hb hT hp.2.2.1 rfl hd g1
end AMR
end
section
section AMN
variable {w : aE} {m0 : aM} {d : Nat} {p : Program} {l : Launch} {e : Env} {R : Room} {s : State} {m : MethodId} {args : Array Value} {below : List Frame} {meth : Method} {c : Code} {Q : State → Prop}
variable {pc np r : Nat} {L : aL} {S : List Value} {h : aH} {k' : aK}
theorem am_cs_lt : ∀ q ∈ am_cs, q.2.2 < 8 := by decide
theorem am_df_ok {ci : Nat} (hc : ci < 8) (f : Nat → Nat) : ∃ ty0 : Nat → FieldType, (∀ k, k < (am_cl ci).2.2 → parseFieldDescriptor ((am_cl ci).2.1 k).2.2.1 = some (ty0 k)) ∧ (∀ j, j < (am_cl ci).2.2 → defaultValue (ty0 j) = vp_V ((am_df ci).map (am_v f)) j) ∧ (am_df ci).length = (am_cl ci).2.2 := by
  match ci, hc with
  | 0, _ => exact ⟨tyX0, tyX0_ok, fun j hj => by rcases (show j = 0 ∨ j = 1 ∨ j = 2 ∨ j = 3 from by have : j < 4 := hj; omega) with rfl | rfl | rfl | rfl <;> rfl, rfl⟩
  | 1, _ => exact ⟨tyX1, tyX1_ok, fun j hj => by rcases (show j = 0 ∨ j = 1 ∨ j = 2 ∨ j = 3 ∨ j = 4 from by have : j < 5 := hj; omega) with rfl | rfl | rfl | rfl | rfl <;> rfl, rfl⟩
  | 2, _ => exact ⟨tyX2, tyX2_ok, fun j hj => by rcases (show j = 0 ∨ j = 1 from by have : j < 2 := hj; omega) with rfl | rfl <;> rfl, rfl⟩
  | 3, _ => exact ⟨tyX3, tyX3_ok, fun j hj => by rcases (show j = 0 ∨ j = 1 ∨ j = 2 ∨ j = 3 ∨ j = 4 ∨ j = 5 ∨ j = 6 from by have : j < 7 := hj; omega) with rfl | rfl | rfl | rfl | rfl | rfl | rfl <;> rfl, rfl⟩
  | 4, _ => exact ⟨tyX4, tyX4_ok, fun j hj => by rcases (show j = 0 ∨ j = 1 ∨ j = 2 from by have : j < 3 := hj; omega) with rfl | rfl | rfl <;> rfl, rfl⟩
  | 5, _ => exact ⟨tyX5, tyX5_ok, fun j hj => by rcases (show j = 0 ∨ j = 1 ∨ j = 2 ∨ j = 3 ∨ j = 4 from by have : j < 5 := hj; omega) with rfl | rfl | rfl | rfl | rfl <;> rfl, rfl⟩
  | 6, _ => exact ⟨tyX6, tyX6_ok, fun j hj => by rcases (show j = 0 ∨ j = 1 from by have : j < 2 := hj; omega) with rfl | rfl <;> rfl, rfl⟩
  | 7, _ => exact ⟨tyX7, tyX7_ok, fun j hj => by rcases (show j = 0 ∨ j = 1 ∨ j = 2 ∨ j = 3 ∨ j = 4 ∨ j = 5 from by have : j < 6 := hj; omega) with rfl | rfl | rfl | rfl | rfl | rfl <;> rfl, rfl⟩
/-- a cell more -/
theorem am_Hp.app {h : aH} {H H1 : Heap} {locs : List Loc} {cells slots : Nat} {c2 : aC} (hp : am_Hp w s h H locs cells slots) (hal : ae_al w = true) (hA1 : ∀ q, ae_b w ≤ q → ae_A w q) (hlt : h.length < 99999) (hn1 : (h ++ [c2]).length ≤ ae_n1 w) (hz1 : am_slt (h ++ [c2]) ≤ ae_z1 w) (hz : H1.size = H.size + 1) (ho : ∀ q, q < H.size → H1[q]? = H[q]?) (hc : va_at (ae_D w) vwCl (H.size, am_e (ae_s w) (ae_tc w) c2) H1) : am_Hp w s (h ++ [c2]) H1 locs (cells + 1) (slots + am_sz c2) := by
  obtain ⟨⟨a1, a2, a3, a4⟩, a5, a6, a7, a8, a9⟩ := hp
  have hsz := a9 hal
  have hsg : ae_s w h.length = H.size := by rw [hsz]; exact am_sg_lt (by omega)
  refine ⟨⟨hn1, hz1, ?_, ?_⟩, ?_, ?_, ?_, ?_, ?_⟩
  · rw [List.length_append]; simp; omega
  · rw [am_slt_app]; omega
  · rw [am_W_app, hsg]
    refine va_P.app (a5.kept (fun k q hq => ho q.1 ((a5 k q hq).lt))) (fun k q hq => ?_)
    have hz2 : k < 1 := (List.getElem?_eq_some_iff.mp hq).1
    rw [show k = 0 by omega] at hq
    cases hq
    exact hc
  · exact ⟨Nat.le_trans a6.1 (by omega), fun q h1 h2 => (ho q (Nat.lt_of_lt_of_le h1 a6.1)).trans (a6.2.1 q h1 h2), a6.2.2⟩
  · intro j hj; exact hA1 _ (by omega)
  · rw [List.length_append]; simp; omega
  · intro _; rw [hz, hsz, List.length_append]; simp; omega
theorem so_new {q : Nat × Nat × Nat} (C : am_Cx w m0 d p l e R s m args below meth c) (hq : am_cs[r]? = some q) (hq1 : q.1 = m0.2.1) (hd : decode m0.2.2.1 pc = .ok (.new q.2.1, 3)) (hs : am_new (ae_al w) r (pc + 3) L S h = some (.inl k')) (hn1 : k'.2.2.2.length ≤ ae_n1 w) (hz1 : am_slt k'.2.2.2 ≤ ae_z1 w) (g : am_Gl w p l e R s m args below meth c Q k') : am_Gl w p l e R s m args below meth c Q (pc, L, S, h) := by
  unfold am_new at hs
  rw [hq] at hs
  simp only at hs
  split at hs
  · rename_i hc
    obtain ⟨hal, hlt⟩ := hc
    cases hs
    have hmem := List.mem_of_getElem? hq
    have hci := am_cs_lt q hmem
    obtain ⟨ty0, hty, hdf, hlen⟩ := am_df_ok hci (ae_s w)
    intro ls H locs cells slots hp hl
    obtain ⟨hx, hb, hr, hml, hown, hts, hK, hSE, -, -, hA1, ⟨-, -, hR1, hR2⟩, -⟩ := C
    have hcl := am_cl_at (ci := q.2.2) (by omega)
    have hKn := hK.1 q.2.2 _ hcl
    have hinU : ∀ w ∈ u_ws (am_cl q.2.2).1 (am_cl q.2.2).2.1 (am_cl q.2.2).2.2, w ∈ am_G := fun w hw => am_in_uw (List.mem_of_getElem? hcl) hw
    have w1 := hts _ (am_in_cs hmem (List.mem_cons_self))
    have w2 := hts _ (am_in_cs hmem (List.mem_cons_of_mem _ List.mem_cons_self))
    have w3 := hts _ (am_in_cs hmem (List.mem_cons_of_mem _ (List.mem_cons_of_mem _ List.mem_cons_self)))
    rw [hq1] at w1
    have hp0 : h.length ≤ ae_n1 w ∧ am_slt h ≤ ae_z1 w ∧ cells + ae_n0 w = h.length ∧ slots + ae_z0 w = am_slt h := hp.1
    have e1 : (h ++ [(Sum.inr (Sum.inr (q.2.2, am_df q.2.2)) : aC)]).length = h.length + 1 := by simp
    have e2 := am_slt_app h (.inr (.inr (q.2.2, am_df q.2.2)))
    have e3 : am_sz (.inr (.inr (q.2.2, am_df q.2.2))) = (am_cl q.2.2).2.2 := hlen
    have hn1' : h.length + 1 ≤ ae_n1 w := by rw [← e1]; exact hn1
    have hz1' : am_slt h + (am_cl q.2.2).2.2 ≤ ae_z1 w := by rw [← e3, ← e2]; exact hz1
    refine W.newcK hx hb hown w1 w2 w3 rfl hd (by omega) (by omega) hKn.2.1 rfl fun H1 kC hkC f1 z1 o1 => ?_
    have hsz := hp.2.2.2.2.2 hal
    have hsg : ae_s w h.length = H.size := by rw [hsz]; exact am_sg_lt (by omega)
    have hp1 := am_Hp.app hp hal (hA1 hal) hlt hn1 hz1 z1 o1 ⟨_, hcl, (u_born ty0 hts hinU hKn hkC f1 hty).to hdf⟩
    rw [e3] at hp1
    have g1 := g ls H1 locs _ _ hp1 hl
    simp only [List.map_cons, am_v, hsg] at g1
    exact g1
  · cases hs
theorem so_newa {t : ArrayType} (C : am_Cx w m0 d p l e R s m args below meth c) (hd : decode m0.2.2.1 pc = .ok (.newarray t, 2)) (hs : am_newa (ae_al w) t (pc + 2) L S h = some (.inl k')) (hn1 : k'.2.2.2.length ≤ ae_n1 w) (hz1 : am_slt k'.2.2.2 ≤ ae_z1 w) (g : am_Gl w p l e R s m args below meth c Q k') : am_Gl w p l e R s m args below meth c Q (pc, L, S, h) := by
  unfold am_newa at hs
  split at hs
  · rename_i n S'
    split at hs
    · rename_i tg htg
      split at hs
      · rename_i hc
        obtain ⟨hal, hlt, hn0, hN⟩ := hc
        cases hs
        intro ls H locs cells slots hp hl
        obtain ⟨hx, hb, hr, hml, hown, hts, hK, hSE, -, -, hA1, ⟨-, -, hR1, hR2⟩, -⟩ := C
        have hp0 : h.length ≤ ae_n1 w ∧ am_slt h ≤ ae_z1 w ∧ cells + ae_n0 w = h.length ∧ slots + ae_z0 w = am_slt h := hp.1
        have e1 : (h ++ [(Sum.inl (tg, List.replicate n.toNatClampNeg 0) : aC)]).length = h.length + 1 := by simp
        have e2 := am_slt_app h (.inl (tg, List.replicate n.toNatClampNeg 0))
        have e3 : am_sz (.inl (tg, List.replicate n.toNatClampNeg 0)) = n.toNatClampNeg := by simp [am_sz]
        have hn1' : h.length + 1 ≤ ae_n1 w := by rw [← e1]; exact hn1
        have hz1' : am_slt h + n.toNatClampNeg ≤ ae_z1 w := by rw [← e3, ← e2]; exact hz1
        have hty : ∃ ty : FieldType, newarray.typeOf t = ty ∧ ((tg = 0 ∧ ty = .int) ∨ (tg = 1 ∧ ty = .char) ∨ (tg = 2 ∧ ty = .byte)) ∧ Cond.arrayClass ty ∈ am_xw ∧ defaultValue ty = .int 0 ∧ componentBytes ty ≤ 4 ∧ ∀ cA, va_RA s cA ty = (s.vm.findClass ("[" ++ ty.toString) = some cA) := by
          cases t <;> simp only [am_tag] at htg <;> first | cases htg | skip
          · exact ⟨.char, rfl, Or.inr (Or.inl ⟨rfl, rfl⟩), by decide, rfl, by decide, fun _ => rfl⟩
          · exact ⟨.byte, rfl, Or.inr (Or.inr ⟨rfl, rfl⟩), by decide, rfl, by decide, fun _ => rfl⟩
          · exact ⟨.int, rfl, Or.inl ⟨rfl, rfl⟩, by decide, rfl, by decide, fun _ => rfl⟩
        obtain ⟨ty, ht1, ht2, ht3, ht4, ht5, ht6⟩ := hty
        refine va_newaK hx hb (by rw [ht1]; exact hts _ (am_in_xw ht3)) rfl hd rfl hn0 rfl (by rw [ht1]; have := Nat.mul_le_mul (Nat.le_of_lt hN) ht5; omega) (by omega) (by omega) rfl fun H1 cA f1 z1 o1 hAr hNm => ?_
        rw [ht1] at f1 hNm
        have hKt := (hK.2 tg _ (am_ty_at (ae_tc w) ht2)).2
        rw [ht6] at hKt
        have hcA : ae_tc w tg = cA := Option.some.inj (hKt.symm.trans hNm)
        have hsz := hp.2.2.2.2.2 hal
        have hsg : ae_s w h.length = H.size := by rw [hsz]; exact am_sg_lt (by omega)
        have hat : va_at (ae_D w) vwCl (H.size, am_e (ae_s w) (ae_tc w) (.inl (tg, List.replicate n.toNatClampNeg 0))) H1 := by
          show H1[H.size]? = some (vp_cell _ _)
          rw [f1, vp_cell_i, ht4, hcA]
          simp [List.getD, List.getElem?_replicate]
          congr 1
          funext j
          split <;> rfl
        have hp1 := am_Hp.app hp hal (hA1 hal) hlt hn1 hz1 z1 o1 hat
        rw [e3] at hp1
        have g1 := g ls H1 locs _ _ hp1 hl
        simp only [List.map_cons, am_v, hsg] at g1
        exact g1
      · cases hs
    · cases hs
  · cases hs
theorem so_anew {q : Nat × Nat × Nat} (C : am_Cx w m0 d p l e R s m args below meth c) (hq : am_cs[r]? = some q) (hq1 : q.1 = m0.2.1) (hd : decode m0.2.2.1 pc = .ok (.anewarray q.2.1, 3)) (hs : am_anew (ae_al w) r (pc + 3) L S h = some (.inl k')) (hn1 : k'.2.2.2.length ≤ ae_n1 w) (hz1 : am_slt k'.2.2.2 ≤ ae_z1 w) (g : am_Gl w p l e R s m args below meth c Q k') : am_Gl w p l e R s m args below meth c Q (pc, L, S, h) := by
  unfold am_anew at hs
  split at hs
  · rename_i n S'
    rw [hq] at hs
    simp only at hs
    split at hs
    · rename_i hc
      obtain ⟨hal, hq3, hlt, hn0, hN⟩ := hc
      cases hs
      have hmem := List.mem_of_getElem? hq
      intro ls H locs cells slots hp hl
      obtain ⟨hx, hb, hr, hml, hown, hts, hK, hSE, -, -, hA1, ⟨-, -, hR1, hR2⟩, -⟩ := C
      have w1 := hts _ (am_in_cs hmem (List.mem_cons_self))
      rw [hq1, hq3] at w1
      have hp0 : h.length ≤ ae_n1 w ∧ am_slt h ≤ ae_z1 w ∧ cells + ae_n0 w = h.length ∧ slots + ae_z0 w = am_slt h := hp.1
      have e1 : (h ++ [(Sum.inr (Sum.inl (List.replicate n.toNatClampNeg none)) : aC)]).length = h.length + 1 := by simp
      have e2 := am_slt_app h (.inr (.inl (List.replicate n.toNatClampNeg none)))
      have e3 : am_sz (.inr (.inl (List.replicate n.toNatClampNeg none))) = n.toNatClampNeg := by simp [am_sz]
      have hn1' : h.length + 1 ≤ ae_n1 w := by rw [← e1]; exact hn1
      have hz1' : am_slt h + n.toNatClampNeg ≤ ae_z1 w := by rw [← e3, ← e2]; exact hz1
      refine W.anew hx hb hown w1 (va_AO.use hSE.2.2.1) rfl hd rfl hn0 (by omega) (by omega) (by omega) fun cA kA comp f1 f2 f3 f4 => ?_
      generalize hH1 : H.push ({ cls := cA, slots := Array.replicate n.toNatClampNeg .null, vm := .none } : Cell) = H1
      have z1 : H1.size = H.size + 1 := by rw [← hH1, Array.size_push]
      have ee1 : H1[H.size]? = some (arrV cA n.toNatClampNeg (fun _ => .null)) := by rw [← hH1, Array.getElem?_push_size, ← arrV_new]
      have o1 : ∀ q : Nat, q < H.size → H1[q]? = H[q]? := fun q hq => by rw [← hH1, Array.getElem?_push, if_neg (Nat.ne_of_lt hq)]
      obtain ⟨kA', comp', r1, r2, r3, r4⟩ := (hK.2 3 (ae_tc w 3, .object RX3) rfl).2
      have hcA : ae_tc w 3 = cA := Option.some.inj (r4.symm.trans f1)
      have hsz := hp.2.2.2.2.2 hal
      have hsg : ae_s w h.length = H.size := by rw [hsz]; exact am_sg_lt (by omega)
      have hat : va_at (ae_D w) vwCl (H.size, am_e (ae_s w) (ae_tc w) (.inr (.inl (List.replicate n.toNatClampNeg none)))) H1 := by
        show H1[H.size]? = some (vp_cell _ _)
        rw [ee1, vp_cell_q, hcA]
        simp [List.getD, List.getElem?_replicate]
        congr 1
        funext j
        split <;> rfl
      have hp1 := am_Hp.app hp hal (hA1 hal) hlt hn1 hz1 z1 o1 hat
      rw [e3] at hp1
      have g1 := g ls H1 locs _ _ hp1 hl
      simp only [List.map_cons, am_v, hsg] at g1
      exact g1
    · cases hs
  · cases hs
/-! calls -/
def am_B (w : aE) (h : aH) (U : State) : Prop := va_P (ae_D w) vwCl (am_W (ae_s w) (ae_tc w) h) U.heap ∧ va_K (ae_D w) vwCl (am_tys (ae_tc w)) U ∧ am_SE (ae_A w) (ae_ts w) U U.heap ∧ (ae_al w = true → U.heap.size = ae_b w + h.length)
def am_Q (w : aE) (rv : Option Value) (h' : aH) : Array Value → State → Outcome → State → Prop := fun _ st oc t => oc = .returned (rv.map (am_v (ae_s w))) ∧ va_P (ae_D w) vwCl (am_W (ae_s w) (ae_tc w) h') t.heap ∧ (ae_al w = true → t.heap.size = ae_b w + h'.length) ∧ va_F (ae_A w) st t
def am_rm (d mc ms : Nat) : Room := { frames := d + 8, cells := mc, slots := ms, locals := 40 * d + 400 }
theorem am_wcall {rv : Option Value} {h' : aH} {H : Heap} {locs : List Loc} {cells slots mc ms : Nat} {ls : Array Slot} {st0 rest : List Value} {a : Array Value} (hr : va_Run p l e R s m args below meth c H locs cells slots mc ms (F0 m pc ls st0) rest (am_Q w rv h' a) (ae_A w)) (hS : va_S (ae_A w) s.heap H locs)
    (kk : ∀ (H1 : Heap) (locs1 : List Loc), va_P (ae_D w) vwCl (am_W (ae_s w) (ae_tc w) h') H1 → (ae_al w = true → H1.size = ae_b w + h'.length) → va_S (ae_A w) s.heap H1 locs1 → W p l e R s m args below meth c H1 locs1 (cells + mc) (slots + ms) Q (F0 m (pc + 3) ls ((rv.map (am_v (ae_s w))).toList ++ rest))) : W p l e R s m args below meth c H locs cells slots Q (F0 m pc ls st0) := by
  intro T hT X
  obtain ⟨v, st₀, t, T', L, h0, X', hL, e1, e2, ⟨hv, hP, hsz, hz, hk⟩, st⟩ := hr T hT X
  cases hv
  rw [h0] at hz hk
  obtain ⟨t2, a1, b1⟩ := kk T'.heap (locs ++ L) (by rw [e1]; exact hP) (by rw [e1]; exact hsz)
    ⟨Nat.le_trans hS.1 (by rw [e1]; exact hz), fun q h1 h2 => by rw [e1, hk q (Nat.lt_of_lt_of_le h1 hS.1) h2]; exact hS.2.1 q h1 h2, fun q hq => by
      rcases List.mem_append.mp hq with h | h
      · exact hS.2.2 q h
      · exact hL q h⟩ T' rfl X'
  exact ⟨t2, st t2 a1, b1⟩
/-- what a run does to the number of cells and slots -/
def am_Mo (al : Bool) (h h' : aH) : Prop := h.length ≤ h'.length ∧ am_slt h ≤ am_slt h' ∧ (al = false → h'.length = h.length ∧ am_slt h' = am_slt h) ∧ (h.length ≤ 100000 → h'.length ≤ 100000)
theorem am_Mo.rf {al : Bool} {h : aH} : am_Mo al h h := ⟨Nat.le_refl _, Nat.le_refl _, fun _ => ⟨rfl, rfl⟩, id⟩
theorem am_Mo.trans {al : Bool} {a b c : aH} (h1 : am_Mo al a b) (h2 : am_Mo al b c) : am_Mo al a c := ⟨Nat.le_trans h1.1 h2.1, Nat.le_trans h1.2.1 h2.2.1, fun q => ⟨(h2.2.2.1 q).1.trans (h1.2.2.1 q).1, (h2.2.2.1 q).2.trans (h1.2.2.1 q).2⟩, fun q => h2.2.2.2 (h1.2.2.2 q)⟩
theorem am_Mo.set {al : Bool} {h : aH} {k : Nat} {c c' : aC} (hk : h[k]? = some c) (hz : am_sz c' = am_sz c) : am_Mo al h (h.set k c') := by
  have e1 : (h.set k c').length = h.length := List.length_set
  have e2 := am_slt_set hk hz
  exact ⟨by omega, by omega, fun _ => ⟨e1, e2⟩, fun q => by omega⟩
theorem am_Mo.app {al : Bool} {h : aH} {c : aC} (hal : al = true) (hl : h.length < 99999) : am_Mo al h (h ++ [c]) := by
  have e1 : (h ++ [c]).length = h.length + 1 := by simp
  have e2 := am_slt_app h c
  exact ⟨by omega, by omega, fun q => (by rw [hal] at q; cases q), fun q => (by omega)⟩
end AMN
end
section
section AMS
variable {w : aE} {m0 : aM} {d : Nat} {p : Program} {l : Launch} {e : Env} {R : Room} {s : State} {m : MethodId} {args : Array Value} {below : List Frame} {meth : Method} {c : Code} {Q : State → Prop}
variable {pc np r : Nat} {L : aL} {S : List Value} {h : aH} {k' : aK}
theorem am_nm_cl {ci : Nat} (h : ci < 10) : (am_cl ci).1 = am_nm ci := by
  match ci, h with
  | 0, _ => rfl
  | 1, _ => rfl
  | 2, _ => rfl
  | 3, _ => rfl
  | 4, _ => rfl
  | 5, _ => rfl
  | 6, _ => rfl
  | 7, _ => rfl
  | 8, _ => rfl
  | 9, _ => rfl
theorem am_blind (w : aE) (h : aH) (vs : List Value) : FrameBlind (va_Pc vs (am_B w h)) := fun a U g mk q => ⟨q.1, q.2.1, va_K.moved (u := U) (U := U.calling g mk a) (Vm.Alike.refl U.vm) q.2.2.1, am_SE.same (U := U.calling g mk a) q.2.2.2.1 rfl, q.2.2.2.2⟩
theorem am_pre (C : am_Cx w m0 d p l e R s m args below meth c) {H : Heap} {locs : List Loc} {cells slots : Nat} (hp : am_Hp w s h H locs cells slots) (vs : List Value) : ∀ U : State, U.heap = H → s.WarmedH U.vm → va_Pc vs (am_B w h) vs.toArray U := by
  intro U hU hW
  obtain ⟨hx, hb, hr, hml, hown, hts, hK, hSE, -⟩ := C
  refine ⟨rfl, by rw [hU]; exact hp.2.1, va_K.moved hW.alike hK, ?_, by rw [hU]; exact hp.2.2.2.2.2⟩
  rw [hU]
  exact hSE.go hW (fun a h1 h2 => hp.2.2.1.2.1 a h1 h2)
theorem am_okm_of {m' : aM} (hm : m' ∈ am_tab) : m'.2.2.2.1 ≤ 20 ∧ plainName m'.1.cls = true ∧ m'.1.cls = am_nm m'.2.1 := by
  have h1 := am_mem_ok hm
  simp only [am_okm, Bool.and_eq_true, decide_eq_true_eq] at h1
  exact ⟨h1.1.2, h1.2.1, h1.2.2⟩
theorem am_y_of {k : Nat} {m' : aM} (h : am_tab[k]? = some m') : am_y k = m'.1 := by simp [am_y, List.getD, h]
/-- behind a call -/
theorem am_behind {rv : Option Value} {h' : aH} {H : Heap} {locs : List Loc} {cells slots : Nat} {ls : Array Slot} {rest : List Value} (hA1 : ae_al w = true → ∀ q, ae_b w ≤ q → ae_A w q) (hmo : am_Mo (ae_al w) h h') (hn1 : h'.length ≤ ae_n1 w) (hz1 : am_slt h' ≤ ae_z1 w) (hp : am_Hp w s h H locs cells slots) (hl : lv_has ls c.maxLocals (am_lv (ae_s w) L)) (g : am_Gl w p l e R s m args below meth c Q (np, L, rv.toList ++ rest, h')) (H1 : Heap) (locs1 : List Loc) (hP : va_P (ae_D w) vwCl (am_W (ae_s w) (ae_tc w) h') H1) (hsz : ae_al w = true → H1.size = ae_b w + h'.length) (hS : va_S (ae_A w) s.heap H1 locs1) : W p l e R s m args below meth c H1 locs1 (cells + (h'.length - h.length)) (slots + (am_slt h' - am_slt h)) Q (F0 m np ls ((rv.map (am_v (ae_s w))).toList ++ rest.map (am_v (ae_s w)))) := by
  obtain ⟨⟨a1, a2, a3, a4⟩, a5, a6, a7, a8, a9⟩ := hp
  obtain ⟨b1, b2, b3, b4⟩ := hmo
  have c1 : cells + (h'.length - h.length) + ae_n0 w = h'.length := by omega
  have c2 : slots + (am_slt h' - am_slt h) + ae_z0 w = am_slt h' := by omega
  have g1 := g ls H1 locs1 (cells + (h'.length - h.length)) (slots + (am_slt h' - am_slt h)) ⟨⟨hn1, hz1, c1, c2⟩, hP, hS, ?_, b4 a8, hsz⟩ hl
  · cases rv with
    | none => exact g1
    | some v => exact g1
  · intro j hj
    have hj : j < h'.length := hj
    cases hal : ae_al w with
    | true => exact hA1 hal _ (by omega)
    | false => exact a7 j (by have := (b3 hal).1; omega)
theorem am_take {n : Nat} {as : List Value} (has : (S.take n).reverse = as) : S = as.reverse ++ S.drop n := by
  rw [← has, List.reverse_reverse, List.take_append_drop]
section AMI
variable {q : Nat × Nat × Nat × Nat × Nat} {m' : aM} {as : List Value} {rv : Option Value} {h' : aH} {d' : Nat}
theorem so_inv (C : am_Cx w m0 (d' + 1) p l e R s m args below meth c) (hq : am_ms[r]? = some q) (hq1 : q.1 = m0.2.1) (i : Instr) (hd : decode m0.2.2.1 pc = .ok (i, 3))
    (hi : (i = .invokevirtual q.2.1 ∧ q.2.2.2.1 = 0) ∨ (i = .invokestatic q.2.1 ∧ (q.2.2.2.1 = 1 ∨ q.2.2.2.1 = 4)) ∨ (i = .invokespecial q.2.1 ∧ (q.2.2.2.1 = 2 ∨ q.2.2.2.1 = 5)))
    (hs : am_call q (pc + 3) L S h = some (.inr (.inr (q.2.2.1, as, k')))) (hm : am_tab[q.2.2.1]? = some m')
    (hM : Met l m'.1 (am_cw m' :: am_G) (am_rm d' (h'.length - h.length) (am_slt h' - am_slt h)) (va_Pc (as.map (am_v (ae_s w))) (am_B w h)) (am_Q w rv h') (h'.length - h.length) (am_slt h' - am_slt h) (ae_A w))
    (hmo : am_Mo (ae_al w) h h') (hn1 : h'.length ≤ ae_n1 w) (hz1 : am_slt h' ≤ ae_z1 w)
    (g : am_Gl w p l e R s m args below meth c Q (k'.1, k'.2.1, rv.toList ++ k'.2.2.1, h')) : am_Gl w p l e R s m args below meth c Q (pc, L, S, h) := by
  have hmem := List.mem_of_getElem? hq
  have hmt := List.mem_of_getElem? hm
  obtain ⟨hmx, hpl, hcls⟩ := am_okm_of hmt
  have hyy := am_y_of hm
  have hmk := List.all_eq_true.mp am_ms_ok q hmem
  intro ls H locs cells slots hp hl
  have CC := C
  obtain ⟨hx, hb, hr, hml, hown, hts, hK, hSE, hlk, hnm, hA1, ⟨hR0, hR3, hR1, hR2⟩, hm0⟩ := C
  have hp0 : h.length ≤ ae_n1 w ∧ am_slt h ≤ ae_z1 w ∧ cells + ae_n0 w = h.length ∧ slots + ae_z0 w = am_slt h := hp.1
  have hb1 := hmo.1
  have hb2 := hmo.2.1
  have hRR : (am_rm d' (h'.length - h.length) (am_slt h' - am_slt h)).frames + 1 ≤ R.frames ∧ 8 + (m'.2.2.2.1 + 11) + (am_rm d' (h'.length - h.length) (am_slt h' - am_slt h)).locals ≤ R.locals := by
    simp only [am_rm]; omega
  have hRf : cells + (h'.length - h.length) ≤ R.cells ∧ slots + (am_slt h' - am_slt h) ≤ R.slots := by omega
  have hSs := hp.2.2.1
  have hfix : CallFix p m c m0.2.2.1 c.maxLocals s args am_G (am_nm m0.2.1) := ⟨hx, hb, rfl, hown, hts⟩
  have hGc := am_G_cons hmt
  unfold am_call at hs
  · rcases hi with ⟨rfl, hk⟩ | ⟨rfl, hk | hk⟩ | ⟨rfl, hk | hk⟩
    · simp only [hk, am_msk, Bool.and_eq_true, decide_eq_true_eq, bne_iff_ne, ne_eq, hyy] at hmk
      obtain ⟨⟨⟨-, hmh⟩, hvh⟩, hpar⟩ := hmk
      simp only [hk] at hs
      simp only [show ((0 : Nat) = 1 ∨ (0 : Nat) = 4 ∨ (0 : Nat) = 9 ∨ (0 : Nat) = 10) ↔ False from by decide, if_false] at hs
      split at hs
      case isFalse => cases hs
      rename_i hlen
      split at hs
      · rename_i b As has
        split at hs
        · rename_i ci fs hfs
          split at hs
          · rename_i hci
            obtain ⟨hb5, hci⟩ := hci
            simp only [Option.some.injEq, Sum.inr.injEq, Prod.mk.injEq] at hs
            obtain ⟨-, rfl, rfl⟩ := hs
            rw [hm] at hci
            have hci : m'.2.1 = ci := by simpa using hci
            have hat := am_W_at (f := ae_s w) (tc := ae_tc w) hfs
            obtain ⟨rr, hrr, -⟩ := hp.2.1 b _ hat
            have hci10 : ci < 10 := (List.getElem?_eq_some_iff.mp hrr).1
            have hS := am_take has
            simp only [has] at hM g ⊢
            have hnA : As.length = q.2.2.2.2 := by
              have h1 := congrArg List.length has
              simp at h1; omega
            have w1 := hts _ (am_in_ms hmem (w := .methodLink (am_nm q.1) q.2.1 (am_y q.2.2.1)) (by simp [am_sw, hk]))
            have w2 := hts _ (am_in_ms hmem (w := .instanceMethod (am_y q.2.2.1)) (by simp [am_sw, hk]))
            have w3 := hts _ (am_in_ms hmem (w := .selects (am_y q.2.2.1).cls (am_y q.2.2.1) (am_y q.2.2.1)) (by simp [am_sw, hk]))
            have w4 := hts _ (am_in_ms hmem (w := .initialized (am_y q.2.2.1).cls) (by simp [am_sw, hk]))
            rw [hyy] at w1 w2 w3 w4
            rw [hq1] at w1
            have hcw : CallW R s args (am_nm m0.2.1) m'.1.cls q.2.1 m'.1 m'.2.2.1 m'.2.2.2.1 m'.2.2.2.2.1 (am_cw m' :: am_G) (am_rm d' (h'.length - h.length) (am_slt h' - am_slt h)) (h'.length - h.length) (am_slt h' - am_slt h) q.2.2.2.2 :=
              ⟨callB_of q.2.2.2.2 hts hGc rfl rfl rfl w4 w1 ⟨hmh, hvh, hpar⟩ hRR, w2, w3⟩
            have hrc := va_recv hK hp.2.1 (am_cl_at hci10) hat
            rw [am_nm_cl hci10, ← hci, ← hcls] at hrc
            refine am_wcall (va_runV (As := As.map (am_v (ae_s w))) (rest := (S.drop (q.2.2.2.2 + 1)).map (am_v (ae_s w))) hfix hM hcw ⟨am_blind w h _, hrc, am_pre CC hp _⟩ rfl (by rw [List.length_map]; exact hnA) hl.1 ?_ (lv_room (by rw [am_v_sum]; exact hlen.2)) hd hRf) hSs (am_behind hA1 hmo hn1 hz1 hp hl g)
            show S.map (am_v (ae_s w)) = _
            conv => lhs; rw [hS]
            simp [am_v]
          · cases hs
        · cases hs
      · cases hs
    · simp only [hk, am_msk, Bool.and_eq_true, decide_eq_true_eq, bne_iff_ne, ne_eq, hyy] at hmk
      obtain ⟨⟨⟨-, hmh⟩, hvh⟩, hpar⟩ := hmk
      simp only [hk] at hs
      simp at hs
      obtain ⟨hlen, has, rfl⟩ := hs
      have hS := am_take has
      have hnA : as.length = q.2.2.2.2 := by
        have h1 := congrArg List.length has
        simp at h1; omega
      have w1 := hts _ (am_in_ms hmem (w := .methodLink (am_nm q.1) q.2.1 (am_y q.2.2.1)) (by simp [am_sw, hk]))
      have w2 := hts _ (am_in_ms hmem (w := .static (am_y q.2.2.1)) (by simp [am_sw, hk]))
      have w4 := hts _ (am_in_ms hmem (w := .initialized (am_y q.2.2.1).cls) (by simp [am_sw, hk]))
      rw [hyy] at w1 w2 w4
      rw [hq1] at w1
      have hcw : CallB R s args (am_nm m0.2.1) q.2.1 m'.1 m'.2.2.1 m'.2.2.2.1 m'.2.2.2.2.1 (am_cw m' :: am_G) (am_rm d' (h'.length - h.length) (am_slt h' - am_slt h)) (h'.length - h.length) (am_slt h' - am_slt h) q.2.2.2.2 ∧ (Cond.static m'.1).before args s = true :=
        ⟨callB_of q.2.2.2.2 hts hGc rfl rfl rfl w4 w1 ⟨hmh, hvh, hpar⟩ hRR, w2⟩
      refine am_wcall (va_runS (As := as.map (am_v (ae_s w))) (rest := (S.drop q.2.2.2.2).map (am_v (ae_s w))) hfix hM hcw ⟨am_blind w h _, am_pre CC hp _⟩ rfl (by rw [List.length_map]; exact hnA) hl.1 ?_ (lv_room (by rw [am_v_sum]; exact hlen.2)) hd hRf) hSs (am_behind hA1 hmo hn1 hz1 hp hl g)
      show S.map (am_v (ae_s w)) = _
      conv => lhs; rw [hS]
      simp
    · simp only [hk, am_msk, Bool.and_eq_true, decide_eq_true_eq, bne_iff_ne, ne_eq, hyy] at hmk
      obtain ⟨⟨⟨-, hmh⟩, hvh⟩, hpar⟩ := hmk
      simp only [hk] at hs
      simp at hs
      obtain ⟨hlen, has, rfl⟩ := hs
      have hS := am_take has
      have hnA : as.length = q.2.2.2.2 := by
        have h1 := congrArg List.length has
        simp at h1; omega
      have w1 := hSE.1 q hmem (Or.inl hk)
      have w2 := hts _ (am_in_ms hmem (w := .static (am_y q.2.2.1)) (by simp [am_sw, hk]))
      have w4 := hts _ (am_in_ms hmem (w := .initialized (am_y q.2.2.1).cls) (by simp [am_sw, hk]))
      rw [hyy] at w1 w2 w4
      rw [hq1] at w1
      refine am_wcall (va_runSN (As := as.map (am_v (ae_s w))) (rest := (S.drop q.2.2.2.2).map (am_v (ae_s w))) hfix hM ⟨va_cnB q.2.2.2.2 hts hGc rfl rfl rfl w1 w4 ⟨hmh, hvh, hpar⟩ hRR, w2, trivial⟩ ⟨am_blind w h _, am_pre CC hp _⟩ rfl (by rw [List.length_map]; exact hnA) hl.1 ?_ (lv_room (by rw [am_v_sum]; exact hlen.2)) hd hRf) hSs (am_behind hA1 hmo hn1 hz1 hp hl g)
      show S.map (am_v (ae_s w)) = _
      conv => lhs; rw [hS]
      simp
    · simp only [hk, am_msk, Bool.and_eq_true, decide_eq_true_eq, bne_iff_ne, ne_eq, hyy, hm, Option.map_some, beq_iff_eq, Option.some.injEq] at hmk
      obtain ⟨⟨⟨⟨⟨-, hmh⟩, hvh⟩, hpar⟩, hnam⟩, hret⟩ := hmk
      simp only [hk] at hs
      simp only [show ((2 : Nat) = 1 ∨ (2 : Nat) = 4 ∨ (2 : Nat) = 9 ∨ (2 : Nat) = 10) ↔ False from by decide, if_false] at hs
      split at hs
      case isFalse => cases hs
      rename_i hlen
      split at hs
      · rename_i b As has
        simp only [Option.some.injEq, Sum.inr.injEq, Prod.mk.injEq, true_and] at hs
        obtain ⟨rfl, rfl⟩ := hs
        have hS := am_take has
        simp only [has] at hM g ⊢
        have hnA : As.length = q.2.2.2.2 := by
          have h1 := congrArg List.length has
          simp at h1; omega
        have w1 := hts _ (am_in_ms hmem (w := .methodLink (am_nm q.1) q.2.1 (am_y q.2.2.1)) (by simp [am_sw, hk]))
        have w2 := hts _ (am_in_ms hmem (w := .instanceMethod (am_y q.2.2.1)) (by simp [am_sw, hk]))
        have w4 := hts _ (am_in_ms hmem (w := .initialized (am_y q.2.2.1).cls) (by simp [am_sw, hk]))
        rw [hyy] at w1 w2 w4
        rw [hq1] at w1
        have hcwm : am_cw m' = .code m'.1 m'.2.2.1 m'.2.2.2.1 none := by simp [am_cw, hret]
        have hcw : CallB R s args (am_nm m0.2.1) q.2.1 m'.1 m'.2.2.1 m'.2.2.2.1 none (am_cw m' :: am_G) (am_rm d' (h'.length - h.length) (am_slt h' - am_slt h)) (h'.length - h.length) (am_slt h' - am_slt h) q.2.2.2.2 ∧ m'.1.name = "<init>" ∧ (Cond.instanceMethod m'.1).before args s = true :=
          ⟨callB_of q.2.2.2.2 hts hGc (by rw [hcwm]) rfl rfl w4 w1 ⟨hmh, hvh, hpar⟩ hRR, hnam, w2⟩
        refine am_wcall (va_runI (As := As.map (am_v (ae_s w))) (rest := (S.drop (q.2.2.2.2 + 1)).map (am_v (ae_s w))) hfix hM hcw ⟨am_blind w h _, am_pre CC hp _⟩ rfl (by rw [List.length_map]; exact hnA) hl.1 ?_ (lv_room (by rw [am_v_sum]; exact hlen.2)) hd hRf) hSs (am_behind hA1 hmo hn1 hz1 hp hl g)
        show S.map (am_v (ae_s w)) = _
        conv => lhs; rw [hS]
        simp [am_v]
      · cases hs
    · simp only [hk, am_msk, Bool.and_eq_true, decide_eq_true_eq, bne_iff_ne, ne_eq, hyy, hm, Option.map_some, beq_iff_eq, Option.some.injEq] at hmk
      obtain ⟨⟨⟨⟨⟨-, hmh⟩, hvh⟩, hpar⟩, hnam⟩, hret⟩ := hmk
      simp only [hk] at hs
      simp only [show ((5 : Nat) = 1 ∨ (5 : Nat) = 4 ∨ (5 : Nat) = 9 ∨ (5 : Nat) = 10) ↔ False from by decide, if_false] at hs
      split at hs
      case isFalse => cases hs
      rename_i hlen
      split at hs
      · rename_i b As has
        simp only [Option.some.injEq, Sum.inr.injEq, Prod.mk.injEq, true_and] at hs
        obtain ⟨rfl, rfl⟩ := hs
        have hS := am_take has
        simp only [has] at hM g ⊢
        have hnA : As.length = q.2.2.2.2 := by
          have h1 := congrArg List.length has
          simp at h1; omega
        have w1 := hSE.1 q hmem (Or.inr hk)
        have w2 := hts _ (am_in_ms hmem (w := .instanceMethod (am_y q.2.2.1)) (by simp [am_sw, hk]))
        have w4 := hts _ (am_in_ms hmem (w := .initialized (am_y q.2.2.1).cls) (by simp [am_sw, hk]))
        rw [hyy] at w1 w2 w4
        rw [hq1] at w1
        have hcwm : am_cw m' = .code m'.1 m'.2.2.1 m'.2.2.2.1 none := by simp [am_cw, hret]
        refine am_wcall (va_runIN (As := As.map (am_v (ae_s w))) (rest := (S.drop (q.2.2.2.2 + 1)).map (am_v (ae_s w))) hfix hM ⟨va_cnB q.2.2.2.2 hts hGc (by rw [hcwm]) rfl rfl w1 w4 ⟨hmh, hvh, hpar⟩ hRR, hnam, w2⟩ ⟨am_blind w h _, am_pre CC hp _⟩ rfl (by rw [List.length_map]; exact hnA) hl.1 ?_ (lv_room (by rw [am_v_sum]; exact hlen.2)) hd hRf) hSs (am_behind hA1 hmo hn1 hz1 hp hl g)
        show S.map (am_v (ae_s w)) = _
        conv => lhs; rw [hS]
        simp [am_v]
      · cases hs
end AMI
end AMS
end
section
/-! the class's text: String.length and charAt on it -/
theorem dJ0_length_8abf5_0 : decode cJ0_length_8abf5 0 = .ok (.aload_n 0, 1) := by decide +kernel
theorem dJ0_length_8abf5_1 : decode cJ0_length_8abf5 1 = .ok (.getfield 9, 3) := by decide +kernel
theorem dJ0_length_8abf5_4 : decode cJ0_length_8abf5 4 = .ok (.arraylength, 1) := by decide +kernel
theorem dJ0_length_8abf5_5 : decode cJ0_length_8abf5 5 = .ok (.aload_n 0, 1) := by decide +kernel
theorem dJ0_length_8abf5_6 : decode cJ0_length_8abf5 6 = .ok (.invokevirtual 335, 3) := by decide +kernel
theorem dJ0_length_8abf5_9 : decode cJ0_length_8abf5 9 = .ok (.ishr, 1) := by decide +kernel
theorem dJ0_length_8abf5_10 : decode cJ0_length_8abf5 10 = .ok (.ireturn, 1) := by decide +kernel
theorem dJ0_charAt_5068e_0 : decode cJ0_charAt_5068e 0 = .ok (.aload_n 0, 1) := by decide +kernel
theorem dJ0_charAt_5068e_1 : decode cJ0_charAt_5068e 1 = .ok (.invokevirtual 492, 3) := by decide +kernel
theorem dJ0_charAt_5068e_4 : decode cJ0_charAt_5068e 4 = .ok (.ifCond .eq 12, 3) := by decide +kernel
theorem dJ0_charAt_5068e_7 : decode cJ0_charAt_5068e 7 = .ok (.aload_n 0, 1) := by decide +kernel
theorem dJ0_charAt_5068e_8 : decode cJ0_charAt_5068e 8 = .ok (.getfield 9, 3) := by decide +kernel
theorem dJ0_charAt_5068e_11 : decode cJ0_charAt_5068e 11 = .ok (.iload_n 1, 1) := by decide +kernel
theorem dJ0_charAt_5068e_12 : decode cJ0_charAt_5068e 12 = .ok (.invokestatic 495, 3) := by decide +kernel
theorem dJ0_charAt_5068e_15 : decode cJ0_charAt_5068e 15 = .ok (.ireturn, 1) := by decide +kernel
theorem dJ0_charAt_5068e_16 : decode cJ0_charAt_5068e 16 = .ok (.aload_n 0, 1) := by decide +kernel
theorem dJ0_charAt_5068e_17 : decode cJ0_charAt_5068e 17 = .ok (.getfield 9, 3) := by decide +kernel
theorem dJ0_charAt_5068e_20 : decode cJ0_charAt_5068e 20 = .ok (.iload_n 1, 1) := by decide +kernel
theorem dJ0_charAt_5068e_21 : decode cJ0_charAt_5068e 21 = .ok (.invokestatic 498, 3) := by decide +kernel
theorem dJ0_charAt_5068e_24 : decode cJ0_charAt_5068e 24 = .ok (.ireturn, 1) := by decide +kernel
theorem dJ0_coder_7d493_0 : decode cJ0_coder_7d493 0 = .ok (.getstatic 38, 3) := by decide +kernel
theorem dJ0_coder_7d493_3 : decode cJ0_coder_7d493 3 = .ok (.ifCond .eq 10, 3) := by decide +kernel
theorem dJ0_coder_7d493_6 : decode cJ0_coder_7d493 6 = .ok (.aload_n 0, 1) := by decide +kernel
theorem dJ0_coder_7d493_7 : decode cJ0_coder_7d493 7 = .ok (.getfield 15, 3) := by decide +kernel
theorem dJ0_coder_7d493_10 : decode cJ0_coder_7d493 10 = .ok (.goto 4, 3) := by decide +kernel
theorem dJ0_coder_7d493_13 : decode cJ0_coder_7d493 13 = .ok (.iconst 1, 1) := by decide +kernel
theorem dJ0_coder_7d493_14 : decode cJ0_coder_7d493 14 = .ok (.ireturn, 1) := by decide +kernel
theorem dJ0_isLatin1_aae02_0 : decode cJ0_isLatin1_aae02 0 = .ok (.getstatic 38, 3) := by decide +kernel
theorem dJ0_isLatin1_aae02_3 : decode cJ0_isLatin1_aae02 3 = .ok (.ifCond .eq 14, 3) := by decide +kernel
theorem dJ0_isLatin1_aae02_6 : decode cJ0_isLatin1_aae02 6 = .ok (.aload_n 0, 1) := by decide +kernel
theorem dJ0_isLatin1_aae02_7 : decode cJ0_isLatin1_aae02 7 = .ok (.getfield 15, 3) := by decide +kernel
theorem dJ0_isLatin1_aae02_10 : decode cJ0_isLatin1_aae02 10 = .ok (.ifCond .ne 7, 3) := by decide +kernel
theorem dJ0_isLatin1_aae02_13 : decode cJ0_isLatin1_aae02 13 = .ok (.iconst 1, 1) := by decide +kernel
theorem dJ0_isLatin1_aae02_14 : decode cJ0_isLatin1_aae02 14 = .ok (.goto 4, 3) := by decide +kernel
theorem dJ0_isLatin1_aae02_17 : decode cJ0_isLatin1_aae02 17 = .ok (.iconst 0, 1) := by decide +kernel
theorem dJ0_isLatin1_aae02_18 : decode cJ0_isLatin1_aae02 18 = .ok (.ireturn, 1) := by decide +kernel
theorem dJ0_checkIndex_df160_0 : decode cJ0_checkIndex_df160 0 = .ok (.iload_n 0, 1) := by decide +kernel
theorem dJ0_checkIndex_df160_1 : decode cJ0_checkIndex_df160 1 = .ok (.iload_n 1, 1) := by decide +kernel
theorem dJ0_checkIndex_df160_2 : decode cJ0_checkIndex_df160 2 = .ok (.getstatic 1053, 3) := by decide +kernel
theorem dJ0_checkIndex_df160_5 : decode cJ0_checkIndex_df160 5 = .ok (.invokestatic 1059, 3) := by decide +kernel
theorem dJ0_checkIndex_df160_8 : decode cJ0_checkIndex_df160 8 = .ok (.pop, 1) := by decide +kernel
theorem dJ0_checkIndex_df160_9 : decode cJ0_checkIndex_df160 9 = .ok (.return_, 1) := by decide +kernel
theorem dJ1_charAt_3b067_0 : decode cJ1_charAt_3b067 0 = .ok (.iload_n 1, 1) := by decide +kernel
theorem dJ1_charAt_3b067_1 : decode cJ1_charAt_3b067 1 = .ok (.aload_n 0, 1) := by decide +kernel
theorem dJ1_charAt_3b067_2 : decode cJ1_charAt_3b067 2 = .ok (.arraylength, 1) := by decide +kernel
theorem dJ1_charAt_3b067_3 : decode cJ1_charAt_3b067 3 = .ok (.invokestatic 9, 3) := by decide +kernel
theorem dJ1_charAt_3b067_6 : decode cJ1_charAt_3b067 6 = .ok (.aload_n 0, 1) := by decide +kernel
theorem dJ1_charAt_3b067_7 : decode cJ1_charAt_3b067 7 = .ok (.iload_n 1, 1) := by decide +kernel
theorem dJ1_charAt_3b067_8 : decode cJ1_charAt_3b067 8 = .ok (.baload, 1) := by decide +kernel
theorem dJ1_charAt_3b067_9 : decode cJ1_charAt_3b067 9 = .ok (.sipush 255, 3) := by decide +kernel
theorem dJ1_charAt_3b067_12 : decode cJ1_charAt_3b067 12 = .ok (.iand, 1) := by decide +kernel
theorem dJ1_charAt_3b067_13 : decode cJ1_charAt_3b067 13 = .ok (.i2c, 1) := by decide +kernel
theorem dJ1_charAt_3b067_14 : decode cJ1_charAt_3b067 14 = .ok (.ireturn, 1) := by decide +kernel
theorem dJ3_checkIndex_8e157_0 : decode cJ3_checkIndex_8e157 0 = .ok (.iload_n 0, 1) := by decide +kernel
theorem dJ3_checkIndex_8e157_1 : decode cJ3_checkIndex_8e157 1 = .ok (.ifCond .lt 8, 3) := by decide +kernel
theorem dJ3_checkIndex_8e157_4 : decode cJ3_checkIndex_8e157 4 = .ok (.iload_n 0, 1) := by decide +kernel
theorem dJ3_checkIndex_8e157_5 : decode cJ3_checkIndex_8e157 5 = .ok (.iload_n 1, 1) := by decide +kernel
theorem dJ3_checkIndex_8e157_6 : decode cJ3_checkIndex_8e157 6 = .ok (.if_icmp .lt 10, 3) := by decide +kernel
theorem dJ3_checkIndex_8e157_9 : decode cJ3_checkIndex_8e157 9 = .ok (.aload_n 2, 1) := by decide +kernel
theorem dJ3_checkIndex_8e157_10 : decode cJ3_checkIndex_8e157 10 = .ok (.iload_n 0, 1) := by decide +kernel
theorem dJ3_checkIndex_8e157_11 : decode cJ3_checkIndex_8e157 11 = .ok (.iload_n 1, 1) := by decide +kernel
theorem dJ3_checkIndex_8e157_12 : decode cJ3_checkIndex_8e157 12 = .ok (.invokestatic 95, 3) := by decide +kernel
theorem dJ3_checkIndex_8e157_15 : decode cJ3_checkIndex_8e157 15 = .ok (.athrow, 1) := by decide +kernel
theorem dJ3_checkIndex_8e157_16 : decode cJ3_checkIndex_8e157 16 = .ok (.iload_n 0, 1) := by decide +kernel
theorem dJ3_checkIndex_8e157_17 : decode cJ3_checkIndex_8e157 17 = .ok (.ireturn, 1) := by decide +kernel
def am_rs (k : Nat) : Room := { frames := k, cells := 0, slots := 0, locals := 50 * k }
def am_PS (A : Nat → Prop) (ts : Nat → Nat) (vs : List Value) : Array Value → State → Prop := va_Pc vs (fun U => am_SE A ts U U.heap)
theorem am_PS_b (A : Nat → Prop) (ts : Nat → Nat) (vs : List Value) : FrameBlind (am_PS A ts vs) := fun a U g mk q => ⟨q.1, am_SE.same (U := U.calling g mk a) q.2 rfl⟩
theorem am_PS_p {A : Nat → Prop} {ts : Nat → Nat} {s : State} (h : am_SE A ts s s.heap) (vs : List Value) : ∀ U : State, U.heap = s.heap → s.WarmedH U.vm → am_PS A ts vs vs.toArray U := fun U hU hW => ⟨rfl, by show am_SE A ts U U.heap; rw [hU]; exact h.go hW (fun _ _ _ => rfl)⟩
def am_QV : Array Value → State → Outcome → State → Prop := fun _ st o t => o = .returned none ∧ t.heap = st.heap
theorem am_xw_self : GoodIn am_xw am_xw := fun w h => ⟨h, (am_xw_g w h).2⟩
theorem am_xw_cons {w : Cond} (hw : w ∈ am_xw) : GoodIn am_xw (w :: am_xw) := fun v hv => (List.mem_cons.mp hv).elim (fun e => by rw [e]; exact am_xw_self _ hw) (am_xw_self v)

theorem xw_0 : (.arrayClass .int : Cond) ∈ am_xw := List.mem_of_getElem? (i := 0) rfl
theorem xw_1 : (.arrayClass .char : Cond) ∈ am_xw := List.mem_of_getElem? (i := 1) rfl
theorem xw_2 : (.arrayClass .byte : Cond) ∈ am_xw := List.mem_of_getElem? (i := 2) rfl
theorem xw_3 : (.fieldLink RX8 286 RX8 "POINTING" "[I" : Cond) ∈ am_xw := List.mem_of_getElem? (i := 3) rfl
theorem xw_4 : (.initialized RX8 : Cond) ∈ am_xw := List.mem_of_getElem? (i := 4) rfl
theorem xw_5 : (.initialized RJ0 : Cond) ∈ am_xw := List.mem_of_getElem? (i := 5) rfl
theorem xw_6 : (.initialized RJ1 : Cond) ∈ am_xw := List.mem_of_getElem? (i := 6) rfl
theorem xw_7 : (.initialized RJ3 : Cond) ∈ am_xw := List.mem_of_getElem? (i := 7) rfl
theorem xw_8 : (.methodLink RX8 72 yJ0_length_8abf5 : Cond) ∈ am_xw := List.mem_of_getElem? (i := 8) rfl
theorem xw_9 : (.instanceMethod yJ0_length_8abf5 : Cond) ∈ am_xw := List.mem_of_getElem? (i := 9) rfl
theorem xw_10 : (.selects RJ0 yJ0_length_8abf5 yJ0_length_8abf5 : Cond) ∈ am_xw := List.mem_of_getElem? (i := 10) rfl
theorem xw_11 : (.code yJ0_length_8abf5 cJ0_length_8abf5 1 (some .int) : Cond) ∈ am_xw := List.mem_of_getElem? (i := 11) rfl
theorem xw_12 : (.methodLink RX8 78 yJ0_charAt_5068e : Cond) ∈ am_xw := List.mem_of_getElem? (i := 12) rfl
theorem xw_13 : (.instanceMethod yJ0_charAt_5068e : Cond) ∈ am_xw := List.mem_of_getElem? (i := 13) rfl
theorem xw_14 : (.selects RJ0 yJ0_charAt_5068e yJ0_charAt_5068e : Cond) ∈ am_xw := List.mem_of_getElem? (i := 14) rfl
theorem xw_15 : (.code yJ0_charAt_5068e cJ0_charAt_5068e 2 (some .char) : Cond) ∈ am_xw := List.mem_of_getElem? (i := 15) rfl
theorem xw_16 : (.methodLink RJ0 335 yJ0_coder_7d493 : Cond) ∈ am_xw := List.mem_of_getElem? (i := 16) rfl
theorem xw_17 : (.instanceMethod yJ0_coder_7d493 : Cond) ∈ am_xw := List.mem_of_getElem? (i := 17) rfl
theorem xw_18 : (.selects RJ0 yJ0_coder_7d493 yJ0_coder_7d493 : Cond) ∈ am_xw := List.mem_of_getElem? (i := 18) rfl
theorem xw_19 : (.code yJ0_coder_7d493 cJ0_coder_7d493 1 (some .byte) : Cond) ∈ am_xw := List.mem_of_getElem? (i := 19) rfl
theorem xw_20 : (.methodLink RJ0 492 yJ0_isLatin1_aae02 : Cond) ∈ am_xw := List.mem_of_getElem? (i := 20) rfl
theorem xw_21 : (.instanceMethod yJ0_isLatin1_aae02 : Cond) ∈ am_xw := List.mem_of_getElem? (i := 21) rfl
theorem xw_22 : (.selects RJ0 yJ0_isLatin1_aae02 yJ0_isLatin1_aae02 : Cond) ∈ am_xw := List.mem_of_getElem? (i := 22) rfl
theorem xw_23 : (.code yJ0_isLatin1_aae02 cJ0_isLatin1_aae02 1 (some .boolean) : Cond) ∈ am_xw := List.mem_of_getElem? (i := 23) rfl
theorem xw_24 : (.methodLink RJ0 495 yJ1_charAt_3b067 : Cond) ∈ am_xw := List.mem_of_getElem? (i := 24) rfl
theorem xw_25 : (.static yJ1_charAt_3b067 : Cond) ∈ am_xw := List.mem_of_getElem? (i := 25) rfl
theorem xw_26 : (.code yJ1_charAt_3b067 cJ1_charAt_3b067 2 (some .char) : Cond) ∈ am_xw := List.mem_of_getElem? (i := 26) rfl
theorem xw_27 : (.methodLink RJ1 9 yJ0_checkIndex_df160 : Cond) ∈ am_xw := List.mem_of_getElem? (i := 27) rfl
theorem xw_28 : (.static yJ0_checkIndex_df160 : Cond) ∈ am_xw := List.mem_of_getElem? (i := 28) rfl
theorem xw_29 : (.code yJ0_checkIndex_df160 cJ0_checkIndex_df160 2 none : Cond) ∈ am_xw := List.mem_of_getElem? (i := 29) rfl
theorem xw_30 : (.methodLink RJ0 1059 yJ3_checkIndex_8e157 : Cond) ∈ am_xw := List.mem_of_getElem? (i := 30) rfl
theorem xw_31 : (.static yJ3_checkIndex_8e157 : Cond) ∈ am_xw := List.mem_of_getElem? (i := 31) rfl
theorem xw_32 : (.code yJ3_checkIndex_8e157 cJ3_checkIndex_8e157 3 (some .int) : Cond) ∈ am_xw := List.mem_of_getElem? (i := 32) rfl
theorem xw_33 : (.fieldLink RJ0 9 "java/lang/String" "value" "[B" : Cond) ∈ am_xw := List.mem_of_getElem? (i := 33) rfl
theorem xw_34 : (.fieldLink RJ0 38 "java/lang/String" "COMPACT_STRINGS" "Z" : Cond) ∈ am_xw := List.mem_of_getElem? (i := 34) rfl
theorem xw_35 : (.fieldLink RJ0 15 "java/lang/String" "coder" "B" : Cond) ∈ am_xw := List.mem_of_getElem? (i := 35) rfl
theorem xw_36 : (.fieldLink RJ0 1053 "jdk/internal/util/Preconditions" "SIOOBE_FORMATTER" "Ljava/util/function/BiFunction;" : Cond) ∈ am_xw := List.mem_of_getElem? (i := 36) rfl
set_option maxRecDepth 100000 in
set_option maxHeartbeats 4000000 in
theorem am_coder (l : Launch) (A : Nat → Prop) (ts : Nat → Nat) : Met l yJ0_coder_7d493 (.code yJ0_coder_7d493 cJ0_coder_7d493 1 (some .byte) :: am_xw) (am_rs 1) (am_PS A ts ([.ref (ts 3)])) (vp_Si (fun r => r = 0)) 0 0 (fun _ => False) := by
  refine Met.ofW (cc := cJ0_coder_7d493) (maxL := 1) (ret := (some .byte)) (by decide) rfl ?_
  intro p e s m args below meth c s₁ B hml hv
  obtain ⟨rfl, hSE⟩ := hv
  have hx := B.exec
  have hb := B.bytes
  have hr := B.returns
  have hts0 := atoms_spec (ws := .code yJ0_coder_7d493 cJ0_coder_7d493 1 (some .byte) :: am_xw) B.pre
  have hts : ∀ w ∈ am_xw, w.before _ s = true := fun w h => hts0 w (List.mem_cons_of_mem _ h)
  have hown : s.vm.findClass RJ0 = some m.cls := findClass_of_methodNamed B.named
  have hlocks := B.notSynchronized
  have hS : va_S A s.heap s.heap [] := va_S.rf
  have hl := lv_entry ([.ref (ts 3)]) (n := 1) (Nat.le_of_ble_eq_true rfl)
  rw [lg_entry_eq]
  generalize (lg_sl ([.ref (ts 3)]) ++ List.replicate (1 - (lg_sl ([.ref (ts 3)])).length) Slot.unset).toArray = ls at hl ⊢
  have hl : lv_has ls 1 ([(0, .ref (ts 3))]) := hl
  have hStr := hSE.2.2.2.2.2.1.1 0 (by decide)
  refine va_gets hx hb hSE.2.2.2.2.2.2.1 hS hown (hts _ xw_34) (fun x h => h) dJ0_coder_7d493_0 ?_
  refine lv_if_eq (tgt := 13) hx hb dJ0_coder_7d493_3 (by decide) (fun h => absurd h (by decide)) (fun _ => ?_)
  refine lv_aload_n hx hb dJ0_coder_7d493_6 rfl (lv_at hl 0 rfl) ?_
  refine vk_getf hx hb hStr.2.1 hS hown (hts _ xw_35) (fun x h => h) dJ0_coder_7d493_7 ?_
  refine lv_goto (tgt := 14) hx hb dJ0_coder_7d493_10 (by decide) ?_
  exact W.zret (ty := .byte) hx hb hr rfl (fun t ht _ => ⟨0, rfl, rfl, ht⟩) (fun _ h => by cases h) dJ0_coder_7d493_14
set_option maxRecDepth 100000 in
set_option maxHeartbeats 4000000 in
theorem am_length (l : Launch) (A : Nat → Prop) (ts : Nat → Nat) : Met l yJ0_length_8abf5 (.code yJ0_length_8abf5 cJ0_length_8abf5 1 (some .int) :: am_xw) (am_rs 2) (am_PS A ts ([.ref (ts 3)])) (vp_Si (fun r => r = 35)) 0 0 (fun _ => False) := by
  refine Met.ofW (cc := cJ0_length_8abf5) (maxL := 1) (ret := (some .int)) (by decide) rfl ?_
  intro p e s m args below meth c s₁ B hml hv
  obtain ⟨rfl, hSE⟩ := hv
  have hx := B.exec
  have hb := B.bytes
  have hr := B.returns
  have hts0 := atoms_spec (ws := .code yJ0_length_8abf5 cJ0_length_8abf5 1 (some .int) :: am_xw) B.pre
  have hts : ∀ w ∈ am_xw, w.before _ s = true := fun w h => hts0 w (List.mem_cons_of_mem _ h)
  have hown : s.vm.findClass RJ0 = some m.cls := findClass_of_methodNamed B.named
  have hlocks := B.notSynchronized
  have hS : va_S A s.heap s.heap [] := va_S.rf
  have hl := lv_entry ([.ref (ts 3)]) (n := 1) (Nat.le_of_ble_eq_true rfl)
  rw [lg_entry_eq]
  generalize (lg_sl ([.ref (ts 3)]) ++ List.replicate (1 - (lg_sl ([.ref (ts 3)])).length) Slot.unset).toArray = ls at hl ⊢
  have hl : lv_has ls 1 ([(0, .ref (ts 3))]) := hl
  have hStr := hSE.2.2.2.2.2.1.1 0 (by decide)
  refine lv_aload_n hx hb dJ0_length_8abf5_0 rfl (lv_at hl 0 rfl) ?_
  refine vk_getf hx hb hStr.2.2.1 hS hown (hts _ xw_33) (fun x h => h) dJ0_length_8abf5_1 ?_
  refine va_tlen hx hb hStr.2.2.2 hS (v := 35) rfl dJ0_length_8abf5_4 ?_
  refine lv_aload_n hx hb dJ0_length_8abf5_5 rfl (lv_at hl 0 rfl) ?_
  refine W.callX ((W.runV (As := []) (rest := [.int 35]) ⟨hx, hb, hml, hown, hts⟩ (am_coder l A ts) ⟨callB_of 0 hts (am_xw_cons xw_19) rfl rfl rfl (hts _ xw_5) (hts _ xw_16) (by decide +kernel) ⟨Nat.le_of_ble_eq_true rfl, Nat.le_of_ble_eq_true rfl⟩, hts _ xw_17, hts _ xw_18⟩ ⟨am_PS_b A ts _, vk_recv hSE.2.2.2.2.2.1 (i := 0) (by decide) hS, am_PS_p hSE _⟩ rfl rfl hl.1 rfl (lv_room (Nat.le_of_ble_eq_true rfl)) dJ0_length_8abf5_6 ⟨Nat.le_refl _, Nat.le_refl _⟩)) (fun _ h => h.elim) (fun v st₀ t hst hq => ?_)
  obtain ⟨r9, hv, rfl, hh⟩ := hq
  cases hv
  rw [hh, hst]
  refine lv_ishr hx hb dJ0_length_8abf5_9 ?_
  exact W.iret hx hb hr (fun t ht _ => ⟨_, rfl, by decide, ht⟩) (fun _ h => by cases h) dJ0_length_8abf5_10
set_option maxRecDepth 100000 in
set_option maxHeartbeats 4000000 in
theorem am_latin (l : Launch) (A : Nat → Prop) (ts : Nat → Nat) : Met l yJ0_isLatin1_aae02 (.code yJ0_isLatin1_aae02 cJ0_isLatin1_aae02 1 (some .boolean) :: am_xw) (am_rs 1) (am_PS A ts ([.ref (ts 3)])) (vp_Si (fun r => r = 1)) 0 0 (fun _ => False) := by
  refine Met.ofW (cc := cJ0_isLatin1_aae02) (maxL := 1) (ret := (some .boolean)) (by decide) rfl ?_
  intro p e s m args below meth c s₁ B hml hv
  obtain ⟨rfl, hSE⟩ := hv
  have hx := B.exec
  have hb := B.bytes
  have hr := B.returns
  have hts0 := atoms_spec (ws := .code yJ0_isLatin1_aae02 cJ0_isLatin1_aae02 1 (some .boolean) :: am_xw) B.pre
  have hts : ∀ w ∈ am_xw, w.before _ s = true := fun w h => hts0 w (List.mem_cons_of_mem _ h)
  have hown : s.vm.findClass RJ0 = some m.cls := findClass_of_methodNamed B.named
  have hlocks := B.notSynchronized
  have hS : va_S A s.heap s.heap [] := va_S.rf
  have hl := lv_entry ([.ref (ts 3)]) (n := 1) (Nat.le_of_ble_eq_true rfl)
  rw [lg_entry_eq]
  generalize (lg_sl ([.ref (ts 3)]) ++ List.replicate (1 - (lg_sl ([.ref (ts 3)])).length) Slot.unset).toArray = ls at hl ⊢
  have hl : lv_has ls 1 ([(0, .ref (ts 3))]) := hl
  have hStr := hSE.2.2.2.2.2.1.1 0 (by decide)
  refine va_gets hx hb hSE.2.2.2.2.2.2.1 hS hown (hts _ xw_34) (fun x h => h) dJ0_isLatin1_aae02_0 ?_
  refine lv_if_eq (tgt := 17) hx hb dJ0_isLatin1_aae02_3 (by decide) (fun h => absurd h (by decide)) (fun _ => ?_)
  refine lv_aload_n hx hb dJ0_isLatin1_aae02_6 rfl (lv_at hl 0 rfl) ?_
  refine vk_getf hx hb hStr.2.1 hS hown (hts _ xw_35) (fun x h => h) dJ0_isLatin1_aae02_7 ?_
  refine lv_if_ne (tgt := 17) hx hb dJ0_isLatin1_aae02_10 (by decide) (fun h => absurd rfl h) (fun _ => ?_)
  refine lv_iconst (v := 1) hx hb dJ0_isLatin1_aae02_13 (by decide) ?_
  refine lv_goto (tgt := 18) hx hb dJ0_isLatin1_aae02_14 (by decide) ?_
  exact W.zret (ty := .boolean) hx hb hr rfl (fun t ht _ => ⟨1, rfl, rfl, ht⟩) (fun _ h => by cases h) dJ0_isLatin1_aae02_18
set_option maxRecDepth 100000 in
set_option maxHeartbeats 4000000 in
theorem am_chk3N (l : Launch) (A : Nat → Prop) (ts : Nat → Nat) (i : Int32) (h0 : ¬ i < 0) (h1 : i < 35) : Met l yJ3_checkIndex_8e157 (.code yJ3_checkIndex_8e157 cJ3_checkIndex_8e157 3 (some .int) :: am_xw) (am_rs 1) (am_PS A ts ([.int i, .int 35, .null])) (vp_Si (fun r => r = i)) 0 0 (fun _ => False) := by
  refine Met.ofW (cc := cJ3_checkIndex_8e157) (maxL := 3) (ret := (some .int)) (by decide) rfl ?_
  intro p e s m args below meth c s₁ B hml hv
  obtain ⟨rfl, hSE⟩ := hv
  have hx := B.exec
  have hb := B.bytes
  have hr := B.returns
  have hts0 := atoms_spec (ws := .code yJ3_checkIndex_8e157 cJ3_checkIndex_8e157 3 (some .int) :: am_xw) B.pre
  have hts : ∀ w ∈ am_xw, w.before _ s = true := fun w h => hts0 w (List.mem_cons_of_mem _ h)
  have hown : s.vm.findClass RJ3 = some m.cls := findClass_of_methodNamed B.named
  have hlocks := B.notSynchronized
  have hS : va_S A s.heap s.heap [] := va_S.rf
  have hl := lv_entry ([.int i, .int 35, .null]) (n := 3) (Nat.le_of_ble_eq_true rfl)
  rw [lg_entry_eq]
  generalize (lg_sl ([.int i, .int 35, .null]) ++ List.replicate (3 - (lg_sl ([.int i, .int 35, .null])).length) Slot.unset).toArray = ls at hl ⊢
  have hl : lv_has ls 3 ([(0, .int i), (1, .int 35), (2, .null)]) := hl
  refine lv_iload_n hx hb dJ3_checkIndex_8e157_0 rfl (lv_at hl 0 rfl) ?_
  refine lv_if_lt (tgt := 9) hx hb dJ3_checkIndex_8e157_1 (by decide) (fun h => absurd h h0) (fun _ => ?_)
  refine lv_iload_n hx hb dJ3_checkIndex_8e157_4 rfl (lv_at hl 0 rfl) ?_
  refine lv_iload_n hx hb dJ3_checkIndex_8e157_5 rfl (lv_at hl 1 rfl) ?_
  refine lv_icmp_lt (tgt := 16) hx hb dJ3_checkIndex_8e157_6 (by decide) (fun _ => ?_) (fun h => absurd h1 h)
  refine lv_iload_n hx hb dJ3_checkIndex_8e157_16 rfl (lv_at hl 0 rfl) ?_
  exact W.iret hx hb hr (fun t ht _ => ⟨i, rfl, rfl, ht⟩) (fun _ h => by cases h) dJ3_checkIndex_8e157_17
set_option maxRecDepth 100000 in
set_option maxHeartbeats 4000000 in
theorem am_chk3R (l : Launch) (A : Nat → Prop) (ts : Nat → Nat) (z : Nat) (i : Int32) (h0 : ¬ i < 0) (h1 : i < 35) : Met l yJ3_checkIndex_8e157 (.code yJ3_checkIndex_8e157 cJ3_checkIndex_8e157 3 (some .int) :: am_xw) (am_rs 1) (am_PS A ts ([.int i, .int 35, .ref z])) (vp_Si (fun r => r = i)) 0 0 (fun _ => False) := by
  refine Met.ofW (cc := cJ3_checkIndex_8e157) (maxL := 3) (ret := (some .int)) (by decide) rfl ?_
  intro p e s m args below meth c s₁ B hml hv
  obtain ⟨rfl, hSE⟩ := hv
  have hx := B.exec
  have hb := B.bytes
  have hr := B.returns
  have hts0 := atoms_spec (ws := .code yJ3_checkIndex_8e157 cJ3_checkIndex_8e157 3 (some .int) :: am_xw) B.pre
  have hts : ∀ w ∈ am_xw, w.before _ s = true := fun w h => hts0 w (List.mem_cons_of_mem _ h)
  have hown : s.vm.findClass RJ3 = some m.cls := findClass_of_methodNamed B.named
  have hlocks := B.notSynchronized
  have hS : va_S A s.heap s.heap [] := va_S.rf
  have hl := lv_entry ([.int i, .int 35, .ref z]) (n := 3) (Nat.le_of_ble_eq_true rfl)
  rw [lg_entry_eq]
  generalize (lg_sl ([.int i, .int 35, .ref z]) ++ List.replicate (3 - (lg_sl ([.int i, .int 35, .ref z])).length) Slot.unset).toArray = ls at hl ⊢
  have hl : lv_has ls 3 ([(0, .int i), (1, .int 35), (2, .ref z)]) := hl
  refine lv_iload_n hx hb dJ3_checkIndex_8e157_0 rfl (lv_at hl 0 rfl) ?_
  refine lv_if_lt (tgt := 9) hx hb dJ3_checkIndex_8e157_1 (by decide) (fun h => absurd h h0) (fun _ => ?_)
  refine lv_iload_n hx hb dJ3_checkIndex_8e157_4 rfl (lv_at hl 0 rfl) ?_
  refine lv_iload_n hx hb dJ3_checkIndex_8e157_5 rfl (lv_at hl 1 rfl) ?_
  refine lv_icmp_lt (tgt := 16) hx hb dJ3_checkIndex_8e157_6 (by decide) (fun _ => ?_) (fun h => absurd h1 h)
  refine lv_iload_n hx hb dJ3_checkIndex_8e157_16 rfl (lv_at hl 0 rfl) ?_
  exact W.iret hx hb hr (fun t ht _ => ⟨i, rfl, rfl, ht⟩) (fun _ h => by cases h) dJ3_checkIndex_8e157_17
set_option maxRecDepth 100000 in
set_option maxHeartbeats 4000000 in
theorem am_chk (l : Launch) (A : Nat → Prop) (ts : Nat → Nat) (i : Int32) (h0 : ¬ i < 0) (h1 : i < 35) : Met l yJ0_checkIndex_df160 (.code yJ0_checkIndex_df160 cJ0_checkIndex_df160 2 none :: am_xw) (am_rs 2) (am_PS A ts ([.int i, .int 35])) (am_QV) 0 0 (fun _ => False) := by
  refine Met.ofW (cc := cJ0_checkIndex_df160) (maxL := 2) (ret := none) (by decide) rfl ?_
  intro p e s m args below meth c s₁ B hml hv
  obtain ⟨rfl, hSE⟩ := hv
  have hx := B.exec
  have hb := B.bytes
  have hr := B.returns
  have hts0 := atoms_spec (ws := .code yJ0_checkIndex_df160 cJ0_checkIndex_df160 2 none :: am_xw) B.pre
  have hts : ∀ w ∈ am_xw, w.before _ s = true := fun w h => hts0 w (List.mem_cons_of_mem _ h)
  have hown : s.vm.findClass RJ0 = some m.cls := findClass_of_methodNamed B.named
  have hlocks := B.notSynchronized
  have hS : va_S A s.heap s.heap [] := va_S.rf
  have hl := lv_entry ([.int i, .int 35]) (n := 2) (Nat.le_of_ble_eq_true rfl)
  rw [lg_entry_eq]
  generalize (lg_sl ([.int i, .int 35]) ++ List.replicate (2 - (lg_sl ([.int i, .int 35])).length) Slot.unset).toArray = ls at hl ⊢
  have hl : lv_has ls 2 ([(0, .int i), (1, .int 35)]) := hl
  refine lv_iload_n hx hb dJ0_checkIndex_df160_0 rfl (lv_at hl 0 rfl) ?_
  refine lv_iload_n hx hb dJ0_checkIndex_df160_1 rfl (lv_at hl 1 rfl) ?_
  rcases hSE.2.2.2.2.2.2.2 with hz | ⟨z, hz⟩
  · refine va_gets hx hb hz hS hown (hts _ xw_36) (fun x h => h) dJ0_checkIndex_df160_2 ?_
    refine W.callX ((W.runS (As := [.int i, .int 35, .null]) (rest := []) ⟨hx, hb, hml, hown, hts⟩ (am_chk3N l A ts i h0 h1) ⟨callB_of 3 hts (am_xw_cons xw_32) rfl rfl rfl (hts _ xw_7) (hts _ xw_30) (by decide +kernel) ⟨Nat.le_of_ble_eq_true rfl, Nat.le_of_ble_eq_true rfl⟩, hts _ xw_31⟩ ⟨am_PS_b A ts _, am_PS_p hSE _⟩ rfl rfl hl.1 rfl (lv_room (Nat.le_of_ble_eq_true rfl)) dJ0_checkIndex_df160_5 ⟨Nat.le_refl _, Nat.le_refl _⟩)) (fun _ h => h.elim) (fun v st₀ t hst hq => ?_)
    obtain ⟨r9, hv, rfl, hh⟩ := hq
    cases hv
    rw [hh, hst]
    refine lv_pop hx hb dJ0_checkIndex_df160_8 rfl ?_
    exact W.vret hx hb hr (fun t ht _ => ⟨rfl, ht⟩) (fun _ h => by cases h) dJ0_checkIndex_df160_9
  · refine va_gets hx hb hz hS hown (hts _ xw_36) (fun x h => h) dJ0_checkIndex_df160_2 ?_
    refine W.callX ((W.runS (As := [.int i, .int 35, .ref z]) (rest := []) ⟨hx, hb, hml, hown, hts⟩ (am_chk3R l A ts z i h0 h1) ⟨callB_of 3 hts (am_xw_cons xw_32) rfl rfl rfl (hts _ xw_7) (hts _ xw_30) (by decide +kernel) ⟨Nat.le_of_ble_eq_true rfl, Nat.le_of_ble_eq_true rfl⟩, hts _ xw_31⟩ ⟨am_PS_b A ts _, am_PS_p hSE _⟩ rfl rfl hl.1 rfl (lv_room (Nat.le_of_ble_eq_true rfl)) dJ0_checkIndex_df160_5 ⟨Nat.le_refl _, Nat.le_refl _⟩)) (fun _ h => h.elim) (fun v st₀ t hst hq => ?_)
    obtain ⟨r9, hv, rfl, hh⟩ := hq
    cases hv
    rw [hh, hst]
    refine lv_pop hx hb dJ0_checkIndex_df160_8 rfl ?_
    exact W.vret hx hb hr (fun t ht _ => ⟨rfl, ht⟩) (fun _ h => by cases h) dJ0_checkIndex_df160_9
theorem am_tx_ok : ∀ k : Fin 35, ((((am_tx.getD k 0) &&& 255).toUInt32 % 65536).toInt32 = am_tx.getD k 0) ∧ narrow .char (.int (am_tx.getD k 0)) = .int (am_tx.getD k 0) := by decide +kernel
theorem am_tx_at {i x : Int32} (hx : am_ix am_tx i = some x) : ¬ i < 0 ∧ i < 35 ∧ vp_in i 35 ∧ am_tx.getD i.toNatClampNeg 0 = x ∧ ((x &&& 255).toUInt32 % 65536).toInt32 = x ∧ narrow .char (.int x) = .int x := by
  obtain ⟨h1, h2⟩ := am_ix_in hx
  have h1 : vp_in i 35 := h1
  have h0 : ¬ i < 0 := fun q => h1 (Or.inl q)
  have hl : i.toNatClampNeg < 35 := Nat.not_le.mp fun q => h1 (Or.inr q)
  obtain ⟨j, hj, rfl⟩ := vp_in_of h1 (by decide)
  have e : am_tx.getD (nI j).toNatClampNeg 0 = x := by simp [List.getD, h2]
  have h3 := am_tx_ok ⟨(nI j).toNatClampNeg, hl⟩
  simp only [e] at h3
  exact ⟨h0, nI_lt hj (by decide), h1, e, h3.1, h3.2⟩
set_option maxRecDepth 100000 in
set_option maxHeartbeats 4000000 in
theorem am_lchar (l : Launch) (A : Nat → Prop) (ts : Nat → Nat) (i x : Int32) (hix : am_ix am_tx i = some x) : Met l yJ1_charAt_3b067 (.code yJ1_charAt_3b067 cJ1_charAt_3b067 2 (some .char) :: am_xw) (am_rs 3) (am_PS A ts ([.ref (ts 4), .int i])) (vp_Si (fun r => r = x)) 0 0 (fun _ => False) := by
  refine Met.ofW (cc := cJ1_charAt_3b067) (maxL := 2) (ret := (some .char)) (by decide) rfl ?_
  intro p e s m args below meth c s₁ B hml hv
  obtain ⟨rfl, hSE⟩ := hv
  have hx := B.exec
  have hb := B.bytes
  have hr := B.returns
  have hts0 := atoms_spec (ws := .code yJ1_charAt_3b067 cJ1_charAt_3b067 2 (some .char) :: am_xw) B.pre
  have hts : ∀ w ∈ am_xw, w.before _ s = true := fun w h => hts0 w (List.mem_cons_of_mem _ h)
  have hown : s.vm.findClass RJ1 = some m.cls := findClass_of_methodNamed B.named
  have hlocks := B.notSynchronized
  have hS : va_S A s.heap s.heap [] := va_S.rf
  have hl := lv_entry ([.ref (ts 4), .int i]) (n := 2) (Nat.le_of_ble_eq_true rfl)
  rw [lg_entry_eq]
  generalize (lg_sl ([.ref (ts 4), .int i]) ++ List.replicate (2 - (lg_sl ([.ref (ts 4), .int i])).length) Slot.unset).toArray = ls at hl ⊢
  have hl : lv_has ls 2 ([(0, .ref (ts 4)), (1, .int i)]) := hl
  obtain ⟨h0, h1, hin, hxx, hc1, hc2⟩ := am_tx_at hix
  have hStr := hSE.2.2.2.2.2.1.1 0 (by decide)
  refine lv_iload_n hx hb dJ1_charAt_3b067_0 rfl (lv_at hl 1 rfl) ?_
  refine lv_aload_n hx hb dJ1_charAt_3b067_1 rfl (lv_at hl 0 rfl) ?_
  refine va_tlen hx hb hStr.2.2.2 hS (v := 35) rfl dJ1_charAt_3b067_2 ?_
  refine W.callX (W.runS (As := [.int i, .int 35]) (rest := []) ⟨hx, hb, hml, hown, hts⟩ (am_chk l A ts i h0 h1) ⟨callB_of 2 hts (am_xw_cons xw_29) rfl rfl rfl (hts _ xw_5) (hts _ xw_27) (by decide +kernel) ⟨Nat.le_of_ble_eq_true rfl, Nat.le_of_ble_eq_true rfl⟩, hts _ xw_28⟩ ⟨am_PS_b A ts _, am_PS_p hSE _⟩ rfl rfl hl.1 rfl (lv_room (Nat.le_of_ble_eq_true rfl)) dJ1_charAt_3b067_3 ⟨Nat.le_refl _, Nat.le_refl _⟩) (fun _ h => h.elim) (fun v st₀ t hst hq => ?_)
  obtain ⟨hv, hh⟩ := hq
  cases hv
  rw [hh, hst]
  refine lv_aload_n hx hb dJ1_charAt_3b067_6 rfl (lv_at hl 0 rfl) ?_
  refine lv_iload_n hx hb dJ1_charAt_3b067_7 rfl (lv_at hl 1 rfl) ?_
  refine va_tb hx hb hStr.2.2.2 hS hin (v := .int x) (by show Value.int (am_tx.getD _ 0) = _; rw [hxx]) dJ1_charAt_3b067_8 ?_
  refine lv_sipush (v := 255) hx hb dJ1_charAt_3b067_9 (by decide) ?_
  refine lv_iand hx hb dJ1_charAt_3b067_12 ?_
  refine lv_i2c (v := x) hx hb dJ1_charAt_3b067_13 hc1 ?_
  exact W.zret (ty := .char) hx hb hr hc2 (fun t ht _ => ⟨x, rfl, rfl, ht⟩) (fun _ h => by cases h) dJ1_charAt_3b067_14
set_option maxRecDepth 100000 in
set_option maxHeartbeats 4000000 in
theorem am_charAt (l : Launch) (A : Nat → Prop) (ts : Nat → Nat) (i x : Int32) (hix : am_ix am_tx i = some x) : Met l yJ0_charAt_5068e (.code yJ0_charAt_5068e cJ0_charAt_5068e 2 (some .char) :: am_xw) (am_rs 4) (am_PS A ts ([.ref (ts 3), .int i])) (vp_Si (fun r => r = x)) 0 0 (fun _ => False) := by
  refine Met.ofW (cc := cJ0_charAt_5068e) (maxL := 2) (ret := (some .char)) (by decide) rfl ?_
  intro p e s m args below meth c s₁ B hml hv
  obtain ⟨rfl, hSE⟩ := hv
  have hx := B.exec
  have hb := B.bytes
  have hr := B.returns
  have hts0 := atoms_spec (ws := .code yJ0_charAt_5068e cJ0_charAt_5068e 2 (some .char) :: am_xw) B.pre
  have hts : ∀ w ∈ am_xw, w.before _ s = true := fun w h => hts0 w (List.mem_cons_of_mem _ h)
  have hown : s.vm.findClass RJ0 = some m.cls := findClass_of_methodNamed B.named
  have hlocks := B.notSynchronized
  have hS : va_S A s.heap s.heap [] := va_S.rf
  have hl := lv_entry ([.ref (ts 3), .int i]) (n := 2) (Nat.le_of_ble_eq_true rfl)
  rw [lg_entry_eq]
  generalize (lg_sl ([.ref (ts 3), .int i]) ++ List.replicate (2 - (lg_sl ([.ref (ts 3), .int i])).length) Slot.unset).toArray = ls at hl ⊢
  have hl : lv_has ls 2 ([(0, .ref (ts 3)), (1, .int i)]) := hl
  obtain ⟨h0, h1, hin, hxx, hc1, hc2⟩ := am_tx_at hix
  have hStr := hSE.2.2.2.2.2.1.1 0 (by decide)
  refine lv_aload_n hx hb dJ0_charAt_5068e_0 rfl (lv_at hl 0 rfl) ?_
  refine W.callX ((W.runV (As := []) (rest := []) ⟨hx, hb, hml, hown, hts⟩ (am_latin l A ts) ⟨callB_of 0 hts (am_xw_cons xw_23) rfl rfl rfl (hts _ xw_5) (hts _ xw_20) (by decide +kernel) ⟨Nat.le_of_ble_eq_true rfl, Nat.le_of_ble_eq_true rfl⟩, hts _ xw_21, hts _ xw_22⟩ ⟨am_PS_b A ts _, vk_recv hSE.2.2.2.2.2.1 (i := 0) (by decide) hS, am_PS_p hSE _⟩ rfl rfl hl.1 rfl (lv_room (Nat.le_of_ble_eq_true rfl)) dJ0_charAt_5068e_1 ⟨Nat.le_refl _, Nat.le_refl _⟩)) (fun _ h => h.elim) (fun v st₀ t hst hq => ?_)
  obtain ⟨r9, hv, rfl, hh⟩ := hq
  cases hv
  rw [hh, hst]
  refine lv_if_eq (tgt := 16) hx hb dJ0_charAt_5068e_4 rfl (fun h => absurd h (by decide)) (fun _ => ?_)
  refine lv_aload_n hx hb dJ0_charAt_5068e_7 rfl (lv_at hl 0 rfl) ?_
  refine vk_getf hx hb hStr.2.2.1 hS hown (hts _ xw_33) (fun x h => h) dJ0_charAt_5068e_8 ?_
  refine lv_iload_n hx hb dJ0_charAt_5068e_11 rfl (lv_at hl 1 rfl) ?_
  refine W.callX ((W.runS (As := [.ref (ts 4), .int i]) (rest := []) ⟨hx, hb, hml, hown, hts⟩ (am_lchar l A ts i _ hix) ⟨callB_of 2 hts (am_xw_cons xw_26) rfl rfl rfl (hts _ xw_6) (hts _ xw_24) (by decide +kernel) ⟨Nat.le_of_ble_eq_true rfl, Nat.le_of_ble_eq_true rfl⟩, hts _ xw_25⟩ ⟨am_PS_b A ts _, am_PS_p hSE _⟩ rfl rfl hl.1 rfl (lv_room (Nat.le_of_ble_eq_true rfl)) dJ0_charAt_5068e_12 ⟨Nat.le_refl _, Nat.le_refl _⟩)) (fun _ h => h.elim) (fun v st₀ t hst hq => ?_)
  obtain ⟨r9, hv, rfl, hh⟩ := hq
  cases hv
  rw [hh, hst]
  exact W.zret (ty := .char) hx hb hr hc2 (fun t ht _ => ⟨_, rfl, rfl, ht⟩) (fun _ h => by cases h) dJ0_charAt_5068e_15
end
section
/-! what a step leaves: the number of locals, cells, slots -/
def am_Fi (al : Bool) (L : aL) (h : aH) (x : aS) : Prop := match x with
  | .inl k' => am_Mo al h k'.2.2.2 ∧ k'.2.1.length = L.length
  | .inr (.inl r) => r.2 = h
  | .inr (.inr (_, _, k1)) => k1.2.2.2 = h ∧ k1.2.1.length = L.length
section AMF
variable {al : Bool} {m : aM} {pc np r : Nat} {L L' : aL} {S S' : List Value} {h h' : aH} {x : aS}
theorem fi_nx (hs : am_nx np L' S' h' = some x) (hm : am_Mo al h h') (hl : L'.length = L.length) : am_Fi al L h x := by cases hs; exact ⟨hm, hl⟩
theorem fi_same (hs : am_nx np L S' h = some x) : am_Fi al L h x := fi_nx hs .rf rfl
theorem fi_loadi {i : Nat} (hs : am_loadi i np L S h = some x) : am_Fi al L h x := by
  unfold am_loadi at hs; split at hs
  · exact fi_same hs
  · cases hs
theorem fi_loadl {i : Nat} (hs : am_loadl i np L S h = some x) : am_Fi al L h x := by
  unfold am_loadl at hs; split at hs
  · exact fi_same hs
  · cases hs
theorem fi_loada {i : Nat} (hs : am_loada i np L S h = some x) : am_Fi al L h x := by
  unfold am_loada at hs; split at hs
  · exact fi_same hs
  · cases hs
theorem fi_stori {i : Nat} (hs : am_stori i np L S h = some x) : am_Fi al L h x := by
  unfold am_stori at hs; split at hs
  · split at hs
    · exact fi_nx hs .rf (by simp)
    · cases hs
  · cases hs
theorem fi_storl {i : Nat} (hs : am_storl i np L S h = some x) : am_Fi al L h x := by
  unfold am_storl at hs; split at hs
  · split at hs
    · exact fi_nx hs .rf (by simp)
    · cases hs
  · cases hs
theorem fi_iinc {i : Nat} {n : Int} (hs : am_iinc i n r np L S h = some x) : am_Fi al L h x := by
  unfold am_iinc at hs; split at hs
  · split at hs
    · split at hs
      · split at hs
        · exact fi_nx hs .rf (by simp)
        · cases hs
      · split at hs
        · exact fi_nx hs .rf (by simp)
        · cases hs
    · cases hs
  · cases hs
theorem fi_kn {b : Nat} {n : Int} (hs : am_kn b n r np L S h = some x) : am_Fi al L h x := by
  unfold am_kn at hs; split at hs
  · split at hs
    · exact fi_same hs
    · cases hs
  · split at hs
    · exact fi_same hs
    · cases hs
theorem fi_bin {i : Instr} (hs : am_bin i np L S h = some x) : am_Fi al L h x := by
  unfold am_bin at hs; split at hs
  · split at hs
    · exact fi_same hs
    · cases hs
  · cases hs
theorem fi_lin {i : Instr} (hs : am_lin i np L S h = some x) : am_Fi al L h x := by
  unfold am_lin at hs; split at hs
  · split at hs
    · exact fi_same hs
    · cases hs
  · cases hs
theorem fi_uno {i : Instr} (hs : am_uno i np L S h = some x) : am_Fi al L h x := by
  unfold am_uno at hs; split at hs
  · split at hs
    · exact fi_same hs
    · cases hs
  · cases hs
theorem fi_if {c : ClassFile.Cond} (hs : am_if c np r L S h = some x) : am_Fi al L h x := by
  unfold am_if at hs; split at hs
  · exact fi_same hs
  · cases hs
theorem fi_icmp {c : ClassFile.Cond} (hs : am_icmp c np r L S h = some x) : am_Fi al L h x := by
  unfold am_icmp at hs; split at hs
  · exact fi_same hs
  · cases hs
theorem fi_tsw {d lo hi : Int} {offs : Array Int} (hs : am_tsw pc d lo hi offs L S h = some x) : am_Fi al L h x := by
  unfold am_tsw at hs; split at hs
  · split at hs
    · split at hs
      · exact fi_same hs
      · cases hs
    · split at hs
      · split at hs
        · exact fi_same hs
        · cases hs
      · cases hs
  · cases hs
theorem fi_lsw {d : Int} {ps : Array (Int × Int)} (hs : am_lsw pc d ps L S h = some x) : am_Fi al L h x := by
  unfold am_lsw at hs; split at hs
  · split at hs
    · exact fi_same hs
    · cases hs
  · cases hs
theorem fi_new (hs : am_new al r np L S h = some x) : am_Fi al L h x := by
  unfold am_new at hs; split at hs
  · split at hs
    · rename_i hc; exact fi_nx hs (.app hc.1 hc.2) rfl
    · cases hs
  · cases hs
theorem fi_newa {t : ArrayType} (hs : am_newa al t np L S h = some x) : am_Fi al L h x := by
  unfold am_newa at hs; split at hs
  · split at hs
    · split at hs
      · rename_i hc; exact fi_nx hs (.app hc.1 hc.2.1) rfl
      · cases hs
    · cases hs
  · cases hs
theorem fi_anew (hs : am_anew al r np L S h = some x) : am_Fi al L h x := by
  unfold am_anew at hs; split at hs
  · split at hs
    · split at hs
      · rename_i hc; exact fi_nx hs (.app hc.1 hc.2.2.1) rfl
      · cases hs
    · cases hs
  · cases hs
theorem fi_aald (hs : am_aald np L S h = some x) : am_Fi al L h x := by
  unfold am_aald at hs; split at hs
  · split at hs
    · split at hs
      · split at hs
        · exact fi_same hs
        · cases hs
      · cases hs
    · cases hs
  · cases hs
theorem fi_aast (hs : am_aast np L S h = some x) : am_Fi al L h x := by
  unfold am_aast at hs; split at hs
  · split at hs
    · rename_i hk
      split at hs
      · split at hs
        · exact fi_nx hs (.set hk (by simp [am_sz])) rfl
        · cases hs
      · cases hs
    · cases hs
  · cases hs
theorem fi_ald {t : Nat} (hs : am_ald t np L S h = some x) : am_Fi al L h x := by
  unfold am_ald at hs; split at hs
  · split at hs
    · split at hs
      · split at hs
        · exact fi_same hs
        · cases hs
      · cases hs
    · cases hs
  · cases hs
theorem fi_ast {t : Nat} {ty : FieldType} (hs : am_ast t ty np L S h = some x) : am_Fi al L h x := by
  unfold am_ast at hs; split at hs
  · split at hs
    · rename_i hk
      split at hs
      · exact fi_nx hs (.set hk (by simp [am_sz])) rfl
      · cases hs
    · cases hs
  · cases hs
theorem fi_get {q : Nat × Nat × Nat × Nat × FieldType × Bool} (hs : am_get q np L S h = some x) : am_Fi al L h x := by
  unfold am_get at hs; split at hs
  · split at hs
    · split at hs
      · split at hs
        · exact fi_same hs
        · cases hs
      · cases hs
    · cases hs
  · cases hs
theorem fi_put {q : Nat × Nat × Nat × Nat × FieldType × Bool} (hs : am_put m q np L S h = some x) : am_Fi al L h x := by
  unfold am_put at hs; split at hs
  · split at hs
    · rename_i hk
      split at hs
      · exact fi_nx hs (.set hk (by simp [am_sz])) rfl
      · cases hs
    · cases hs
  · cases hs
theorem fi_ldc {i : Instr} (hs : am_ldc i r np L S h = some x) : am_Fi al L h x := by
  unfold am_ldc at hs; split at hs
  · exact fi_same hs
  · split at hs
    · exact fi_same hs
    · exact fi_same hs
    · cases hs
theorem fi_iret (hs : am_iret m S h = some x) : am_Fi al L h x := by
  unfold am_iret at hs; split at hs
  · split at hs
    · split at hs
      · cases hs; rfl
      · cases hs
    · cases hs
  · cases hs
theorem fi_call {q : Nat × Nat × Nat × Nat × Nat} (hs : am_call q np L S h = some x) : am_Fi al L h x ∧ (∀ r, x ≠ .inr (.inl r)) ∧ ∀ c as k1, x = .inr (.inr (c, as, k1)) → c = q.2.2.1 ∧ (q.2.2.2.1 = 0 ∨ q.2.2.2.1 = 1 ∨ q.2.2.2.1 = 4 ∨ q.2.2.2.1 = 2 ∨ q.2.2.2.1 = 5) := by
  unfold am_call at hs
  simp only at hs
  generalize (if q.2.2.2.1 = 1 ∨ q.2.2.2.1 = 4 ∨ q.2.2.2.1 = 9 ∨ q.2.2.2.1 = 10 then q.2.2.2.2 else q.2.2.2.2 + 1) = n at hs
  have nx : ∀ S1, am_nx np L S1 h = some x → am_Fi al L h x ∧ (∀ r, x ≠ .inr (.inl r)) ∧ ∀ c as k1, x = .inr (.inr (c, as, k1)) → c = q.2.2.1 ∧ (q.2.2.2.1 = 0 ∨ q.2.2.2.1 = 1 ∨ q.2.2.2.1 = 4 ∨ q.2.2.2.1 = 2 ∨ q.2.2.2.1 = 5) := by
    intro S1 h1
    refine ⟨fi_same h1, ?_, ?_⟩
    · intro r e; subst e; cases h1
    · intro c as k1 e; subst e; cases h1
  have cl : ∀ as1 rest, some (Sum.inr (Sum.inr (q.2.2.1, as1, np, L, rest, h))) = some x → (q.2.2.2.1 = 0 ∨ q.2.2.2.1 = 1 ∨ q.2.2.2.1 = 4 ∨ q.2.2.2.1 = 2 ∨ q.2.2.2.1 = 5) → am_Fi al L h x ∧ (∀ r, x ≠ .inr (.inl r)) ∧ ∀ c as k1, x = .inr (.inr (c, as, k1)) → c = q.2.2.1 ∧ (q.2.2.2.1 = 0 ∨ q.2.2.2.1 = 1 ∨ q.2.2.2.1 = 4 ∨ q.2.2.2.1 = 2 ∨ q.2.2.2.1 = 5) := by
    intro as1 rest h1 hk
    cases h1
    refine ⟨⟨rfl, rfl⟩, ?_, ?_⟩
    · intro r e; cases e
    · intro c as k1 e; cases e; exact ⟨rfl, hk⟩
  split at hs
  · split at hs
    · rename_i hk
      split at hs
      · split at hs
        · split at hs
          · exact cl _ _ hs (Or.inl hk)
          · cases hs
        · cases hs
      · cases hs
    · rename_i hk; exact cl _ _ hs (Or.inr (Or.inl hk))
    · rename_i hk; exact cl _ _ hs (Or.inr (Or.inr (Or.inl hk)))
    · rename_i hk
      split at hs
      · exact cl _ _ hs (Or.inr (Or.inr (Or.inr (Or.inl hk))))
      · cases hs
    · rename_i hk
      split at hs
      · exact cl _ _ hs (Or.inr (Or.inr (Or.inr (Or.inr hk))))
      · cases hs
    · split at hs
      · exact nx _ hs
      · cases hs
    · split at hs
      · split at hs
        · exact nx _ hs
        · cases hs
      · cases hs
    · split at hs
      · split at hs
        · split at hs
          · exact nx _ hs
          · cases hs
        · cases hs
      · cases hs
    · split at hs
      · exact nx _ hs
      · cases hs
    · split at hs
      · exact nx _ hs
      · cases hs
    · cases hs
  · cases hs
theorem fi_inv (hs : (match am_ms[r]? with
    | some q => am_call q np L S h
    | none => none) = some x) : am_Fi al L h x := by
  split at hs
  · exact (fi_call hs).1
  · cases hs
theorem fi_op {i : Instr} (hs : am_op al m i pc np r L S h = some x) : am_Fi al L h x := by
  unfold am_op at hs
  split at hs <;> first | exact fi_same hs | exact fi_kn hs | exact fi_ldc hs | exact fi_loadi hs | exact fi_loadl hs | exact fi_loada hs | exact fi_stori hs | exact fi_storl hs | exact fi_iinc hs | exact fi_bin hs | exact fi_lin hs | exact fi_uno hs | exact fi_if hs | exact fi_icmp hs | exact fi_tsw hs | exact fi_lsw hs | exact fi_ald hs | exact fi_ast hs | exact fi_aald hs | exact fi_aast hs | exact fi_inv hs | exact fi_new hs | exact fi_newa hs | exact fi_anew hs | exact fi_iret hs | skip
  · split at hs
    · exact fi_same hs
    · cases hs
  · split at hs
    · split at hs
      · exact fi_same hs
      · cases hs
    · cases hs
  · split at hs
    · split at hs
      · exact fi_same hs
      · cases hs
    · cases hs
  · split at hs
    · split at hs
      · exact fi_same hs
      · cases hs
    · cases hs
  · split at hs
    · split at hs
      · split at hs
        · exact fi_same hs
        · cases hs
      · cases hs
    · cases hs
  · split at hs
    · exact fi_get hs
    · cases hs
  · split at hs
    · exact fi_put hs
    · cases hs
  · split at hs
    · exact fi_same hs
    · cases hs
  · split at hs
    · split at hs
      · cases hs; rfl
      · cases hs
    · cases hs
  · cases hs
end AMF
end
section
section AMT
variable {w : aE} {m0 : aM} {d : Nat} {p : Program} {l : Launch} {e : Env} {R : Room} {s : State} {m : MethodId} {args : Array Value} {below : List Frame} {meth : Method} {c : Code} {Q : State → Prop}
variable {pc np r : Nat} {L : aL} {S : List Value} {h : aH} {k' : aK}
theorem am_G_xw {w1 : Cond} (hw : w1 ∈ am_xw) : GoodIn am_G (w1 :: am_xw) := fun v hv => (List.mem_cons.mp hv).elim (fun e => by rw [e]; exact am_G_self _ (am_in_xw hw)) (fun h => am_G_self v (am_in_xw h))
theorem so_prim {q : Nat × Nat × Nat × Nat × Nat} (C : am_Cx w m0 d p l e R s m args below meth c) (hq : am_ms[r]? = some q) (hq1 : q.1 = m0.2.1) (i : Instr) (hd : decode m0.2.2.1 pc = .ok (i, 3))
    (hi : (i = .invokevirtual q.2.1 ∧ (q.2.2.2.1 = 0 ∨ q.2.2.2.1 = 7 ∨ q.2.2.2.1 = 8)) ∨ (i = .invokestatic q.2.1 ∧ (q.2.2.2.1 = 1 ∨ q.2.2.2.1 = 4 ∨ q.2.2.2.1 = 9 ∨ q.2.2.2.1 = 10)) ∨ (i = .invokespecial q.2.1 ∧ (q.2.2.2.1 = 2 ∨ q.2.2.2.1 = 5 ∨ q.2.2.2.1 = 6)))
    (hs : am_call q (pc + 3) L S h = some (.inl k')) (g : am_Gl w p l e R s m args below meth c Q k') : am_Gl w p l e R s m args below meth c Q (pc, L, S, h) := by
  have hmem := List.mem_of_getElem? hq
  have hmk := List.all_eq_true.mp am_ms_ok q hmem
  intro ls H locs cells slots hp hl
  obtain ⟨hx, hb, hr, hml, hown, hts, hK, hSE, hlk, hnm, hA1, ⟨hR0, hR3, hR1, hR2⟩, hm0⟩ := C
  have hp0 : h.length ≤ ae_n1 w ∧ am_slt h ≤ ae_z1 w ∧ cells + ae_n0 w = h.length ∧ slots + ae_z0 w = am_slt h := hp.1
  have hSs := hp.2.2.1
  have hfix : CallFix p m c m0.2.2.1 c.maxLocals s args am_G (am_nm m0.2.1) := ⟨hx, hb, rfl, hown, hts⟩
  have hSE1 : ∀ U : State, U.heap = H → s.WarmedH U.vm → am_SE (ae_A w) (ae_ts w) U U.heap := by
    intro U hU hW
    rw [hU]
    exact hSE.go hW (fun a h1 h2 => hSs.2.1 a h1 h2)
  have e3 : ae_s w 100003 = ae_ts w 3 := rfl
  unfold am_call at hs
  have hcs : (q.2.2.2.1 = 0 ∨ q.2.2.2.1 = 1 ∨ q.2.2.2.1 = 2 ∨ q.2.2.2.1 = 4 ∨ q.2.2.2.1 = 5) ∨ (i = .invokevirtual q.2.1 ∧ q.2.2.2.1 = 7) ∨ (i = .invokevirtual q.2.1 ∧ q.2.2.2.1 = 8) ∨ (i = .invokestatic q.2.1 ∧ q.2.2.2.1 = 9) ∨ (i = .invokestatic q.2.1 ∧ q.2.2.2.1 = 10) ∨ (i = .invokespecial q.2.1 ∧ q.2.2.2.1 = 6) := by
    rcases hi with ⟨a, b | b | b⟩ | ⟨a, b | b | b | b⟩ | ⟨a, b | b | b⟩ <;> simp [a, b]
  rcases hcs with hk | ⟨rfl, hk⟩ | ⟨rfl, hk⟩ | ⟨rfl, hk⟩ | ⟨rfl, hk⟩ | ⟨rfl, hk⟩
  · exfalso
    simp only at hs
    generalize (if q.2.2.2.1 = 1 ∨ q.2.2.2.1 = 4 ∨ q.2.2.2.1 = 9 ∨ q.2.2.2.1 = 10 then q.2.2.2.2 else q.2.2.2.2 + 1) = n at hs
    split at hs
    · rcases hk with hk | hk | hk | hk | hk <;> simp only [hk] at hs
      · split at hs
        · split at hs
          · split at hs <;> cases hs
          · cases hs
        · cases hs
      · cases hs
      · split at hs <;> cases hs
      · cases hs
      · split at hs <;> cases hs
    · cases hs
  · simp only [hk, am_msk, Bool.and_eq_true, beq_iff_eq] at hmk
    obtain ⟨⟨hn, hq8⟩, hix⟩ := hmk
    simp only [hk, hn] at hs
    simp only [show ((7 : Nat) = 1 ∨ (7 : Nat) = 4 ∨ (7 : Nat) = 9 ∨ (7 : Nat) = 10) ↔ False from by decide, if_false] at hs
    split at hs
    case isFalse => cases hs
    rename_i hlen
    split at hs
    · rename_i a has
      split at hs
      · rename_i ha
        subst ha
        cases hs
        have hS := am_take has
        have h8 : am_nm m0.2.1 = RX8 := by rw [← hq1, hq8]; rfl
        rw [hix] at hd
        rw [h8] at hown
        have g1 := g ls H locs cells slots hp hl
        have hS2 : S.map (am_v (ae_s w)) = .ref (ae_ts w 3) :: (S.drop 1).map (am_v (ae_s w)) := by
          conv => lhs; rw [hS]
          simp [am_v, e3]
        have hrun := W.runV (As := []) (rest := (S.drop 1).map (am_v (ae_s w))) (g := F0 m pc ls (S.map (am_v (ae_s w)))) (H := H) (locs := locs) (cells := cells) (slots := slots) (R := R) (l := l) (e := e) (below := below) (meth := meth) (nL := c.maxLocals) ⟨hx, hb, rfl, hown, hts⟩ (am_length l (ae_A w) (ae_ts w)) ⟨callB_of 0 hts (am_G_xw xw_11) rfl rfl rfl (hts _ (am_in_xw xw_5)) (hts _ (am_in_xw xw_8)) (by decide +kernel) ⟨by simp only [am_rs]; omega, by simp only [am_rs]; omega⟩, hts _ (am_in_xw xw_9), hts _ (am_in_xw xw_10)⟩ ⟨am_PS_b _ _ _, vk_recv hSE.2.2.2.2.2.1 (i := 0) (by decide) hSs, fun U hU hW => ⟨rfl, hSE1 U hU hW⟩⟩ rfl rfl hl.1 hS2 (lv_room (by rw [am_v_sum]; exact hlen.2)) hd ⟨by omega, by omega⟩
        refine vp_callSi hrun ?_
        rintro r9 rfl
        exact g1
      · cases hs
    · cases hs
  · simp only [hk, am_msk, Bool.and_eq_true, beq_iff_eq] at hmk
    obtain ⟨⟨hn, hq8⟩, hix⟩ := hmk
    simp only [hk, hn] at hs
    simp only [show ((8 : Nat) = 1 ∨ (8 : Nat) = 4 ∨ (8 : Nat) = 9 ∨ (8 : Nat) = 10) ↔ False from by decide, if_false] at hs
    split at hs
    case isFalse => cases hs
    rename_i hlen
    split at hs
    · rename_i a i has
      split at hs
      · rename_i ha
        subst ha
        split at hs
        · rename_i x hxx
          cases hs
          have hS := am_take has
          have h8 : am_nm m0.2.1 = RX8 := by rw [← hq1, hq8]; rfl
          rw [hix] at hd
          rw [h8] at hown
          have g1 := g ls H locs cells slots hp hl
          have hS2 : S.map (am_v (ae_s w)) = .int i :: .ref (ae_ts w 3) :: (S.drop 2).map (am_v (ae_s w)) := by
            conv => lhs; rw [hS]
            simp [am_v, e3]
          have hrun := W.runV (As := [.int i]) (rest := (S.drop 2).map (am_v (ae_s w))) (g := F0 m pc ls (S.map (am_v (ae_s w)))) (H := H) (locs := locs) (cells := cells) (slots := slots) (R := R) (l := l) (e := e) (below := below) (meth := meth) (nL := c.maxLocals) ⟨hx, hb, rfl, hown, hts⟩ (am_charAt l (ae_A w) (ae_ts w) i x hxx) ⟨callB_of 1 hts (am_G_xw xw_15) rfl rfl rfl (hts _ (am_in_xw xw_5)) (hts _ (am_in_xw xw_12)) (by decide +kernel) ⟨by simp only [am_rs]; omega, by simp only [am_rs]; omega⟩, hts _ (am_in_xw xw_13), hts _ (am_in_xw xw_14)⟩ ⟨am_PS_b _ _ _, vk_recv hSE.2.2.2.2.2.1 (i := 0) (by decide) hSs, fun U hU hW => ⟨rfl, hSE1 U hU hW⟩⟩ rfl rfl hl.1 hS2 (lv_room (by rw [am_v_sum]; exact hlen.2)) hd ⟨by omega, by omega⟩
          refine vp_callSi hrun ?_
          rintro r9 rfl
          exact g1
        · cases hs
      · cases hs
    · cases hs
  · simp only [hk, am_msk, beq_iff_eq] at hmk
    simp only [hk, hmk, true_or, or_true, if_true] at hs
    split at hs
    case isFalse => cases hs
    rename_i hlen
    split at hs
    · rename_i x y has
      cases hs
      have hS := am_take has
      have w1 := hts _ (am_in_ms hmem (w := .methodLink (am_nm q.1) q.2.1 Lib.Math.max.name) (by simp [am_sw, hk]))
      have w2 := hts _ (am_in_ms hmem (w := .static Lib.Math.max.name) (by simp [am_sw, hk]))
      have w3 := hts _ (am_in_ms hmem (w := .initialized "java/lang/Math") (by simp [am_sw, hk]))
      have w4 := hts _ (am_in_ms hmem (w := .code Lib.Math.max.name Lib.Math.max.code 2 (some .int)) (by simp [am_sw, hk]))
      rw [hq1] at w1
      have g1 := g ls H locs cells slots hp hl
      have hsum : ((S.drop 2).map (am_v (ae_s w)) |>.map fun v => v.category).sum ≤ 8 := by rw [am_v_sum]; exact hlen.2
      have hW := va_mmax hx hb hl.1.symm hown w1 w2 w3 w4 (by omega) (rest := (S.drop 2).map (am_v (ae_s w))) (by omega) (by omega) (by omega) (x := x) (y := y) hd g1
      show W p l e R s m args below meth c H locs cells slots Q (F0 m pc ls (S.map (am_v (ae_s w))))
      have hS2 : S.map (am_v (ae_s w)) = .int y :: .int x :: (S.drop 2).map (am_v (ae_s w)) := by
        conv => lhs; rw [hS]
        simp [am_v]
      rw [hS2]
      exact hW
    · cases hs
  · simp only [hk, am_msk, beq_iff_eq] at hmk
    simp only [hk, hmk, true_or, or_true, if_true] at hs
    split at hs
    case isFalse => cases hs
    rename_i hlen
    split at hs
    · rename_i x y has
      cases hs
      have hS := am_take has
      have w1 := hts _ (am_in_ms hmem (w := .methodLink (am_nm q.1) q.2.1 Lib.Math.min.name) (by simp [am_sw, hk]))
      have w2 := hts _ (am_in_ms hmem (w := .static Lib.Math.min.name) (by simp [am_sw, hk]))
      have w3 := hts _ (am_in_ms hmem (w := .initialized "java/lang/Math") (by simp [am_sw, hk]))
      have w4 := hts _ (am_in_ms hmem (w := .code Lib.Math.min.name Lib.Math.min.code 2 (some .int)) (by simp [am_sw, hk]))
      rw [hq1] at w1
      have g1 := g ls H locs cells slots hp hl
      have hsum : ((S.drop 2).map (am_v (ae_s w)) |>.map fun v => v.category).sum ≤ 8 := by rw [am_v_sum]; exact hlen.2
      have hW := va_mmin hx hb hl.1.symm hown w1 w2 w3 w4 (by omega) (rest := (S.drop 2).map (am_v (ae_s w))) (by omega) (by omega) (by omega) (x := x) (y := y) hd g1
      show W p l e R s m args below meth c H locs cells slots Q (F0 m pc ls (S.map (am_v (ae_s w))))
      have hS2 : S.map (am_v (ae_s w)) = .int y :: .int x :: (S.drop 2).map (am_v (ae_s w)) := by
        conv => lhs; rw [hS]
        simp [am_v]
      rw [hS2]
      exact hW
    · cases hs
  · simp only [hk, am_msk, beq_iff_eq] at hmk
    simp only [hk, hmk] at hs
    simp only [show ((6 : Nat) = 1 ∨ (6 : Nat) = 4 ∨ (6 : Nat) = 9 ∨ (6 : Nat) = 10) ↔ False from by decide, if_false] at hs
    split at hs
    case isFalse => cases hs
    rename_i hlen
    split at hs
    · rename_i a has
      cases hs
      have hS := am_take has
      have w1 := hts _ (am_in_ms hmem (w := .methodLink (am_nm q.1) q.2.1 objectInit) (by simp [am_sw, hk]))
      have w2 := hts _ (am_in_ms hmem (w := .instanceMethod objectInit) (by simp [am_sw, hk]))
      have w3 := hts _ (am_in_ms hmem (w := .code objectInit ⟨#[0xb1]⟩ 1 none) (by simp [am_sw, hk]))
      rw [hq1] at w1
      have g1 := g ls H locs cells slots hp hl
      have hsum : ((S.drop 1).map (am_v (ae_s w)) |>.map fun v => v.category).sum ≤ 8 := by rw [am_v_sum]; exact hlen.2
      have hS2 : S.map (am_v (ae_s w)) = .ref (ae_s w a) :: (S.drop 1).map (am_v (ae_s w)) := by
        conv => lhs; rw [hS]
        simp [am_v]
      refine W.objInit hx hb hown w1 w2 w3 (g := F0 m pc ls (S.map (am_v (ae_s w)))) rfl hl.1 (a := ae_s w a) (rest := (S.drop 1).map (am_v (ae_s w))) hS2 hd (by omega) (by show 2 * 0 + _ + 12 ≤ _; omega) g1
    · cases hs
theorem am_lookup_mem {α : Type} {k : Nat} {v : α} : ∀ {l : List (Nat × α)}, l.lookup k = some v → (k, v) ∈ l
  | [], h => by cases h
  | (a, b) :: t, h => by
    rw [List.lookup_cons] at h
    by_cases hk : k = a
    · subst hk
      simp at h
      subst h
      exact List.mem_cons_self
    · have : (k == a) = false := by simpa using hk
      rw [this] at h
      exact List.mem_cons_of_mem _ (am_lookup_mem h)
theorem am_cd_ok {i : Instr} (hm : m0 ∈ am_tab) (hcd : am_cd m0 pc = some (i, np, r)) : ∃ n, decode m0.2.2.1 pc = .ok (i, n) ∧ (am_sw? i = true ∨ (n = am_len i ∧ np = pc + am_len i)) ∧ am_sok m0.2.1 i pc r = true := by
  have h1 := am_mem_ok hm
  simp only [am_okm, Bool.and_eq_true] at h1
  have h2 := List.all_eq_true.mp h1.1.1 _ (am_lookup_mem hcd)
  simp only [am_ok, Bool.and_eq_true] at h2
  obtain ⟨h3, h4⟩ := h2
  split at h3
  · rename_i i' n hdec
    simp only [Bool.and_eq_true, decide_eq_true_eq, Bool.or_eq_true, beq_iff_eq] at h3
    obtain ⟨rfl, h5⟩ := h3
    refine ⟨n, hdec, ?_, h4⟩
    rcases h5 with h5 | h5
    · exact Or.inl h5
    · exact Or.inr ⟨h5.1, by rw [← h5.2, h5.1]⟩
  · cases h3
end AMT
end
section
section AMU
variable {w : aE} {m0 : aM} {d : Nat} {p : Program} {l : Launch} {e : Env} {R : Room} {s : State} {m : MethodId} {args : Array Value} {below : List Frame} {meth : Method} {c : Code} {Q : State → Prop}
variable {pc np r : Nat} {L : aL} {S : List Value} {h : aH} {k' : aK}
theorem am_ss_lt : ∀ q ∈ am_ss, q.2.2.1 < 3 ∧ (q.2.2.2 = false → q.1 = 8 ∧ q.2.1 = 286 ∧ q.2.2.1 = 0) := by decide
theorem am_next {i : Instr} (C : am_Cx w m0 d p l e R s m args below meth c) (hcd : am_cd m0 pc = some (i, np, r)) (hs : am_op (ae_al w) m0 i pc np r L S h = some (.inl k')) (hLl : L.length ≤ c.maxLocals) (hn1 : k'.2.2.2.length ≤ ae_n1 w) (hz1 : am_slt k'.2.2.2 ≤ ae_z1 w) (g : am_Gl w p l e R s m args below meth c Q k') : am_Gl w p l e R s m args below meth c Q (pc, L, S, h) := by
  have CC := C
  obtain ⟨hx, hb, hr, hml, hown, hts, hK, hSE, hlk, hnm, hA1, hRR, hm0⟩ := CC
  obtain ⟨n, hd, hnp, hsok⟩ := am_cd_ok hm0 hcd
  cases i with
  | tableswitch dd lo hi offs => exact so_tsw hx hb hd hs g
  | lookupswitch dd ps => exact so_lsw hx hb hd hs g
  | iconst n =>
    obtain ⟨rfl, rfl⟩ := hnp.resolve_left Bool.false_ne_true
    refine so_kn hs (fun ls H locs cells slots rest v h1 h2 h3 k => lv_iconst hx hb hd ?_ k) g
    rcases h3 with ⟨j, rfl, hj⟩ | ⟨j, rfl, hj⟩
    · rw [h1 j rfl hj]; exact (kn_8 ⟨j, hj⟩).1
    · rw [h2 j rfl hj]; exact (kn_8 ⟨j, hj⟩).2.1
  | bipush n =>
    obtain ⟨rfl, rfl⟩ := hnp.resolve_left Bool.false_ne_true
    refine so_kn hs (fun ls H locs cells slots rest v h1 h2 h3 k => lv_bipush hx hb hd ?_ k) g
    rcases h3 with ⟨j, rfl, hj⟩ | ⟨j, rfl, hj⟩
    · rw [h1 j rfl hj]; exact (kn_8 ⟨j, hj⟩).2.2.1
    · rw [h2 j rfl hj]; exact (kn_8 ⟨j, hj⟩).2.2.2
  | sipush n =>
    obtain ⟨rfl, rfl⟩ := hnp.resolve_left Bool.false_ne_true
    refine so_kn hs (fun ls H locs cells slots rest v h1 h2 h3 k => lv_sipush hx hb hd ?_ k) g
    rcases h3 with ⟨j, rfl, hj⟩ | ⟨j, rfl, hj⟩
    · rw [h1 j rfl hj]; exact (kn_16 ⟨j, hj⟩).1
    · rw [h2 j rfl hj]; exact (kn_16 ⟨j, hj⟩).2
  | lconst n =>
    obtain ⟨rfl, rfl⟩ := hnp.resolve_left Bool.false_ne_true
    cases hs
    exact so_push _ (fun ls H locs cells slots rest k => lv_lconst hx hb hd rfl k) rfl g
  | ldc x =>
    obtain ⟨rfl, rfl⟩ := hnp.resolve_left Bool.false_ne_true
    simp only [am_op, am_ldc] at hs
    split at hs
    · rename_i h9
      cases hs
      simp only [am_sok, h9, if_true, decide_eq_true_eq] at hsok
      obtain ⟨h8, rfl⟩ := hsok
      intro ls H locs cells slots hp hl
      rw [h8] at hown
      exact va_ldcS hx hb hown hSE.2.2.2.2.1 hd (g ls H locs cells slots hp hl)
    · rename_i h9
      simp only [am_sok, h9, if_false] at hsok
      split at hs
      · rename_i a b v hk
        cases hs
        rw [hk] at hsok
        simp only [decide_eq_true_eq] at hsok
        obtain ⟨rfl, rfl⟩ := hsok
        exact so_push _ (fun ls H locs cells slots rest k => lv_ldc hx hb hown (hts _ (am_in_ks (List.mem_of_getElem? hk))) hd k) rfl g
      · rename_i a b v hk
        rw [hk] at hsok
        cases hsok
      · cases hs
  | ldc_w x =>
    obtain ⟨rfl, rfl⟩ := hnp.resolve_left Bool.false_ne_true
    simp only [am_op, am_ldc] at hs
    split at hs
    · rename_i h9
      simp only [am_sok, h9, if_true] at hsok
      cases hsok
    · rename_i h9
      simp only [am_sok, h9, if_false] at hsok
      split at hs
      · rename_i a b v hk
        cases hs
        rw [hk] at hsok
        simp only [decide_eq_true_eq] at hsok
        obtain ⟨rfl, rfl⟩ := hsok
        exact so_push _ (fun ls H locs cells slots rest k => lv_ldcw hx hb hown (hts _ (am_in_ks (List.mem_of_getElem? hk))) hd k) rfl g
      · rename_i a b v hk
        rw [hk] at hsok
        cases hsok
      · cases hs
  | ldc2_w x =>
    obtain ⟨rfl, rfl⟩ := hnp.resolve_left Bool.false_ne_true
    simp only [am_op, am_ldc] at hs
    split at hs
    · rename_i h9
      simp only [am_sok, h9, if_true] at hsok
      cases hsok
    · rename_i h9
      simp only [am_sok, h9, if_false] at hsok
      split at hs
      · rename_i a b v hk
        rw [hk] at hsok
        cases hsok
      · rename_i a b v hk
        cases hs
        rw [hk] at hsok
        simp only [decide_eq_true_eq] at hsok
        obtain ⟨rfl, rfl⟩ := hsok
        exact so_push _ (fun ls H locs cells slots rest k => lv_ldc2 hx hb hown (hts _ (am_in_ks (List.mem_of_getElem? hk))) hd k) rfl g
      · cases hs
  | iload_n k =>
    obtain ⟨rfl, rfl⟩ := hnp.resolve_left Bool.false_ne_true
    exact so_loadi _ hs (fun ls H locs cells slots rest x h1 k => lv_iload_n hx hb hd rfl h1 k) g
  | iload k =>
    obtain ⟨rfl, rfl⟩ := hnp.resolve_left Bool.false_ne_true
    exact so_loadi _ hs (fun ls H locs cells slots rest x h1 k => lv_iload hx hb hd h1 k) g
  | lload_n k =>
    obtain ⟨rfl, rfl⟩ := hnp.resolve_left Bool.false_ne_true
    exact so_loadl _ hs (fun ls H locs cells slots rest x h1 k => lv_lload_n hx hb hd rfl h1 k) g
  | aload_n k =>
    obtain ⟨rfl, rfl⟩ := hnp.resolve_left Bool.false_ne_true
    exact so_loada _ hs (fun ls H locs cells slots rest x h1 k => lv_aload_n hx hb hd rfl h1 k) g
  | aload k =>
    obtain ⟨rfl, rfl⟩ := hnp.resolve_left Bool.false_ne_true
    exact so_loada _ hs (fun ls H locs cells slots rest x h1 k => lv_aload hx hb hd h1 k) g
  | istore_n k =>
    obtain ⟨rfl, rfl⟩ := hnp.resolve_left Bool.false_ne_true
    exact so_stori _ hs hLl (fun ls H locs cells slots rest x lv h1 h2 k => lv_istore_n hx hb hd rfl h1 h2 rfl k) g
  | istore k =>
    obtain ⟨rfl, rfl⟩ := hnp.resolve_left Bool.false_ne_true
    exact so_stori _ hs hLl (fun ls H locs cells slots rest x lv h1 h2 k => lv_istore hx hb hd h1 h2 rfl k) g
  | lstore_n k =>
    obtain ⟨rfl, rfl⟩ := hnp.resolve_left Bool.false_ne_true
    exact so_storl _ hs hLl (fun ls H locs cells slots rest x lv h1 h2 k => lv_lstore_n hx hb hd rfl h1 h2 rfl k) g
  | iinc k n =>
    obtain ⟨rfl, rfl⟩ := hnp.resolve_left Bool.false_ne_true
    exact so_iinc _ _ hs hLl (fun ls H locs cells slots rest x lv kk h1 h2 h3 k => lv_iinc hx hb hd h1 h2 rfl h3 rfl k) g
  | iadd =>
    obtain ⟨rfl, rfl⟩ := hnp.resolve_left Bool.false_ne_true
    exact so_bin (i := .iadd) hs (fun ls H locs cells slots rest x y v hv k => by cases hv; exact lv_iadd hx hb hd k) g
  | isub =>
    obtain ⟨rfl, rfl⟩ := hnp.resolve_left Bool.false_ne_true
    exact so_bin (i := .isub) hs (fun ls H locs cells slots rest x y v hv k => by cases hv; exact lv_isub hx hb hd k) g
  | imul =>
    obtain ⟨rfl, rfl⟩ := hnp.resolve_left Bool.false_ne_true
    exact so_bin (i := .imul) hs (fun ls H locs cells slots rest x y v hv k => by cases hv; exact lv_imul hx hb hd k) g
  | iand =>
    obtain ⟨rfl, rfl⟩ := hnp.resolve_left Bool.false_ne_true
    exact so_bin (i := .iand) hs (fun ls H locs cells slots rest x y v hv k => by cases hv; exact lv_iand hx hb hd k) g
  | ior =>
    obtain ⟨rfl, rfl⟩ := hnp.resolve_left Bool.false_ne_true
    exact so_bin (i := .ior) hs (fun ls H locs cells slots rest x y v hv k => by cases hv; exact lv_ior hx hb hd k) g
  | ixor =>
    obtain ⟨rfl, rfl⟩ := hnp.resolve_left Bool.false_ne_true
    exact so_bin (i := .ixor) hs (fun ls H locs cells slots rest x y v hv k => by cases hv; exact lv_ixor hx hb hd k) g
  | ishl =>
    obtain ⟨rfl, rfl⟩ := hnp.resolve_left Bool.false_ne_true
    exact so_bin (i := .ishl) hs (fun ls H locs cells slots rest x y v hv k => by cases hv; exact lv_ishl hx hb hd k) g
  | ishr =>
    obtain ⟨rfl, rfl⟩ := hnp.resolve_left Bool.false_ne_true
    exact so_bin (i := .ishr) hs (fun ls H locs cells slots rest x y v hv k => by cases hv; exact lv_ishr hx hb hd k) g
  | iushr =>
    obtain ⟨rfl, rfl⟩ := hnp.resolve_left Bool.false_ne_true
    exact so_bin (i := .iushr) hs (fun ls H locs cells slots rest x y v hv k => by cases hv; exact lv_iushr hx hb hd rfl k) g
  | idiv =>
    obtain ⟨rfl, rfl⟩ := hnp.resolve_left Bool.false_ne_true
    exact so_bin (i := .idiv) hs (fun ls H locs cells slots rest x y v hv k => by
      simp only [am_b2] at hv
      split at hv
      · cases hv
      · rename_i h0; cases hv; exact lv_idiv hx hb hd h0 k) g
  | irem =>
    obtain ⟨rfl, rfl⟩ := hnp.resolve_left Bool.false_ne_true
    exact so_bin (i := .irem) hs (fun ls H locs cells slots rest x y v hv k => by
      simp only [am_b2] at hv
      split at hv
      · cases hv
      · rename_i h0; cases hv; exact lv_irem hx hb hd h0 k) g
  | ladd =>
    obtain ⟨rfl, rfl⟩ := hnp.resolve_left Bool.false_ne_true
    exact so_lin (i := .ladd) hs (fun ls H locs cells slots rest x y v hv k => by cases hv; exact lv_ladd hx hb hd k) g
  | lmul =>
    obtain ⟨rfl, rfl⟩ := hnp.resolve_left Bool.false_ne_true
    exact so_lin (i := .lmul) hs (fun ls H locs cells slots rest x y v hv k => by cases hv; exact lv_lmul hx hb hd k) g
  | land =>
    obtain ⟨rfl, rfl⟩ := hnp.resolve_left Bool.false_ne_true
    exact so_lin (i := .land) hs (fun ls H locs cells slots rest x y v hv k => by cases hv; exact lv_land hx hb hd k) g
  | lrem =>
    obtain ⟨rfl, rfl⟩ := hnp.resolve_left Bool.false_ne_true
    exact so_lin (i := .lrem) hs (fun ls H locs cells slots rest x y v hv k => by
      simp only [am_l2] at hv
      split at hv
      · cases hv
      · rename_i h0; cases hv; exact lv_lrem hx hb hd h0 k) g
  | lshr =>
    obtain ⟨rfl, rfl⟩ := hnp.resolve_left Bool.false_ne_true
    simp only [am_op] at hs
    split at hs
    · cases hs
      intro ls H locs cells slots hp hl
      exact lv_lshr hx hb hd rfl (g ls H locs cells slots hp hl)
    · cases hs
  | i2l =>
    obtain ⟨rfl, rfl⟩ := hnp.resolve_left Bool.false_ne_true
    exact so_uno (i := .i2l) hs (fun ls H locs cells slots rest v v' hv => by
      unfold am_un at hv
      split at hv <;> first | (rename_i e1; cases e1; cases hv; exact ⟨rfl, rfl, fun k => lv_i2l hx hb hd rfl k⟩) | (cases hv; exact ⟨rfl, rfl, fun k => lv_i2l hx hb hd rfl k⟩) | (exfalso; simp_all; done) | cases hv) g
  | l2i =>
    obtain ⟨rfl, rfl⟩ := hnp.resolve_left Bool.false_ne_true
    exact so_uno (i := .l2i) hs (fun ls H locs cells slots rest v v' hv => by
      cases v <;> simp only [am_un] at hv <;> cases hv
      exact ⟨rfl, rfl, fun k => lv_l2i hx hb hd rfl k⟩) g
  | i2b =>
    obtain ⟨rfl, rfl⟩ := hnp.resolve_left Bool.false_ne_true
    exact so_uno (i := .i2b) hs (fun ls H locs cells slots rest v v' hv => by
      cases v <;> simp only [am_un] at hv <;> cases hv
      exact ⟨rfl, rfl, fun k => lv_i2b hx hb hd rfl k⟩) g
  | i2c =>
    obtain ⟨rfl, rfl⟩ := hnp.resolve_left Bool.false_ne_true
    exact so_uno (i := .i2c) hs (fun ls H locs cells slots rest v v' hv => by
      cases v <;> simp only [am_un] at hv <;> cases hv
      exact ⟨rfl, rfl, fun k => lv_i2c hx hb hd rfl k⟩) g
  | dup =>
    obtain ⟨rfl, rfl⟩ := hnp.resolve_left Bool.false_ne_true
    simp only [am_op] at hs
    split at hs
    · split at hs
      · rename_i hc
        cases hs
        intro ls H locs cells slots hp hl
        exact lv_dup hx hb hd (by rw [am_v_cat]; exact hc) (g ls H locs cells slots hp hl)
      · cases hs
    · cases hs
  | dup2 =>
    obtain ⟨rfl, rfl⟩ := hnp.resolve_left Bool.false_ne_true
    simp only [am_op] at hs
    split at hs
    · split at hs
      · rename_i hc
        cases hs
        intro ls H locs cells slots hp hl
        exact lv_dup2_11 hx hb hd (by rw [am_v_cat]; exact hc.1) (by rw [am_v_cat]; exact hc.2) (g ls H locs cells slots hp hl)
      · cases hs
    · cases hs
  | pop =>
    obtain ⟨rfl, rfl⟩ := hnp.resolve_left Bool.false_ne_true
    simp only [am_op] at hs
    split at hs
    · split at hs
      · rename_i hc
        cases hs
        intro ls H locs cells slots hp hl
        exact lv_pop hx hb hd (by rw [am_v_cat]; exact hc) (g ls H locs cells slots hp hl)
      · cases hs
    · cases hs
  | ifCond cnd off =>
    obtain ⟨rfl, rfl⟩ := hnp.resolve_left Bool.false_ne_true
    simp only [am_sok, decide_eq_true_eq] at hsok
    refine so_if hs (fun ls H locs cells slots rest x kt kf => ?_) g
    cases cnd
    · exact lv_if_eq hx hb hd hsok (fun hc => kt (by simpa [am_c2] using hc)) (fun hc => kf (by simpa [am_c2] using hc))
    · exact lv_if_ne hx hb hd hsok (fun hc => kt (by simpa [am_c2] using hc)) (fun hc => kf (by simpa [am_c2] using hc))
    · exact lv_if_lt hx hb hd hsok (fun hc => kt (by simpa only [am_c2, decide_eq_true_eq] using hc)) (fun hc => kf (by simpa only [am_c2, decide_eq_false_iff_not] using hc))
    · exact lv_if_ge hx hb hd hsok (fun hc => kt (by simpa only [am_c2, decide_eq_true_eq] using hc)) (fun hc => kf (by simpa only [am_c2, decide_eq_false_iff_not] using hc))
    · exact lv_if_gt hx hb hd hsok (fun hc => kt (by simpa only [am_c2, decide_eq_true_eq] using hc)) (fun hc => kf (by simpa only [am_c2, decide_eq_false_iff_not] using hc))
    · exact lv_if_le hx hb hd hsok (fun hc => kt (by simpa only [am_c2, decide_eq_true_eq] using hc)) (fun hc => kf (by simpa only [am_c2, decide_eq_false_iff_not] using hc))
  | if_icmp cnd off =>
    obtain ⟨rfl, rfl⟩ := hnp.resolve_left Bool.false_ne_true
    simp only [am_sok, decide_eq_true_eq] at hsok
    refine so_icmp hs (fun ls H locs cells slots rest x y kt kf => ?_) g
    cases cnd
    · exact lv_icmp_eq hx hb hd hsok (fun hc => kt (by simpa [am_c2] using hc)) (fun hc => kf (by simpa [am_c2] using hc))
    · exact lv_icmp_ne hx hb hd hsok (fun hc => kt (by simpa [am_c2] using hc)) (fun hc => kf (by simpa [am_c2] using hc))
    · exact lv_icmp_lt hx hb hd hsok (fun hc => kt (by simpa only [am_c2, decide_eq_true_eq] using hc)) (fun hc => kf (by simpa only [am_c2, decide_eq_false_iff_not] using hc))
    · exact lv_icmp_ge hx hb hd hsok (fun hc => kt (by simpa only [am_c2, decide_eq_true_eq] using hc)) (fun hc => kf (by simpa only [am_c2, decide_eq_false_iff_not] using hc))
    · exact lv_icmp_gt hx hb hd hsok (fun hc => kt (by simpa only [am_c2, decide_eq_true_eq] using hc)) (fun hc => kf (by simpa only [am_c2, decide_eq_false_iff_not] using hc))
    · exact lv_icmp_le hx hb hd hsok (fun hc => kt (by simpa only [am_c2, decide_eq_true_eq] using hc)) (fun hc => kf (by simpa only [am_c2, decide_eq_false_iff_not] using hc))
  | goto off =>
    obtain ⟨rfl, rfl⟩ := hnp.resolve_left Bool.false_ne_true
    simp only [am_sok, decide_eq_true_eq] at hsok
    cases hs
    intro ls H locs cells slots hp hl
    exact lv_goto hx hb hd hsok (g ls H locs cells slots hp hl)
  | iaload =>
    obtain ⟨rfl, rfl⟩ := hnp.resolve_left Bool.false_ne_true
    exact so_ald 0 C hs (fun ls H locs cells slots rest a k n f i hP ha hin kk => va_iald hx hb hK hP k 0 ha rfl hin hd kk) (fun ls H locs cells slots rest j i x _ hj hS hin hv kk => va_ti hx hb (hSE.2.2.2.1 j hj).2 hS hin (v := .int x) (by rw [hv]) hd kk) g
  | caload =>
    obtain ⟨rfl, rfl⟩ := hnp.resolve_left Bool.false_ne_true
    exact so_ald 1 C hs (fun ls H locs cells slots rest a k n f i hP ha hin kk => va_cald hx hb hK hP k 1 ha rfl hin hd kk) (fun ls H locs cells slots rest j i x h0 => absurd h0 (by decide)) g
  | baload =>
    obtain ⟨rfl, rfl⟩ := hnp.resolve_left Bool.false_ne_true
    exact so_ald 2 C hs (fun ls H locs cells slots rest a k n f i hP ha hin kk => va_bald hx hb hK hP k 2 ha rfl hin hd kk) (fun ls H locs cells slots rest j i x h0 => absurd h0 (by decide)) g
  | iastore =>
    obtain ⟨rfl, rfl⟩ := hnp.resolve_left Bool.false_ne_true
    exact so_ast 0 .int (Or.inl ⟨rfl, rfl⟩) C hs (fun ls H locs cells slots rest a i x cell h1 h2 h3 h4 kk => W.iast hx hb h1 h2 h3 h4 rfl rfl hd kk) g
  | castore =>
    obtain ⟨rfl, rfl⟩ := hnp.resolve_left Bool.false_ne_true
    exact so_ast 1 .char (Or.inr (Or.inl ⟨rfl, rfl⟩)) C hs (fun ls H locs cells slots rest a i x cell h1 h2 h3 h4 kk => W.cast hx hb h1 h2 h3 h4 rfl rfl hd kk) g
  | bastore =>
    obtain ⟨rfl, rfl⟩ := hnp.resolve_left Bool.false_ne_true
    exact so_ast 2 .byte (Or.inr (Or.inr ⟨rfl, rfl⟩)) C hs (fun ls H locs cells slots rest a i x cell h1 h2 h3 h4 kk => W.bast hx hb h1 h2 h3 h4 rfl rfl hd kk) g
  | aaload =>
    obtain ⟨rfl, rfl⟩ := hnp.resolve_left Bool.false_ne_true
    exact so_aald C hd hs g
  | aastore =>
    obtain ⟨rfl, rfl⟩ := hnp.resolve_left Bool.false_ne_true
    exact so_aast C hd hs g
  | arraylength =>
    obtain ⟨rfl, rfl⟩ := hnp.resolve_left Bool.false_ne_true
    simp only [am_op] at hs
    split at hs
    · split at hs
      · rename_i t la hla
        split at hs
        · rename_i ht
          cases hs
          exact so_alen C hd hla ht g
        · cases hs
      · cases hs
    · cases hs
  | getfield x =>
    obtain ⟨rfl, rfl⟩ := hnp.resolve_left Bool.false_ne_true
    simp only [am_op] at hs
    split at hs
    · rename_i q hq
      simp only [am_sok, hq, decide_eq_true_eq] at hsok
      obtain ⟨h1, rfl⟩ := hsok
      exact so_get C hq h1 hd hs g
    · cases hs
  | putfield x =>
    obtain ⟨rfl, rfl⟩ := hnp.resolve_left Bool.false_ne_true
    simp only [am_op] at hs
    split at hs
    · rename_i q hq
      simp only [am_sok, hq, decide_eq_true_eq] at hsok
      obtain ⟨h1, rfl⟩ := hsok
      exact so_put C hq h1 hd hs g
    · cases hs
  | getstatic x =>
    obtain ⟨rfl, rfl⟩ := hnp.resolve_left Bool.false_ne_true
    simp only [am_op] at hs
    split at hs
    · rename_i q hq
      simp only [am_sok, hq, decide_eq_true_eq] at hsok
      obtain ⟨h1, rfl⟩ := hsok
      cases hs
      have hmem := List.mem_of_getElem? hq
      obtain ⟨hj, hne⟩ := am_ss_lt q hmem
      intro ls H locs cells slots hp hl
      have g1 := g ls H locs cells slots hp hl
      have e1 : am_v (ae_s w) (.ref (100000 + q.2.2.1)) = .ref (ae_ts w q.2.2.1) := by simp only [am_v, am_sg, if_neg (show ¬ 100000 + q.2.2.1 < 100000 by omega), Nat.add_sub_cancel_left]
      simp only [List.map_cons, e1] at g1
      by_cases hn : q.2.2.2 = true
      · have w1 := hSE.2.1 q hmem hn
        rw [h1] at w1
        exact va_getsN hx hb (hSE.2.2.2.1 _ hj).1 hp.2.2.1 hown (va_Nw.use rfl w1) (fun x h => h) hd g1
      · have hn : q.2.2.2 = false := by simpa using hn
        obtain ⟨a1, a2, a3⟩ := hne hn
        rw [h1] at a1
        rw [a1] at hown
        rw [a2] at hd
        rw [a3] at g1
        exact va_gets hx hb (hSE.2.2.2.1 0 (by decide)).1 hp.2.2.1 hown (hts _ (am_in_xw xw_3)) (fun x h => h) hd g1
    · cases hs
  | invokevirtual x =>
    obtain ⟨rfl, rfl⟩ := hnp.resolve_left Bool.false_ne_true
    simp only [am_op] at hs
    split at hs
    · rename_i q hq
      simp only [am_sok, hq, decide_eq_true_eq] at hsok
      obtain ⟨h1, rfl, h2⟩ := hsok
      exact so_prim C hq h1 _ hd (Or.inl ⟨rfl, h2⟩) hs g
    · cases hs
  | invokestatic x =>
    obtain ⟨rfl, rfl⟩ := hnp.resolve_left Bool.false_ne_true
    simp only [am_op] at hs
    split at hs
    · rename_i q hq
      simp only [am_sok, hq, decide_eq_true_eq] at hsok
      obtain ⟨h1, rfl, h2⟩ := hsok
      exact so_prim C hq h1 _ hd (Or.inr (Or.inl ⟨rfl, h2⟩)) hs g
    · cases hs
  | invokespecial x =>
    obtain ⟨rfl, rfl⟩ := hnp.resolve_left Bool.false_ne_true
    simp only [am_op] at hs
    split at hs
    · rename_i q hq
      simp only [am_sok, hq, decide_eq_true_eq] at hsok
      obtain ⟨h1, rfl, h2⟩ := hsok
      exact so_prim C hq h1 _ hd (Or.inr (Or.inr ⟨rfl, h2⟩)) hs g
    · cases hs
  | new x =>
    obtain ⟨rfl, rfl⟩ := hnp.resolve_left Bool.false_ne_true
    cases hq : am_cs[r]? with
    | none => simp only [am_sok, hq] at hsok; cases hsok
    | some q =>
      simp only [am_sok, hq, decide_eq_true_eq] at hsok
      obtain ⟨h1, rfl⟩ := hsok
      exact so_new C hq h1 hd hs hn1 hz1 g
  | newarray t =>
    obtain ⟨rfl, rfl⟩ := hnp.resolve_left Bool.false_ne_true
    exact so_newa C hd hs hn1 hz1 g
  | anewarray x =>
    obtain ⟨rfl, rfl⟩ := hnp.resolve_left Bool.false_ne_true
    cases hq : am_cs[r]? with
    | none => simp only [am_sok, hq] at hsok; cases hsok
    | some q =>
      simp only [am_sok, hq, decide_eq_true_eq] at hsok
      obtain ⟨h1, rfl⟩ := hsok
      exact so_anew C hq h1 hd hs hn1 hz1 g
  | ireturn =>
    simp only [am_op, am_iret] at hs
    split at hs
    · split at hs
      · split at hs <;> cases hs
      · cases hs
    · cases hs
  | return_ =>
    simp only [am_op] at hs
    split at hs
    · split at hs <;> cases hs
    · cases hs
  | _ => cases hs
end AMU
end
section
section AMV
variable {w : aE} {m0 : aM} {d : Nat} {p : Program} {l : Launch} {e : Env} {R : Room} {s : State} {m : MethodId} {args : Array Value} {below : List Frame} {meth : Method} {c : Code}
variable {pc np r : Nat} {L : aL} {S : List Value} {h : aH}
theorem am_ret {i : Instr} {rv : Option Value} {h1 : aH} (C : am_Cx w m0 d p l e R s m args below meth c) (hcd : am_cd m0 pc = some (i, np, r)) (hs : am_op (ae_al w) m0 i pc np r L S h = some (.inr (.inl (rv, h1)))) (hn1 : h1.length = ae_n1 w) (hz1 : am_slt h1 = ae_z1 w) : am_Gl w p l e R s m args below meth c (MQ below (am_Q w rv h1) args s (ae_n1 w - ae_n0 w) (ae_z1 w - ae_z0 w) (ae_A w)) (pc, L, S, h) := by
  have hfi := fi_op (al := ae_al w) hs
  have hh : h1 = h := hfi
  subst hh
  have CC := C
  obtain ⟨hx, hb, hr, hml, hown, hts, hK, hSE, hlk, hnm, hA1, hRR, hm0⟩ := CC
  obtain ⟨n, hd, hnp, hsok⟩ := am_cd_ok hm0 hcd
  intro ls H locs cells slots hp hl
  have hp0 : h1.length ≤ ae_n1 w ∧ am_slt h1 ≤ ae_z1 w ∧ cells + ae_n0 w = h1.length ∧ slots + ae_z0 w = am_slt h1 := hp.1
  have c1 : ae_n1 w - ae_n0 w = cells := by omega
  have c2 : ae_z1 w - ae_z0 w = slots := by omega
  rw [c1, c2]
  have fin : ∀ (v : Option Value), v = rv.map (am_v (ae_s w)) → ∀ t : State, t.heap = H → s.WarmedH t.vm → am_Q w rv h1 args s (.returned v) t := fun v hv t ht _ => ⟨by rw [hv], by rw [ht]; exact hp.2.1, by rw [ht]; exact hp.2.2.2.2.2, hp.2.2.1.F ht⟩
  cases i with
  | ireturn =>
    obtain ⟨rfl, rfl⟩ := hnp.resolve_left Bool.false_ne_true
    simp only [am_op, am_iret] at hs
    split at hs
    · split at hs
      · rename_i ty hty
        split at hs
        · rename_i hnar
          cases hs
          rw [hty] at hr
          exact W.zret hx hb hr hnar (fin _ rfl) hp.2.2.1.2.2 hd
        · cases hs
      · cases hs
    · cases hs
  | return_ =>
    obtain ⟨rfl, rfl⟩ := hnp.resolve_left Bool.false_ne_true
    simp only [am_op] at hs
    split at hs
    · split at hs
      · rename_i hty
        cases hs
        rw [hty] at hr
        exact W.vret hx hb hr (fin _ rfl) hp.2.2.1.2.2 hd
      · cases hs
    · cases hs
  | invokevirtual x =>
    simp only [am_op] at hs
    split at hs
    · exact absurd rfl ((fi_call (al := ae_al w) hs).2.1 _)
    · cases hs
  | invokestatic x =>
    simp only [am_op] at hs
    split at hs
    · exact absurd rfl ((fi_call (al := ae_al w) hs).2.1 _)
    · cases hs
  | invokespecial x =>
    simp only [am_op] at hs
    split at hs
    · exact absurd rfl ((fi_call (al := ae_al w) hs).2.1 _)
    · cases hs
  | _ => exfalso; revert hs; simp only [am_op, am_kn, am_nx, am_ldc, am_loadi, am_loadl, am_loada, am_stori, am_storl, am_iinc, am_bin, am_lin, am_uno, am_if, am_icmp, am_tsw, am_lsw, am_ald, am_ast, am_aald, am_aast, am_get, am_put, am_new, am_newa, am_anew]; (repeat' split) <;> (intro hs; cases hs)
theorem am_lv_args (f : Nat → Nat) : ∀ (vs : List Value) (i j : Nat) (v : Value), (am_en vs)[j]? = some (some v) → (i + j, am_v f v) ∈ lv_args i (vs.map (am_v f))
  | [], i, j, v, h => by simp [am_en] at h
  | a :: vs, i, j, v, h => by
    simp only [List.map_cons, lv_args, am_v_cat]
    simp only [am_en, List.flatMap_cons] at h
    by_cases hc : a.category = 2
    · simp only [hc, if_true] at h ⊢
      match j with
      | 0 => simp at h; subst h; exact List.mem_cons_self
      | 1 => simp at h
      | j + 2 =>
        have h1 : (am_en vs)[j]? = some (some v) := by simpa [am_en] using h
        have h2 := am_lv_args f vs (i + 2) j v h1
        rw [show i + (j + 2) = i + 2 + j by omega]
        exact List.mem_cons_of_mem _ h2
    · simp only [hc, if_false] at h ⊢
      match j with
      | 0 => simp at h; subst h; exact List.mem_cons_self
      | j + 1 =>
        have h1 : (am_en vs)[j]? = some (some v) := by simpa [am_en] using h
        have h2 := am_lv_args f vs (i + 1) j v h1
        rw [show i + (j + 1) = i + 1 + j by omega]
        exact List.mem_cons_of_mem _ h2
theorem am_sl_len (f : Nat → Nat) : ∀ vs : List Value, (lg_sl (vs.map (am_v f))).length = (am_en vs).length
  | [] => rfl
  | a :: vs => by
    have ih := am_sl_len f vs
    simp only [lg_sl, am_en, List.map_cons, List.flatMap_cons, List.length_append, am_v_cat] at ih ⊢
    rw [ih]
    by_cases hc : a.category = 2 <;> simp [hc]
theorem am_entry {m' : aM} {as : List Value} (f : Nat → Nat) (hle : (am_en as).length ≤ m'.2.2.2.1) : lv_has ((lg_sl (as.map (am_v f)) ++ List.replicate (m'.2.2.2.1 - (lg_sl (as.map (am_v f))).length) Slot.unset).toArray) m'.2.2.2.1 (am_lv f (am_ent m' as)) := by
  refine am_lv_sub (lv_entry (as.map (am_v f)) (by rw [am_sl_len]; exact hle)) ?_
  rintro ⟨j, v⟩ hq
  obtain ⟨v', h1, rfl⟩ := am_lv_mem.mp hq
  unfold am_ent at h1
  by_cases hj : j < (am_en as).length
  · rw [List.getElem?_append_left hj] at h1
    have h2 := am_lv_args f as 0 j v' h1
    rwa [Nat.zero_add] at h2
  · rw [List.getElem?_append_right (by omega), List.getElem?_replicate] at h1
    split at h1 <;> cases h1
theorem am_ent_len {m' : aM} {as : List Value} (hle : (am_en as).length ≤ m'.2.2.2.1) : (am_ent m' as).length = m'.2.2.2.1 := by
  simp [am_ent]; omega
/-- a run of the abstract machine changes the counts as its steps do -/
theorem am_run_mo (al : Bool) : ∀ (n d : Nat) (m0 : aM) (k : aK) (rv : Option Value) (h' : aH), am_run al n d m0 k = some (rv, h') → am_Mo al k.2.2.2 h'
  | 0, d, m0, k, rv, h', hr => by cases hr
  | n + 1, d, m0, k, rv, h', hr => by
    rw [am_run] at hr
    cases hst : am_stp al m0 k with
    | none => rw [hst] at hr; cases hr
    | some x =>
      rw [hst] at hr
      have hfi : am_Fi al k.2.1 k.2.2.2 x := by
        unfold am_stp at hst
        split at hst
        · exact fi_op hst
        · cases hst
      match x, hr, hfi with
      | .inl k', hr, hfi => exact hfi.1.trans (am_run_mo al n d m0 k' rv h' hr)
      | .inr (.inl r), hr, hfi =>
        cases hr
        have e : h' = k.2.2.2 := hfi
        rw [e]; exact .rf
      | .inr (.inr (cc, as, k1)), hr, hfi =>
        cases d with
        | zero => cases hr
        | succ d' =>
          simp only at hr
          split at hr
          · cases hr
          · rename_i m' hm
            split at hr
            · split at hr
              · cases hr
              · rename_i v h2 hcall
                have e : k1.2.2.2 = k.2.2.2 := hfi.1
                have h3 := am_run_mo al n d' m' _ v h2 hcall
                have h4 := am_run_mo al n (d' + 1) m0 _ rv h' hr
                rw [← e]
                exact h3.trans h4
            · cases hr
/-- THE ABSTRACT MACHINE IS THE MACHINE -/
theorem am_sound (al : Bool) (l : Launch) : ∀ (n d : Nat) (m0 : aM) (k : aK) (rv : Option Value) (h' : aH), am_run al n d m0 k = some (rv, h') → ∀ (w : aE), ae_al w = al → h'.length = ae_n1 w → am_slt h' = ae_z1 w →
    ∀ (p : Program) (e : Env) (R : Room) (s : State) (m : MethodId) (args : Array Value) (below : List Frame) (meth : Method) (c : Code), am_Cx w m0 d p l e R s m args below meth c → k.2.1.length ≤ c.maxLocals → am_Gl w p l e R s m args below meth c (MQ below (am_Q w rv h') args s (ae_n1 w - ae_n0 w) (ae_z1 w - ae_z0 w) (ae_A w)) k := by
  intro n
  induction n with
  | zero => intro d m0 k rv h' hr; cases hr
  | succ n ih =>
    intro d m0 k rv h' hr w hal hn1 hz1 p e R s m args below meth c C hL
    obtain ⟨pc, L, S, h⟩ := k
    rw [am_run] at hr
    cases hst : am_stp al m0 (pc, L, S, h) with
    | none => rw [hst] at hr; cases hr
    | some x =>
      rw [hst] at hr
      unfold am_stp at hst
      simp only at hst
      cases hcd : am_cd m0 pc with
      | none => rw [hcd] at hst; cases hst
      | some y =>
        obtain ⟨i, np, r⟩ := y
        rw [hcd] at hst
        simp only at hst
        rw [← hal] at hst
        have hfi := fi_op (al := ae_al w) hst
        match x, hr, hfi, hst with
        | .inl k', hr, hfi, hst =>
          have hmo := am_run_mo al n d m0 k' rv h' hr
          refine am_next C hcd hst hL (by rw [← hn1]; exact hmo.1) (by rw [← hz1]; exact hmo.2.1) ?_
          exact ih d m0 k' rv h' hr w hal hn1 hz1 p e R s m args below meth c C (by rw [hfi.2]; exact hL)
        | .inr (.inl rr), hr, hfi, hst =>
          cases hr
          exact am_ret C hcd hst hn1 hz1
        | .inr (.inr (cc, as, k1)), hr, hfi, hsc =>
          cases d with
          | zero => cases hr
          | succ d' =>
            simp only at hr
            split at hr
            · cases hr
            · rename_i m' hm
              split at hr
              · rename_i hle
                split at hr
                · cases hr
                · rename_i v h2 hcall
                  have e1 : k1.2.2.2 = h := hfi.1
                  rw [e1] at hcall
                  have hmo1 := am_run_mo al n d' m' _ v h2 hcall
                  have hmo2 := am_run_mo al n (d' + 1) m0 _ rv h' hr
                  have hmt := List.mem_of_getElem? hm
                  obtain ⟨hmx, hpl, hcls⟩ := am_okm_of hmt
                  have g1 := ih (d' + 1) m0 _ rv h' hr w hal hn1 hz1 p e R s m args below meth c C (by rw [hfi.2]; exact hL)
                  intro ls H locs cells slots hp hl
                  have hM : Met l m'.1 (am_cw m' :: am_G) (am_rm d' (h2.length - h.length) (am_slt h2 - am_slt h)) (va_Pc (as.map (am_v (ae_s w))) (am_B w h)) (am_Q w v h2) (h2.length - h.length) (am_slt h2 - am_slt h) (ae_A w) := by
                    refine Met.ofW (cc := m'.2.2.1) (maxL := m'.2.2.2.1) (ret := m'.2.2.2.2.1) hpl rfl ?_
                    intro p' e' s' mm args' below' meth' c' s₁ B hml hv
                    obtain ⟨rfl, hP, hK, hSE, hsz⟩ := hv
                    have hts0 := atoms_spec (ws := am_cw m' :: am_G) B.pre
                    have hts : ∀ w ∈ am_G, w.before _ s' = true := fun w hw => hts0 w (List.mem_cons_of_mem _ hw)
                    have hown : s'.vm.findClass (am_nm m'.2.1) = some mm.cls := by rw [← hcls]; exact findClass_of_methodNamed B.named
                    have hnm : meth'.name = m'.1.name := (name_of_methodNamed B.named B.method).1
                    let w' : aE := (ae_al w, ae_b w, ae_ts w, ae_A w, ae_D w, ae_tc w, h.length, am_slt h, h2.length, am_slt h2)
                    have hb1 := hmo1.1
                    have hb2 := hmo1.2.1
                    have hb1' : h.length ≤ h2.length := hb1
                    have hb2' : am_slt h ≤ am_slt h2 := hb2
                    obtain ⟨-, -, -, -, -, -, -, -, -, -, hA1, -⟩ := C
                    have C' : am_Cx w' m' d' p' l e' (am_rm d' (h2.length - h.length) (am_slt h2 - am_slt h)) s' mm ((as.map (am_v (ae_s w))).toArray) below' meth' c' :=
                      ⟨B.exec, B.bytes, B.returns, hml, hown, hts, hK, hSE, B.notSynchronized, hnm, hA1, ⟨Nat.le_refl _, Nat.le_refl _, by show h2.length ≤ h2.length - h.length + h.length; omega, by show am_slt h2 ≤ am_slt h2 - am_slt h + am_slt h; omega⟩, hmt⟩
                    have g2 := ih d' m' _ v h2 hcall w' hal rfl rfl p' e' _ s' mm _ below' meth' c' C' (by rw [hml]; show (am_ent m' as).length ≤ _; rw [am_ent_len hle]; exact Nat.le_refl _)
                    rw [lg_entry_eq]
                    refine g2 _ _ [] 0 0 ⟨⟨hb1', hb2', Nat.zero_add _, Nat.zero_add _⟩, hP, va_S.rf, hp.2.2.2.1, hp.2.2.2.2.1, hsz⟩ ?_
                    rw [hml]
                    exact am_entry (ae_s w) hle
                  have hnn1 : h2.length ≤ ae_n1 w := by rw [← hn1]; exact hmo2.1
                  have hnz1 : am_slt h2 ≤ ae_z1 w := by rw [← hz1]; exact hmo2.2.1
                  have CC := C
                  obtain ⟨-, -, -, -, -, -, -, -, -, -, -, -, hm0⟩ := CC
                  obtain ⟨nn, hd, hnp, hsok⟩ := am_cd_ok hm0 hcd
                  have key : ∀ q : Nat × Nat × Nat × Nat × Nat, am_ms[r]? = some q → am_call q np L S h = some (.inr (.inr (cc, as, k1))) → q.1 = m0.2.1 → np = pc + 3 → ∀ i', decode m0.2.2.1 pc = .ok (i', 3) → ((i' = .invokevirtual q.2.1 ∧ (q.2.2.2.1 = 0 ∨ q.2.2.2.1 = 7 ∨ q.2.2.2.1 = 8)) ∨ (i' = .invokestatic q.2.1 ∧ (q.2.2.2.1 = 1 ∨ q.2.2.2.1 = 4 ∨ q.2.2.2.1 = 9 ∨ q.2.2.2.1 = 10)) ∨ (i' = .invokespecial q.2.1 ∧ (q.2.2.2.1 = 2 ∨ q.2.2.2.1 = 5 ∨ q.2.2.2.1 = 6))) → W p l e R s m args below meth c H locs cells slots (MQ below (am_Q w rv h') args s (ae_n1 w - ae_n0 w) (ae_z1 w - ae_z0 w) (ae_A w)) (F0 m pc ls (S.map (am_v (ae_s w)))) := by
                    intro q hq hcal hq1 hnp3 i' hdi hi
                    subst hnp3
                    obtain ⟨ec, hk⟩ := (fi_call (al := ae_al w) hcal).2.2 _ _ _ rfl
                    subst ec
                    refine so_inv C hq hq1 i' hdi ?_ hcal hm hM (by rw [hal]; exact hmo1) hnn1 hnz1 g1 ls H locs cells slots hp hl
                    rcases hi with ⟨a, b⟩ | ⟨a, b⟩ | ⟨a, b⟩
                    · refine Or.inl ⟨a, ?_⟩; omega
                    · refine Or.inr (Or.inl ⟨a, ?_⟩); omega
                    · refine Or.inr (Or.inr ⟨a, ?_⟩); omega
                  cases i with
                  | invokevirtual x =>
                    obtain ⟨rfl, hn3⟩ := hnp.resolve_left Bool.false_ne_true
                    simp only [am_op] at hsc
                    split at hsc
                    · rename_i q hq
                      simp only [am_sok, hq, decide_eq_true_eq] at hsok
                      obtain ⟨h1, rfl, h3⟩ := hsok
                      exact key q hq hsc h1 hn3 _ hd (Or.inl ⟨rfl, h3⟩)
                    · cases hsc
                  | invokestatic x =>
                    obtain ⟨rfl, hn3⟩ := hnp.resolve_left Bool.false_ne_true
                    simp only [am_op] at hsc
                    split at hsc
                    · rename_i q hq
                      simp only [am_sok, hq, decide_eq_true_eq] at hsok
                      obtain ⟨h1, rfl, h3⟩ := hsok
                      exact key q hq hsc h1 hn3 _ hd (Or.inr (Or.inl ⟨rfl, h3⟩))
                    · cases hsc
                  | invokespecial x =>
                    obtain ⟨rfl, hn3⟩ := hnp.resolve_left Bool.false_ne_true
                    simp only [am_op] at hsc
                    split at hsc
                    · rename_i q hq
                      simp only [am_sok, hq, decide_eq_true_eq] at hsok
                      obtain ⟨h1, rfl, h3⟩ := hsok
                      exact key q hq hsc h1 hn3 _ hd (Or.inr (Or.inr ⟨rfl, h3⟩))
                    · cases hsc
                  | _ => exfalso; revert hsc; simp only [am_op, am_kn, am_nx, am_ldc, am_loadi, am_loadl, am_loada, am_stori, am_storl, am_iinc, am_bin, am_lin, am_uno, am_if, am_icmp, am_tsw, am_lsw, am_ald, am_ast, am_aald, am_aast, am_get, am_put, am_new, am_newa, am_anew, am_iret]; (repeat' split) <;> (intro hsc; cases hsc)
              · cases hr
end AMV
end
section
/-! runs that end, by what they end with -/
theorem am_run_le {al : Bool} : ∀ {n n' d d' : Nat} {m : aM} {k : aK} {r : aR}, n ≤ n' → d ≤ d' → am_run al n d m k = some r → am_run al n' d' m k = some r
  | 0, n', d, d', m, k, r, _, _, h => by cases h
  | n + 1, 0, d, d', m, k, r, hn, _, h => by omega
  | n + 1, n' + 1, d, d', m, k, r, hn, hd, h => by
    have hn' : n ≤ n' := by omega
    rw [am_run] at h ⊢
    cases hst : am_stp al m k with
    | none => rw [hst] at h; cases h
    | some x =>
      rw [hst] at h
      match x, h with
      | .inl k', h => exact am_run_le hn' hd h
      | .inr (.inl rr), h => exact h
      | .inr (.inr (c, as, k1)), h =>
        cases d with
        | zero => cases h
        | succ d0 =>
          obtain ⟨d1, rfl⟩ : ∃ d1, d' = d1 + 1 := ⟨d' - 1, by omega⟩
          simp only at h ⊢
          split at h
          · cases h
          · rename_i m' hm
            split at h
            · rename_i hle
              rw [if_pos hle]
              split at h
              · cases h
              · rename_i v h2 hc
                rw [am_run_le hn' (show d0 ≤ d1 by omega) hc]
                exact am_run_le hn' (show d0 + 1 ≤ d1 + 1 by omega) h
            · cases h
def Ev (d : Nat) (m : aM) (pc : Nat) (L : aL) (S : List Value) (h : aH) (Q : Option Value → aH → Prop) : Prop := ∃ n r h', am_run false n d m (pc, L, S, h) = some (r, h') ∧ Q r h'
/-- a call -/
def Ec (d : Nat) (m : aM) (as : List Value) (h : aH) (Q : Option Value → aH → Prop) : Prop := (am_en as).length ≤ m.2.2.2.1 ∧ Ev d m 0 (am_ent m as) [] h Q
theorem ev_le {d d' : Nat} {m : aM} {pc : Nat} {L : aL} {S : List Value} {h : aH} {Q : Option Value → aH → Prop} (hd : d ≤ d') (k : Ev d m pc L S h Q) : Ev d' m pc L S h Q := by
  obtain ⟨n, r, h', h1, h2⟩ := k
  exact ⟨n, r, h', am_run_le (Nat.le_refl _) hd h1, h2⟩
theorem ec_le {d d' : Nat} {m : aM} {as : List Value} {h : aH} {Q : Option Value → aH → Prop} (hd : d ≤ d') (k : Ec d m as h Q) : Ec d' m as h Q := ⟨k.1, ev_le hd k.2⟩
theorem ev_mono {d : Nat} {m : aM} {pc : Nat} {L : aL} {S : List Value} {h : aH} {Q Q' : Option Value → aH → Prop} (k : Ev d m pc L S h Q) (hq : ∀ r h', Q r h' → Q' r h') : Ev d m pc L S h Q' := by
  obtain ⟨n, r, h', h1, h2⟩ := k
  exact ⟨n, r, h', h1, hq r h' h2⟩
theorem ec_mono {d : Nat} {m : aM} {as : List Value} {h : aH} {Q Q' : Option Value → aH → Prop} (k : Ec d m as h Q) (hq : ∀ r h', Q r h' → Q' r h') : Ec d m as h Q' := ⟨k.1, ev_mono k.2 hq⟩
def am_go (m : aM) (pc : Nat) (L : aL) (S : List Value) (h : aH) : Option aS := match am_cd m pc with
  | some (i, np, r) => am_op false m i pc np r L S h
  | none => none
theorem am_go_eq (m : aM) (pc : Nat) (L : aL) (S : List Value) (h : aH) : am_stp false m (pc, L, S, h) = am_go m pc L S h := rfl
theorem ev_nx {d : Nat} {m : aM} {pc : Nat} {L : aL} {S : List Value} {h : aH} {Q : Option Value → aH → Prop} {pc' : Nat} {L' : aL} {S' : List Value} {h' : aH} (hs : am_go m pc L S h = some (.inl (pc', L', S', h'))) (k : Ev d m pc' L' S' h' Q) : Ev d m pc L S h Q := by
  obtain ⟨n, r, h2, h3, h4⟩ := k
  exact ⟨n + 1, r, h2, by rw [am_run, am_go_eq, hs]; exact h3, h4⟩
theorem ev_rt {d : Nat} {m : aM} {pc : Nat} {L : aL} {S : List Value} {h : aH} {Q : Option Value → aH → Prop} {r : Option Value} {h' : aH} (hs : am_go m pc L S h = some (.inr (.inl (r, h')))) (q : Q r h') : Ev d m pc L S h Q := ⟨1, r, h', by rw [am_run, am_go_eq, hs], q⟩
theorem ev_call {d : Nat} {m : aM} {pc : Nat} {L : aL} {S : List Value} {h : aH} {Q Q1 : Option Value → aH → Prop} {c : Nat} {as : List Value} {pc' : Nat} {L' : aL} {S' : List Value} {h' : aH} {m' : aM} (hs : am_go m pc L S h = some (.inr (.inr (c, as, pc', L', S', h')))) (hm : am_tab[c]? = some m') (hc : Ec d m' as h' Q1) (k : ∀ r h2, Q1 r h2 → Ev (d + 1) m pc' L' (r.toList ++ S') h2 Q) : Ev (d + 1) m pc L S h Q := by
  obtain ⟨hle, n1, r1, h1, e1, q1⟩ := hc
  obtain ⟨n2, r2, h2, e2, q2⟩ := k r1 h1 q1
  refine ⟨max n1 n2 + 1, r2, h2, ?_, q2⟩
  rw [am_run, am_go_eq, hs]
  simp only [hm]
  rw [if_pos hle, am_run_le (Nat.le_max_left n1 n2) (Nat.le_refl d) e1]
  exact am_run_le (Nat.le_max_right n1 n2) (Nat.le_refl _) e2
/-- one answer, one heap -/
def rt (v : Value) (h : aH) : Option Value → aH → Prop := fun r h' => r = some v ∧ h' = h
def rtv (h : aH) : Option Value → aH → Prop := fun r h' => r = none ∧ h' = h
theorem ev_ci {d : Nat} {m : aM} {pc : Nat} {L : aL} {S : List Value} {h : aH} {Q : Option Value → aH → Prop} {c : Nat} {as : List Value} {pc' : Nat} {L' : aL} {S' : List Value} {h' h2 : aH} {m' : aM} {v : Value} (hs : am_go m pc L S h = some (.inr (.inr (c, as, pc', L', S', h')))) (hm : am_tab[c]? = some m') (hc : Ec d m' as h' (rt v h2)) (k : Ev (d + 1) m pc' L' (v :: S') h2 Q) : Ev (d + 1) m pc L S h Q :=
  ev_call hs hm hc (fun r h3 q => by obtain ⟨rfl, rfl⟩ := q; exact k)
theorem ev_cv {d : Nat} {m : aM} {pc : Nat} {L : aL} {S : List Value} {h : aH} {Q : Option Value → aH → Prop} {c : Nat} {as : List Value} {pc' : Nat} {L' : aL} {S' : List Value} {h' h2 : aH} {m' : aM} (hs : am_go m pc L S h = some (.inr (.inr (c, as, pc', L', S', h')))) (hm : am_tab[c]? = some m') (hc : Ec d m' as h' (rtv h2)) (k : Ev (d + 1) m pc' L' S' h2 Q) : Ev (d + 1) m pc L S h Q :=
  ev_call hs hm hc (fun r h3 q => by obtain ⟨rfl, rfl⟩ := q; exact k)
theorem ev_if {d : Nat} {m : aM} {b : Bool} {p q : Nat} {L : aL} {S : List Value} {h : aH} {Q : Option Value → aH → Prop} (kt : b = true → Ev d m p L S h Q) (kf : b = false → Ev d m q L S h Q) : Ev d m (if b then p else q) L S h Q := by
  cases b with
  | true => exact kt rfl
  | false => exact kf rfl
theorem ec_in {d : Nat} {m : aM} {as : List Value} {h : aH} {Q : Option Value → aH → Prop} (L : aL) (hl : (am_en as).length.ble m.2.2.2.1 = true) (hL : am_ent m as = L) (k : Ev d m 0 L [] h Q) : Ec d m as h Q := ⟨Nat.le_of_ble_eq_true hl, by rw [hL]; exact k⟩
end
section
/-! rows for runs: branches on numbers, cells, calls -/
section EVR
variable {d : Nat} {m : aM} {pc np r x p q : Nat} {L : aL} {S : List Value} {h : aH} {Q : Option Value → aH → Prop} {a b : Nat}
theorem ev_t {c : Bool} (hc : c = true) (k : Ev d m p L S h Q) : Ev d m (if c then p else q) L S h Q := by rw [hc]; exact k
theorem ev_f {c : Bool} (hc : c = false) (k : Ev d m q L S h Q) : Ev d m (if c then p else q) L S h Q := by rw [hc]; exact k
theorem ev_eq (kt : a = b → Ev d m p L S h Q) (kf : ¬ a = b → Ev d m q L S h Q) (ha : a < 2147483648 := by omega) (hb : b < 2147483648 := by omega) : Ev d m (if am_c2 .eq (nI a) (nI b) then p else q) L S h Q :=
  ev_if (fun hc => kt ((nI_eq ha hb).mp (by simpa [am_c2] using hc))) (fun hc => kf (fun e => by subst e; simp [am_c2] at hc))
theorem ev_ne (kt : ¬ a = b → Ev d m p L S h Q) (kf : a = b → Ev d m q L S h Q) (ha : a < 2147483648 := by omega) (hb : b < 2147483648 := by omega) : Ev d m (if am_c2 .ne (nI a) (nI b) then p else q) L S h Q :=
  ev_if (fun hc => kt (fun e => by subst e; simp [am_c2] at hc)) (fun hc => kf ((nI_eq ha hb).mp (by simpa [am_c2] using hc)))
theorem ev_lt (kt : a < b → Ev d m p L S h Q) (kf : b ≤ a → Ev d m q L S h Q) (ha : a < 2147483648 := by omega) (hb : b < 2147483648 := by omega) : Ev d m (if am_c2 .lt (nI a) (nI b) then p else q) L S h Q :=
  ev_if (fun hc => kt ((nI_ltI ha hb).mp (by simpa only [am_c2, decide_eq_true_eq] using hc))) (fun hc => kf (Nat.le_of_not_lt (fun e => by have := (nI_ltI ha hb).mpr e; simp only [am_c2, decide_eq_false_iff_not] at hc; exact hc this)))
theorem ev_ge (kt : b ≤ a → Ev d m p L S h Q) (kf : a < b → Ev d m q L S h Q) (ha : a < 2147483648 := by omega) (hb : b < 2147483648 := by omega) : Ev d m (if am_c2 .ge (nI a) (nI b) then p else q) L S h Q :=
  ev_if (fun hc => kt ((nI_leI hb ha).mp (by simpa only [am_c2, decide_eq_true_eq] using hc))) (fun hc => kf (Nat.lt_of_not_le (fun e => by have := (nI_leI hb ha).mpr e; simp only [am_c2, decide_eq_false_iff_not] at hc; exact hc this)))
theorem ev_gt (kt : b < a → Ev d m p L S h Q) (kf : a ≤ b → Ev d m q L S h Q) (ha : a < 2147483648 := by omega) (hb : b < 2147483648 := by omega) : Ev d m (if am_c2 .gt (nI a) (nI b) then p else q) L S h Q :=
  ev_if (fun hc => kt ((nI_ltI hb ha).mp (by simpa only [am_c2, decide_eq_true_eq] using hc))) (fun hc => kf (Nat.le_of_not_lt (fun e => by have := (nI_ltI hb ha).mpr e; simp only [am_c2, decide_eq_false_iff_not] at hc; exact hc this)))
theorem ev_leq (kt : a ≤ b → Ev d m p L S h Q) (kf : b < a → Ev d m q L S h Q) (ha : a < 2147483648 := by omega) (hb : b < 2147483648 := by omega) : Ev d m (if am_c2 .le (nI a) (nI b) then p else q) L S h Q :=
  ev_if (fun hc => kt ((nI_leI ha hb).mp (by simpa only [am_c2, decide_eq_true_eq] using hc))) (fun hc => kf (Nat.lt_of_not_le (fun e => by have := (nI_leI ha hb).mpr e; simp only [am_c2, decide_eq_false_iff_not] at hc; exact hc this)))
theorem ev_eq0 (kt : a = 0 → Ev d m p L S h Q) (kf : ¬ a = 0 → Ev d m q L S h Q) (ha : a < 2147483648 := by omega) : Ev d m (if am_c2 .eq (nI a) 0 then p else q) L S h Q := ev_eq (b := 0) kt kf ha (by decide)
theorem ev_ne0 (kt : ¬ a = 0 → Ev d m p L S h Q) (kf : a = 0 → Ev d m q L S h Q) (ha : a < 2147483648 := by omega) : Ev d m (if am_c2 .ne (nI a) 0 then p else q) L S h Q := ev_ne (b := 0) kt kf ha (by decide)
theorem ev_lt0 (kf : Ev d m q L S h Q) (ha : a < 2147483648 := by omega) : Ev d m (if am_c2 .lt (nI a) 0 then p else q) L S h Q := ev_lt (b := 0) (fun h => absurd h (Nat.not_lt_zero _)) (fun _ => kf) ha (by decide)
theorem ev_ge0 (kt : Ev d m p L S h Q) (ha : a < 2147483648 := by omega) : Ev d m (if am_c2 .ge (nI a) 0 then p else q) L S h Q := ev_ge (b := 0) (fun _ => kt) (fun h => absurd h (Nat.not_lt_zero _)) ha (by decide)
theorem ev_gt0 (kt : 0 < a → Ev d m p L S h Q) (kf : a = 0 → Ev d m q L S h Q) (ha : a < 2147483648 := by omega) : Ev d m (if am_c2 .gt (nI a) 0 then p else q) L S h Q := ev_gt (b := 0) kt (fun h => kf (by omega)) ha (by decide)
theorem ev_le0 (kt : a = 0 → Ev d m p L S h Q) (kf : 0 < a → Ev d m q L S h Q) (ha : a < 2147483648 := by omega) : Ev d m (if am_c2 .le (nI a) 0 then p else q) L S h Q := ev_leq (b := 0) (fun h => kt (by omega)) kf ha (by decide)
/-- a test of any number against a constant: by cases -/
theorem ev_c {c : ClassFile.Cond} {u v : Int32} {P : Prop} (hP : am_c2 c u v = true ↔ P) (kt : P → Ev d m p L S h Q) (kf : ¬ P → Ev d m q L S h Q) : Ev d m (if am_c2 c u v then p else q) L S h Q :=
  ev_if (fun hc => kt (hP.mp hc)) (fun hc => kf (fun e => by rw [hP.mpr e] at hc; cases hc))
/-! cells -/
theorem am_arr_h {y : Nat × List Int32} (ha : a < 100000) (hh : h[a]? = some (.inl y)) : am_arr h a = some y := by
  unfold am_arr; rw [if_pos ha, hh]
theorem am_ix_nI {α : Type} {l : List α} {j : Nat} (hj : j < 2147483648) : am_ix l (nI j) = l[j]? := by
  unfold am_ix; rw [if_neg (nI_pos hj), nI_clamp hj]
theorem ev_gf {y : Nat × Nat × Nat × Nat × FieldType × Bool} {fs : List Value} {v : Value} (hc : am_cd m pc = some (.getfield x, np, r)) (hy : am_fs[r]? = some y) (hh : h[a]? = some (.inr (.inr (y.2.2.1, fs)))) (hv : fs[y.2.2.2.1]? = some v) (k : Ev d m np L (v :: S) h Q) (ha : a < 100000 := by omega) : Ev d m pc L (.ref a :: S) h Q := by
  refine ev_nx (pc' := np) (L' := L) (S' := v :: S) (h' := h) ?_ k
  simp only [am_go, hc, am_op, hy, am_get, hh, hv, ha, and_self, if_true, am_nx]
theorem ev_pf {y : Nat × Nat × Nat × Nat × FieldType × Bool} {fs : List Value} {v : Value} (hc : am_cd m pc = some (.putfield x, np, r)) (hy : am_fs[r]? = some y) (hh : h[a]? = some (.inr (.inr (y.2.2.1, fs)))) (hl : y.2.2.2.1 < fs.length) (hn : narrow y.2.2.2.2.1 v = v) (hf : fits y.2.2.2.2.1 v = true) (hfin : y.2.2.2.2.2 = false) (k : Ev d m np L S (h.set a (.inr (.inr (y.2.2.1, fs.set y.2.2.2.1 v)))) Q) (ha : a < 100000 := by omega) : Ev d m pc L (v :: .ref a :: S) h Q := by
  refine ev_nx (pc' := np) (L' := L) (S' := S) (h' := h.set a (.inr (.inr (y.2.2.1, fs.set y.2.2.2.1 v)))) ?_ k
  simp only [am_go, hc, am_op, hy, am_put, hh, am_nx]
  rw [if_pos ⟨ha, trivial, hl, hn, hf, fun q => by rw [hfin] at q; cases q⟩]
theorem ev_ia {l : List Int32} {j : Nat} {v : Int32} (hc : am_cd m pc = some (.iaload, np, r)) (hh : am_arr h a = some (0, l)) (hv : l[j]? = some v) (k : Ev d m np L (.int v :: S) h Q) (hj : j < 2147483648 := by omega) : Ev d m pc L (.int (nI j) :: .ref a :: S) h Q := by
  refine ev_nx (pc' := np) (L' := L) (S' := .int v :: S) (h' := h) ?_ k
  simp only [am_go, hc, am_op, am_ald, hh, if_true, am_ix_nI hj, hv, am_nx]
theorem ev_ca {l : List Int32} {j : Nat} {v : Int32} (hc : am_cd m pc = some (.caload, np, r)) (hh : am_arr h a = some (1, l)) (hv : l[j]? = some v) (k : Ev d m np L (.int v :: S) h Q) (hj : j < 2147483648 := by omega) : Ev d m pc L (.int (nI j) :: .ref a :: S) h Q := by
  refine ev_nx (pc' := np) (L' := L) (S' := .int v :: S) (h' := h) ?_ k
  simp only [am_go, hc, am_op, am_ald, hh, if_true, am_ix_nI hj, hv, am_nx]
theorem ev_ba {l : List Int32} {j : Nat} {v : Int32} (hc : am_cd m pc = some (.baload, np, r)) (hh : am_arr h a = some (2, l)) (hv : l[j]? = some v) (k : Ev d m np L (.int v :: S) h Q) (hj : j < 2147483648 := by omega) : Ev d m pc L (.int (nI j) :: .ref a :: S) h Q := by
  refine ev_nx (pc' := np) (L' := L) (S' := .int v :: S) (h' := h) ?_ k
  simp only [am_go, hc, am_op, am_ald, hh, if_true, am_ix_nI hj, hv, am_nx]
theorem ev_is {l : List Int32} {j : Nat} {v : Int32} (hc : am_cd m pc = some (.iastore, np, r)) (hh : h[a]? = some (.inl (0, l))) (hl : j < l.length) (k : Ev d m np L S (h.set a (.inl (0, l.set j v))) Q) (hj : j < 2147483648 := by omega) (ha : a < 100000 := by omega) : Ev d m pc L (.int v :: .int (nI j) :: .ref a :: S) h Q := by
  refine ev_nx (pc' := np) (L' := L) (S' := S) (h' := h.set a (.inl (0, l.set j v))) ?_ k
  simp only [am_go, hc, am_op, am_ast, hh, nI_clamp hj, am_nx]
  rw [if_pos ⟨ha, trivial, nI_pos hj, hl⟩]
  rfl
theorem ev_cs {l : List Int32} {j : Nat} {v : Int32} (hc : am_cd m pc = some (.castore, np, r)) (hh : h[a]? = some (.inl (1, l))) (hl : j < l.length) (k : Ev d m np L S (h.set a (.inl (1, l.set j (vp_nar .char v)))) Q) (hj : j < 2147483648 := by omega) (ha : a < 100000 := by omega) : Ev d m pc L (.int v :: .int (nI j) :: .ref a :: S) h Q := by
  refine ev_nx (pc' := np) (L' := L) (S' := S) (h' := h.set a (.inl (1, l.set j (vp_nar .char v)))) ?_ k
  simp only [am_go, hc, am_op, am_ast, hh, nI_clamp hj, am_nx]
  rw [if_pos ⟨ha, trivial, nI_pos hj, hl⟩]
theorem ev_bs {l : List Int32} {j : Nat} {v : Int32} (hc : am_cd m pc = some (.bastore, np, r)) (hh : h[a]? = some (.inl (2, l))) (hl : j < l.length) (k : Ev d m np L S (h.set a (.inl (2, l.set j (vp_nar .byte v)))) Q) (hj : j < 2147483648 := by omega) (ha : a < 100000 := by omega) : Ev d m pc L (.int v :: .int (nI j) :: .ref a :: S) h Q := by
  refine ev_nx (pc' := np) (L' := L) (S' := S) (h' := h.set a (.inl (2, l.set j (vp_nar .byte v)))) ?_ k
  simp only [am_go, hc, am_op, am_ast, hh, nI_clamp hj, am_nx]
  rw [if_pos ⟨ha, trivial, nI_pos hj, hl⟩]
theorem ev_aa {l : List (Option Nat)} {j v : Nat} (hc : am_cd m pc = some (.aaload, np, r)) (hh : h[a]? = some (.inr (.inl l))) (hv : l[j]? = some (some v)) (k : Ev d m np L (.ref v :: S) h Q) (hj : j < 2147483648 := by omega) (ha : a < 100000 := by omega) : Ev d m pc L (.int (nI j) :: .ref a :: S) h Q := by
  refine ev_nx (pc' := np) (L' := L) (S' := .ref v :: S) (h' := h) ?_ k
  simp only [am_go, hc, am_op, am_aald, hh, am_ix_nI hj, hv, ha, if_true, am_nx]
theorem ev_al {l : List Int32} {t : Nat} (hc : am_cd m pc = some (.arraylength, np, r)) (hh : am_arr h a = some (t, l)) (ht : t < 3) (k : Ev d m np L (.int (nI l.length) :: S) h Q) : Ev d m pc L (.ref a :: S) h Q := by
  refine ev_nx (pc' := np) (L' := L) (S' := .int (nI l.length) :: S) (h' := h) ?_ k
  simp only [am_go, hc, am_op, hh, ht, if_true, am_nx]
  rfl
theorem ev_ri {ty : FieldType} {v : Int32} (hc : am_cd m pc = some (.ireturn, np, r)) (hty : m.2.2.2.2.1 = some ty) (hn : narrow ty (.int v) = .int v) (k : Q (some (.int v)) h) : Ev d m pc L [.int v] h Q := by
  refine ev_rt (r := some (.int v)) (h' := h) ?_ k
  simp only [am_go, hc, am_op, am_iret, hty, hn, if_true]
/-! calls of a method of an object -/
theorem ev_v {o x' c n : Nat} {as : List Value} {ci : Nat} {fs : List Value} {m' : aM} {Q1 : Option Value → aH → Prop} (hc : am_cd m pc = some (.invokevirtual x, np, r)) (hq : am_ms[r]? = some (o, x', c, 0, n)) (hl : (n + 1).ble S.length = true) (ht : (S.take (n + 1)).reverse = .ref b :: as) (hsum : (am_sum (S.drop (n + 1))).ble 8 = true) (hm : am_tab[c]? = some m') (hh : h[b]? = some (.inr (.inr (ci, fs)))) (hci : m'.2.1 = ci) (hcall : Ec d m' (.ref b :: as) h Q1) (k : ∀ rv h2, Q1 rv h2 → Ev (d + 1) m np L (rv.toList ++ S.drop (n + 1)) h2 Q) (hb : b < 100000 := by omega) : Ev (d + 1) m pc L S h Q := by
  refine ev_call (c := c) (as := .ref b :: as) (pc' := np) (L' := L) (S' := S.drop (n + 1)) (h' := h) ?_ hm hcall k
  simp only [am_go, hc, am_op, hq, am_call]
  simp only [show ((0 : Nat) = 1 ∨ (0 : Nat) = 4 ∨ (0 : Nat) = 9 ∨ (0 : Nat) = 10) ↔ False from by decide, if_false]
  rw [if_pos ⟨Nat.le_of_ble_eq_true hl, Nat.le_of_ble_eq_true hsum⟩]
  simp only [ht, hh, hm]
  rw [if_pos ⟨hb, by rw [← hci]; rfl⟩]
theorem ev_vi {o x' c n : Nat} {as : List Value} {ci : Nat} {fs : List Value} {m' : aM} {v : Value} {h2 : aH} (hc : am_cd m pc = some (.invokevirtual x, np, r)) (hq : am_ms[r]? = some (o, x', c, 0, n)) (hl : (n + 1).ble S.length = true) (ht : (S.take (n + 1)).reverse = .ref b :: as) (hsum : (am_sum (S.drop (n + 1))).ble 8 = true) (hm : am_tab[c]? = some m') (hh : h[b]? = some (.inr (.inr (ci, fs)))) (hci : m'.2.1 = ci) (hcall : Ec d m' (.ref b :: as) h (rt v h2)) (k : Ev (d + 1) m np L (v :: S.drop (n + 1)) h2 Q) (hb : b < 100000 := by omega) : Ev (d + 1) m pc L S h Q :=
  ev_v hc hq hl ht hsum hm hh hci hcall (fun rv h3 q => by obtain ⟨rfl, rfl⟩ := q; exact k) hb
theorem ev_vv {o x' c n : Nat} {as : List Value} {ci : Nat} {fs : List Value} {m' : aM} {h2 : aH} (hc : am_cd m pc = some (.invokevirtual x, np, r)) (hq : am_ms[r]? = some (o, x', c, 0, n)) (hl : (n + 1).ble S.length = true) (ht : (S.take (n + 1)).reverse = .ref b :: as) (hsum : (am_sum (S.drop (n + 1))).ble 8 = true) (hm : am_tab[c]? = some m') (hh : h[b]? = some (.inr (.inr (ci, fs)))) (hci : m'.2.1 = ci) (hcall : Ec d m' (.ref b :: as) h (rtv h2)) (k : Ev (d + 1) m np L (S.drop (n + 1)) h2 Q) (hb : b < 100000 := by omega) : Ev (d + 1) m pc L S h Q :=
  ev_v hc hq hl ht hsum hm hh hci hcall (fun rv h3 q => by obtain ⟨rfl, rfl⟩ := q; exact k) hb
end EVR
end
section
/-! lists of small numbers as arrays; a line in the heap: its object and four arrays -/
def ar (l : List Nat) : aC := .inl (0, l.map nI)
theorem mg {K : List Nat} {p : Nat} (hp : p < K.length) : (K.map nI)[p]? = some (nI (K.getD p 0)) := by
  rw [List.getElem?_map, List.getD, List.getElem?_eq_getElem hp]; rfl
theorem ms_ {K : List Nat} {p x : Nat} : (K.map nI).set p (nI x) = (K.set p x).map nI := List.map_set.symm
theorem gd_s {K : List Nat} {p x : Nat} (hp : p < K.length) : (K.set p x).getD p 0 = x := by simp [List.getD, hp]
theorem gd_n {K : List Nat} {p q x : Nat} (hn : p ≠ q) : (K.set p x).getD q 0 = K.getD q 0 := by simp [List.getD, List.getElem?_set_ne hn]
def lo (i c t j : Nat) : aC := .inr (.inr (3, [.ref (i + 1), .ref (i + 2), .ref (i + 3), .ref (i + 4), .int (nI c), .int (nI t), .int (nI j)]))
def lh (h : aH) (i : Nat) (K S G C : List Nat) (c t j : Nat) : aH := ((((h.set i (lo i c t j)).set (i + 1) (ar K)).set (i + 2) (ar S)).set (i + 3) (ar G)).set (i + 4) (ar C)
section LH
variable {h : aH} {i : Nat} {K S G C : List Nat} {c t j : Nat}
theorem lh_len : (lh h i K S G C c t j).length = h.length := by simp [lh]
theorem lh_0 (hi : i + 4 < h.length) : (lh h i K S G C c t j)[i]? = some (lo i c t j) := by
  unfold lh
  rw [List.getElem?_set_ne (by omega), List.getElem?_set_ne (by omega), List.getElem?_set_ne (by omega), List.getElem?_set_ne (by omega), List.getElem?_set_self (by omega)]
theorem lh_1 (hi : i + 4 < h.length) : (lh h i K S G C c t j)[i + 1]? = some (ar K) := by
  unfold lh
  rw [List.getElem?_set_ne (by omega), List.getElem?_set_ne (by omega), List.getElem?_set_ne (by omega), List.getElem?_set_self (by simp; omega)]
theorem lh_2 (hi : i + 4 < h.length) : (lh h i K S G C c t j)[i + 2]? = some (ar S) := by
  unfold lh
  rw [List.getElem?_set_ne (by omega), List.getElem?_set_ne (by omega), List.getElem?_set_self (by simp; omega)]
theorem lh_3 (hi : i + 4 < h.length) : (lh h i K S G C c t j)[i + 3]? = some (ar G) := by
  unfold lh
  rw [List.getElem?_set_ne (by omega), List.getElem?_set_self (by simp; omega)]
theorem lh_4 (hi : i + 4 < h.length) : (lh h i K S G C c t j)[i + 4]? = some (ar C) := by
  unfold lh
  rw [List.getElem?_set_self (by simp; omega)]
theorem lh_o {k : Nat} (hk : k < i ∨ i + 4 < k) : (lh h i K S G C c t j)[k]? = h[k]? := by
  unfold lh
  rw [List.getElem?_set_ne (by omega), List.getElem?_set_ne (by omega), List.getElem?_set_ne (by omega), List.getElem?_set_ne (by omega), List.getElem?_set_ne (by omega)]
/-- heaps are alike where all their cells are -/
theorem lh_ext {h2 : aH} (hi : i + 4 < h.length) (hl : h2.length = h.length) (h0 : h2[i]? = some (lo i c t j)) (h1 : h2[i + 1]? = some (ar K)) (hS : h2[i + 2]? = some (ar S)) (hG : h2[i + 3]? = some (ar G)) (hC : h2[i + 4]? = some (ar C)) (ho : ∀ k, k < i ∨ i + 4 < k → h2[k]? = h[k]?) : h2 = lh h i K S G C c t j := by
  apply List.ext_getElem?
  intro k
  by_cases hk : k < i ∨ i + 4 < k
  · rw [lh_o hk]; exact ho k hk
  · rcases (show k = i ∨ k = i + 1 ∨ k = i + 2 ∨ k = i + 3 ∨ k = i + 4 by omega) with rfl | rfl | rfl | rfl | rfl
    · rw [h0, lh_0 hi]
    · rw [h1, lh_1 hi]
    · rw [hS, lh_2 hi]
    · rw [hG, lh_3 hi]
    · rw [hC, lh_4 hi]
theorem lh_s0 (hi : i + 4 < h.length) {c' t' j' : Nat} : (lh h i K S G C c t j).set i (lo i c' t' j') = lh h i K S G C c' t' j' :=
  lh_ext hi (by rw [List.length_set, lh_len]) (by rw [List.getElem?_set_self (by rw [lh_len]; omega)]) (by rw [List.getElem?_set_ne (by omega), lh_1 hi]) (by rw [List.getElem?_set_ne (by omega), lh_2 hi]) (by rw [List.getElem?_set_ne (by omega), lh_3 hi]) (by rw [List.getElem?_set_ne (by omega), lh_4 hi]) (fun k hk => by rw [List.getElem?_set_ne (by omega), lh_o hk])
theorem lh_s1 (hi : i + 4 < h.length) {K' : List Nat} : (lh h i K S G C c t j).set (i + 1) (ar K') = lh h i K' S G C c t j :=
  lh_ext hi (by rw [List.length_set, lh_len]) (by rw [List.getElem?_set_ne (by omega), lh_0 hi]) (by rw [List.getElem?_set_self (by rw [lh_len]; omega)]) (by rw [List.getElem?_set_ne (by omega), lh_2 hi]) (by rw [List.getElem?_set_ne (by omega), lh_3 hi]) (by rw [List.getElem?_set_ne (by omega), lh_4 hi]) (fun k hk => by rw [List.getElem?_set_ne (by omega), lh_o hk])
theorem lh_s2 (hi : i + 4 < h.length) {S' : List Nat} : (lh h i K S G C c t j).set (i + 2) (ar S') = lh h i K S' G C c t j :=
  lh_ext hi (by rw [List.length_set, lh_len]) (by rw [List.getElem?_set_ne (by omega), lh_0 hi]) (by rw [List.getElem?_set_ne (by omega), lh_1 hi]) (by rw [List.getElem?_set_self (by rw [lh_len]; omega)]) (by rw [List.getElem?_set_ne (by omega), lh_3 hi]) (by rw [List.getElem?_set_ne (by omega), lh_4 hi]) (fun k hk => by rw [List.getElem?_set_ne (by omega), lh_o hk])
theorem lh_s3 (hi : i + 4 < h.length) {G' : List Nat} : (lh h i K S G C c t j).set (i + 3) (ar G') = lh h i K S G' C c t j :=
  lh_ext hi (by rw [List.length_set, lh_len]) (by rw [List.getElem?_set_ne (by omega), lh_0 hi]) (by rw [List.getElem?_set_ne (by omega), lh_1 hi]) (by rw [List.getElem?_set_ne (by omega), lh_2 hi]) (by rw [List.getElem?_set_self (by rw [lh_len]; omega)]) (by rw [List.getElem?_set_ne (by omega), lh_4 hi]) (fun k hk => by rw [List.getElem?_set_ne (by omega), lh_o hk])
theorem lh_s4 (hi : i + 4 < h.length) {C' : List Nat} : (lh h i K S G C c t j).set (i + 4) (ar C') = lh h i K S G C' c t j :=
  lh_ext hi (by rw [List.length_set, lh_len]) (by rw [List.getElem?_set_ne (by omega), lh_0 hi]) (by rw [List.getElem?_set_ne (by omega), lh_1 hi]) (by rw [List.getElem?_set_ne (by omega), lh_2 hi]) (by rw [List.getElem?_set_ne (by omega), lh_3 hi]) (by rw [List.getElem?_set_self (by rw [lh_len]; omega)]) (fun k hk => by rw [List.getElem?_set_ne (by omega), lh_o hk])
/-! rows for a line; hi: its cells are there, and below 100000 -/
variable {d : Nat} {m : aM} {pc np r x p v : Nat} {L : aL} {T : List Value} {Q : Option Value → aH → Prop}
abbrev lI (h : aH) (i : Nat) : Prop := i + 4 < h.length ∧ h.length ≤ 100000
theorem ev_lf {y : Nat × Nat × Nat × Nat × FieldType × Bool} {u : Value} (hi : lI h i) (hc : am_cd m pc = some (.getfield x, np, r)) (hy : am_fs[r]? = some y) (h3 : y.2.2.1 = 3) (hv : [.ref (i + 1), .ref (i + 2), .ref (i + 3), .ref (i + 4), .int (nI c), .int (nI t), .int (nI j)][y.2.2.2.1]? = some u) (k : Ev d m np L (u :: T) (lh h i K S G C c t j) Q) : Ev d m pc L (.ref i :: T) (lh h i K S G C c t j) Q :=
  ev_gf hc hy (by rw [lh_0 hi.1, h3]; rfl) hv k (by have := hi.1; have := hi.2; omega)
theorem ev_lp {y : Nat × Nat × Nat × Nat × FieldType × Bool} {c' t' j' : Nat} (hi : lI h i) (hc : am_cd m pc = some (.putfield x, np, r)) (hy : am_fs[r]? = some y) (h3 : y.2.2.1 = 3 ∧ y.2.2.2.2.1 = .int ∧ y.2.2.2.2.2 = false) (hl : y.2.2.2.1 < 7) (hv : [Value.ref (i + 1), .ref (i + 2), .ref (i + 3), .ref (i + 4), .int (nI c), .int (nI t), .int (nI j)].set y.2.2.2.1 (.int (nI v)) = [.ref (i + 1), .ref (i + 2), .ref (i + 3), .ref (i + 4), .int (nI c'), .int (nI t'), .int (nI j')]) (k : Ev d m np L T (lh h i K S G C c' t' j') Q) : Ev d m pc L (.int (nI v) :: .ref i :: T) (lh h i K S G C c t j) Q := by
  refine ev_pf hc hy (fs := [.ref (i + 1), .ref (i + 2), .ref (i + 3), .ref (i + 4), .int (nI c), .int (nI t), .int (nI j)]) (by rw [lh_0 hi.1, h3.1]; rfl) hl (by rw [h3.2.1]; rfl) (by rw [h3.2.1]; rfl) h3.2.2 ?_ (by have := hi.1; have := hi.2; omega)
  rw [hv, h3.1]
  have e : (lh h i K S G C c t j).set i (lo i c' t' j') = lh h i K S G C c' t' j' := lh_s0 hi.1
  unfold lo at e
  rw [e]
  exact k
theorem ev_lK (hi : lI h i) (hc : am_cd m pc = some (.iaload, np, r)) (hp : p < K.length ∧ p < 2147483648) (k : Ev d m np L (.int (nI (K.getD p 0)) :: T) (lh h i K S G C c t j) Q) : Ev d m pc L (.int (nI p) :: .ref (i + 1) :: T) (lh h i K S G C c t j) Q :=
  ev_ia hc (am_arr_h (by have := hi.1; have := hi.2; omega) (lh_1 hi.1)) (mg hp.1) k hp.2
theorem ev_lS (hi : lI h i) (hc : am_cd m pc = some (.iaload, np, r)) (hp : p < S.length ∧ p < 2147483648) (k : Ev d m np L (.int (nI (S.getD p 0)) :: T) (lh h i K S G C c t j) Q) : Ev d m pc L (.int (nI p) :: .ref (i + 2) :: T) (lh h i K S G C c t j) Q :=
  ev_ia hc (am_arr_h (by have := hi.1; have := hi.2; omega) (lh_2 hi.1)) (mg hp.1) k hp.2
theorem ev_lG (hi : lI h i) (hc : am_cd m pc = some (.iaload, np, r)) (hp : p < G.length ∧ p < 2147483648) (k : Ev d m np L (.int (nI (G.getD p 0)) :: T) (lh h i K S G C c t j) Q) : Ev d m pc L (.int (nI p) :: .ref (i + 3) :: T) (lh h i K S G C c t j) Q :=
  ev_ia hc (am_arr_h (by have := hi.1; have := hi.2; omega) (lh_3 hi.1)) (mg hp.1) k hp.2
theorem ev_lC (hi : lI h i) (hc : am_cd m pc = some (.iaload, np, r)) (hp : p < C.length ∧ p < 2147483648) (k : Ev d m np L (.int (nI (C.getD p 0)) :: T) (lh h i K S G C c t j) Q) : Ev d m pc L (.int (nI p) :: .ref (i + 4) :: T) (lh h i K S G C c t j) Q :=
  ev_ia hc (am_arr_h (by have := hi.1; have := hi.2; omega) (lh_4 hi.1)) (mg hp.1) k hp.2
theorem ev_sK (hi : lI h i) (hc : am_cd m pc = some (.iastore, np, r)) (hp : p < K.length ∧ p < 2147483648) (k : Ev d m np L T (lh h i (K.set p v) S G C c t j) Q) : Ev d m pc L (.int (nI v) :: .int (nI p) :: .ref (i + 1) :: T) (lh h i K S G C c t j) Q := by
  refine ev_is hc (lh_1 hi.1) (by simpa using hp.1) ?_ hp.2 (by have := hi.1; have := hi.2; omega)
  rw [ms_]
  exact (lh_s1 hi.1 (K' := K.set p v)) ▸ k
theorem ev_sS (hi : lI h i) (hc : am_cd m pc = some (.iastore, np, r)) (hp : p < S.length ∧ p < 2147483648) (k : Ev d m np L T (lh h i K (S.set p v) G C c t j) Q) : Ev d m pc L (.int (nI v) :: .int (nI p) :: .ref (i + 2) :: T) (lh h i K S G C c t j) Q := by
  refine ev_is hc (lh_2 hi.1) (by simpa using hp.1) ?_ hp.2 (by have := hi.1; have := hi.2; omega)
  rw [ms_]
  exact (lh_s2 hi.1 (S' := S.set p v)) ▸ k
theorem ev_sG (hi : lI h i) (hc : am_cd m pc = some (.iastore, np, r)) (hp : p < G.length ∧ p < 2147483648) (k : Ev d m np L T (lh h i K S (G.set p v) C c t j) Q) : Ev d m pc L (.int (nI v) :: .int (nI p) :: .ref (i + 3) :: T) (lh h i K S G C c t j) Q := by
  refine ev_is hc (lh_3 hi.1) (by simpa using hp.1) ?_ hp.2 (by have := hi.1; have := hi.2; omega)
  rw [ms_]
  exact (lh_s3 hi.1 (G' := G.set p v)) ▸ k
theorem ev_sC (hi : lI h i) (hc : am_cd m pc = some (.iastore, np, r)) (hp : p < C.length ∧ p < 2147483648) (k : Ev d m np L T (lh h i K S G (C.set p v) c t j) Q) : Ev d m pc L (.int (nI v) :: .int (nI p) :: .ref (i + 4) :: T) (lh h i K S G C c t j) Q := by
  refine ev_is hc (lh_4 hi.1) (by simpa using hp.1) ?_ hp.2 (by have := hi.1; have := hi.2; omega)
  rw [ms_]
  exact (lh_s4 hi.1 (C' := C.set p v)) ▸ k
end LH
end
section
/-! numbers -/
theorem sh31 : ∀ p : Fin 32, ((nI p.val &&& 31).toBitVec.smod 32).toNat = p.val := by decide +kernel
theorem n_shr {c p : Nat} (hc : c < 2147483648) (hp : p < 32) : nI c >>> (nI p &&& 31) = nI (c / 2 ^ p) := pk_shrN hc _ p (sh31 ⟨p, hp⟩)
theorem n_shl {c p : Nat} (hp : p < 32) (hc : c * 2 ^ p < 4294967296) : nI c <<< (nI p &&& 31) = nI (c * 2 ^ p) := pk_shlN _ p (sh31 ⟨p, hp⟩) hc
theorem n_and1 {c : Nat} (hc : c < 4294967296) : nI c &&& nI 1 = nI (c % 2) := pk_andN hc 1 rfl
theorem n_and (a b : Nat) : nI a &&& nI b = nI (a &&& b) := by
  apply Int32.toBitVec_inj.mp
  show BitVec.ofNat 32 a &&& BitVec.ofNat 32 b = BitVec.ofNat 32 (a &&& b)
  exact (BitVec.ofNat_and).symm
theorem n_or (a b : Nat) : nI a ||| nI b = nI (a ||| b) := by
  apply Int32.toBitVec_inj.mp
  show BitVec.ofNat 32 a ||| BitVec.ofNat 32 b = BitVec.ofNat 32 (a ||| b)
  exact (BitVec.ofNat_or).symm
theorem n_xor (a b : Nat) : nI a ^^^ nI b = nI (a ^^^ b) := by
  apply Int32.toBitVec_inj.mp
  show BitVec.ofNat 32 a ^^^ BitVec.ofNat 32 b = BitVec.ofNat 32 (a ^^^ b)
  exact (BitVec.ofNat_xor).symm
def bt (c p : Nat) : Nat := c / 2 ^ p % 2
theorem bt_lt (c p : Nat) : bt c p < 2 := Nat.mod_lt _ (by decide)
def oth (w : Nat) : Nat := if w = 0 then 0 else 3 - w
theorem e_otherWay (w : Nat) (hw : w ≤ 3) (h : aH) : Ec 0 m_X3_otherWay [.int (nI w)] h (rt (.int (nI (oth w))) h) := by
  refine ec_in [some (.int (nI w))] rfl rfl ?_
  iterate 2 refine ev_nx rfl ?_
  refine ev_ne0 (fun hc => ?_) (fun hc => ?_)
  · iterate 3 refine ev_nx rfl ?_
    rw [pk_sub (by omega)]
    exact ev_ri rfl rfl rfl ⟨by rw [oth, if_neg hc], rfl⟩
  · iterate 2 refine ev_nx rfl ?_
    exact ev_ri rfl rfl rfl ⟨by rw [oth, if_pos hc], rfl⟩
theorem e_bitAt (c p : Nat) (hc : c < 2147483648) (hp : p < 32) (h : aH) : Ec 0 m_X8_bitAt [.int (nI c), .int (nI p)] h (rt (.int (nI (bt c p))) h) := by
  refine ec_in [some (.int (nI c)), some (.int (nI p))] rfl rfl ?_
  iterate 5 refine ev_nx rfl ?_
  rw [n_shr hc hp, n_and1 (Nat.lt_of_le_of_lt (Nat.div_le_self _ _) (by omega))]
  exact ev_ri rfl rfl rfl ⟨rfl, rfl⟩
/-- 1 if it is within -/
def wi (x a b : Int32) : Nat := if a ≤ x ∧ x ≤ b then 1 else 0
theorem e_within (x a b : Int32) (h : aH) : Ec 0 m_X8_within [.int x, .int a, .int b] h (rt (.int (nI (wi x a b))) h) := by
  refine ec_in [some (.int x), some (.int a), some (.int b)] rfl rfl ?_
  iterate 3 refine ev_nx rfl ?_
  refine ev_c (P := x < a) (by simp [am_c2]) (fun hc => ?_) (fun hc => ?_)
  · refine ev_nx rfl ?_
    exact ev_ri rfl rfl rfl ⟨by rw [wi, if_neg (fun q => Int32.not_le.mpr hc q.1)], rfl⟩
  · iterate 3 refine ev_nx rfl ?_
    refine ev_c (P := b < x) (by simp [am_c2]) (fun hd => ?_) (fun hd => ?_)
    · refine ev_nx rfl ?_
      exact ev_ri rfl rfl rfl ⟨by rw [wi, if_neg (fun q => Int32.not_le.mpr hd q.2)], rfl⟩
    · iterate 2 refine ev_nx rfl ?_
      exact ev_ri rfl rfl rfl ⟨by rw [wi, if_pos ⟨Int32.not_lt.mp hc, Int32.not_lt.mp hd⟩], rfl⟩
theorem wi_lt (x a b : Int32) : wi x a b < 2 := by unfold wi; split <;> omega
/-- within 0 and n -/
theorem wi_0 {x : Int32} {n : Nat} (hn : n < 2147483648) : (wi x (nI 0) (nI n) = 1 ∧ ∃ j, j ≤ n ∧ x = nI j) ∨ (wi x (nI 0) (nI n) = 0 ∧ ∀ j, j ≤ n → x ≠ nI j) := by
  unfold wi
  by_cases h : nI 0 ≤ x ∧ x ≤ nI n
  · rw [if_pos h]
    left
    refine ⟨rfl, ?_⟩
    obtain ⟨j, h1, h2⟩ := nI_of2 (x := x) (M := nI n) (n := n) (nI_toInt hn) (Int32.not_lt.mpr h.1) h.2
    exact ⟨j, h1, h2⟩
  · rw [if_neg h]
    right
    refine ⟨rfl, fun j hj e => h ?_⟩
    subst e
    exact ⟨nI_le (Nat.zero_le _) (by omega), nI_le hj hn⟩
theorem e_isPlace (x : Int32) (h : aH) : Ec 1 m_X8_isPlace [.int x] h (rt (.int (nI (wi x (nI 0) (nI 4)))) h) := by
  refine ec_in [some (.int x)] rfl rfl ?_
  iterate 3 refine ev_nx rfl ?_
  refine ev_ci rfl rfl (e_within x (nI 0) (nI 4) h) ?_
  refine ev_ri rfl rfl ?_ ⟨rfl, rfl⟩
  rcases (show wi x (nI 0) (nI 4) = 0 ∨ wi x (nI 0) (nI 4) = 1 by have := wi_lt x (nI 0) (nI 4); omega) with e | e <;> rw [e] <;> rfl
theorem e_isBeats (x : Int32) (h : aH) : Ec 1 m_X8_isBeats [.int x] h (rt (.int (nI (wi x (nI 1) (nI 3)))) h) := by
  refine ec_in [some (.int x)] rfl rfl ?_
  iterate 3 refine ev_nx rfl ?_
  refine ev_ci rfl rfl (e_within x (nI 1) (nI 3) h) ?_
  refine ev_ri rfl rfl ?_ ⟨rfl, rfl⟩
  rcases (show wi x (nI 1) (nI 3) = 0 ∨ wi x (nI 1) (nI 3) = 1 by have := wi_lt x (nI 1) (nI 3); omega) with e | e <;> rw [e] <;> rfl
/-! a needle's standing -/
def stf (g o : Nat) : Nat := if g = o then g else 0
def stn (k g a o s : Nat) : Nat := match k with
  | 1 => stf g o
  | 2 => if g = 0 then o else g
  | 3 => if g = 0 then a else g
  | 4 => oth (stf g o)
  | 5 => if g = 0 then s else g
  | _ => g
theorem e_standing (k g a o s : Nat) (hk : k < 6) (hg : g < 3) (ha : a < 3) (ho : o < 3) (hs : s < 3) (h : aH) : Ec 1 m_X3_standing [.int (nI k), .int (nI g), .int (nI a), .int (nI o), .int (nI s)] h (rt (.int (nI (stn k g a o s))) h) := by
  refine ec_in [some (.int (nI k)), some (.int (nI g)), some (.int (nI a)), some (.int (nI o)), some (.int (nI s)), none] rfl rfl ?_
  have H : Ev 1 m_X3_standing 12 [some (.int (nI k)), some (.int (nI g)), some (.int (nI a)), some (.int (nI o)), some (.int (nI s)), some (.int (nI (stf g o)))] [] h (rt (.int (nI (stn k g a o s))) h) := by
    refine ev_nx rfl ?_
    rcases (show k = 0 ∨ k = 1 ∨ k = 2 ∨ k = 3 ∨ k = 4 ∨ k = 5 by omega) with rfl | rfl | rfl | rfl | rfl | rfl
    · refine ev_nx (pc' := 88) rfl ?_
      refine ev_nx rfl ?_
      exact ev_ri rfl rfl rfl ⟨rfl, rfl⟩
    · refine ev_nx (pc' := 48) rfl ?_
      refine ev_nx rfl ?_
      exact ev_ri rfl rfl rfl ⟨rfl, rfl⟩
    · refine ev_nx (pc' := 51) rfl ?_
      iterate 2 refine ev_nx rfl ?_
      refine ev_ne0 (fun hc => ?_) (fun hc => ?_)
      · refine ev_nx rfl ?_
        exact ev_ri rfl rfl rfl ⟨by simp [stn, hc], rfl⟩
      · iterate 2 refine ev_nx rfl ?_
        exact ev_ri rfl rfl rfl ⟨by simp [stn, hc], rfl⟩
    · refine ev_nx (pc' := 61) rfl ?_
      iterate 2 refine ev_nx rfl ?_
      refine ev_ne0 (fun hc => ?_) (fun hc => ?_)
      · refine ev_nx rfl ?_
        exact ev_ri rfl rfl rfl ⟨by simp [stn, hc], rfl⟩
      · iterate 2 refine ev_nx rfl ?_
        exact ev_ri rfl rfl rfl ⟨by simp [stn, hc], rfl⟩
    · refine ev_nx (pc' := 71) rfl ?_
      refine ev_nx rfl ?_
      refine ev_ci rfl rfl (e_otherWay (stf g o) (by unfold stf; split <;> omega) h) ?_
      exact ev_ri rfl rfl rfl ⟨rfl, rfl⟩
    · refine ev_nx (pc' := 77) rfl ?_
      iterate 2 refine ev_nx rfl ?_
      refine ev_ne0 (fun hc => ?_) (fun hc => ?_)
      · refine ev_nx rfl ?_
        exact ev_ri rfl rfl rfl ⟨by simp [stn, hc], rfl⟩
      · iterate 2 refine ev_nx rfl ?_
        exact ev_ri rfl rfl rfl ⟨by simp [stn, hc], rfl⟩
  iterate 3 refine ev_nx rfl ?_
  refine ev_ne (fun hc => ?_) (fun hc => ?_)
  · iterate 2 refine ev_nx rfl ?_
    rw [stf, if_neg hc] at H
    exact H
  · iterate 3 refine ev_nx rfl ?_
    rw [stf, if_pos hc] at H
    exact H
theorem oth_lt {w : Nat} (h : w < 3) : oth w < 3 := by unfold oth; split <;> omega
theorem stf_lt {g o : Nat} (h : g < 3) : stf g o < 3 := by unfold stf; split <;> omega
theorem stn_lt {k g a o s : Nat} (hg : g < 3) (ha : a < 3) (ho : o < 3) (hs : s < 3) : stn k g a o s < 3 := by
  unfold stn
  split <;> first | exact stf_lt hg | exact oth_lt (stf_lt hg) | (split <;> assumption) | assumption
end
section
/-! the methods of a line -/
section LM
variable {h : aH} {i : Nat} {K S G C : List Nat} {c t j : Nat} {d : Nat} {Q : Option Value → aH → Prop}
theorem l5 {α : Type} {K : List α} (h : K.length = 5) : ∃ a b c d e, K = [a, b, c, d, e] := by
  match K, h with
  | [a, b, c, d, e], _ => exact ⟨a, b, c, d, e, rfl⟩
def ahd (C : List Nat) (p : Nat) : Nat := if p = 0 then 0 else C.getD (p - 1) 0
theorem e_aheadOf (hi : lI h i) (hC : C.length = 5) {p : Nat} (hp : p < 5) : Ec 0 m_X3_aheadOf [.ref i, .int (nI p)] (lh h i K S G C c t j) (rt (.int (nI (ahd C p))) (lh h i K S G C c t j)) := by
  refine ec_in [some (.ref i), some (.int (nI p))] rfl rfl ?_
  iterate 2 refine ev_nx rfl ?_
  refine ev_ne0 (fun hc => ?_) (fun hc => ?_)
  · refine ev_nx rfl ?_
    refine ev_lf hi rfl rfl rfl rfl ?_
    iterate 3 refine ev_nx rfl ?_
    rw [pk_sub (by omega)]
    refine ev_lC hi rfl (by omega) ?_
    exact ev_ri rfl rfl rfl ⟨by rw [ahd, if_neg hc], rfl⟩
  · iterate 2 refine ev_nx rfl ?_
    exact ev_ri rfl rfl rfl ⟨by rw [ahd, if_pos hc], rfl⟩
/-! rest -/
theorem it_rest (hi : lI h i) (hS : S.length = 5) (hG : G.length = 5) {p : Nat} (hp : p < 5) (k : Ev d m_X3_rest 2 [some (.ref i), some (.int (nI (p + 1)))] [] (lh h i K (S.set p 0) (G.set p 0) C c t j) Q) : Ev d m_X3_rest 2 [some (.ref i), some (.int (nI p))] [] (lh h i K S G C c t j) Q := by
  iterate 3 refine ev_nx rfl ?_
  refine ev_ge (fun h => absurd h (by omega)) (fun _ => ?_)
  refine ev_nx rfl ?_
  refine ev_lf hi rfl rfl rfl rfl ?_
  iterate 2 refine ev_nx rfl ?_
  first | refine ev_sK hi rfl (by omega) ?_ | refine ev_sS hi rfl (by omega) ?_ | refine ev_sG hi rfl (by omega) ?_ | refine ev_sC hi rfl (by omega) ?_
  refine ev_nx rfl ?_
  refine ev_lf hi rfl rfl rfl rfl ?_
  iterate 2 refine ev_nx rfl ?_
  first | refine ev_sK hi rfl (by omega) ?_ | refine ev_sS hi rfl (by omega) ?_ | refine ev_sG hi rfl (by omega) ?_ | refine ev_sC hi rfl (by omega) ?_
  iterate 2 refine ev_nx rfl ?_
  rw [nI_add]
  exact k
theorem e_rest (hi : lI h i) (hS : S.length = 5) (hG : G.length = 5) : Ec d m_X3_rest [.ref i] (lh h i K S G C c t j) (rtv (lh h i K [0, 0, 0, 0, 0] [0, 0, 0, 0, 0] C c t j)) := by
  obtain ⟨a0, a1, a2, a3, a4, rfl⟩ := l5 hS
  obtain ⟨b0, b1, b2, b3, b4, rfl⟩ := l5 hG
  refine ec_in [some (.ref i), none] rfl rfl ?_
  iterate 2 refine ev_nx rfl ?_
  refine it_rest hi rfl rfl (p := 0) (by decide) (it_rest hi rfl rfl (by decide) (it_rest hi rfl rfl (by decide) (it_rest hi rfl rfl (by decide) (it_rest hi rfl rfl (by decide) ?_))))
  iterate 3 refine ev_nx rfl ?_
  refine ev_ge (fun _ => ?_) (fun h => absurd h (by decide))
  exact ev_rt rfl ⟨rfl, rfl⟩
/-! makeWhole -/
theorem it_makeWhole (hi : lI h i) (hK : K.length = 5) {p : Nat} (hp : p < 5) (k : Ev d m_X3_makeWhole 2 [some (.ref i), some (.int (nI (p + 1)))] [] (lh h i (K.set p 0) S G C c t j) Q) : Ev d m_X3_makeWhole 2 [some (.ref i), some (.int (nI p))] [] (lh h i K S G C c t j) Q := by
  iterate 3 refine ev_nx rfl ?_
  refine ev_ge (fun h => absurd h (by omega)) (fun _ => ?_)
  refine ev_nx rfl ?_
  refine ev_lf hi rfl rfl rfl rfl ?_
  iterate 2 refine ev_nx rfl ?_
  first | refine ev_sK hi rfl (by omega) ?_ | refine ev_sS hi rfl (by omega) ?_ | refine ev_sG hi rfl (by omega) ?_ | refine ev_sC hi rfl (by omega) ?_
  iterate 2 refine ev_nx rfl ?_
  rw [nI_add]
  exact k
theorem e_makeWhole (hi : lI h i) (hK : K.length = 5) : Ec d m_X3_makeWhole [.ref i] (lh h i K S G C c t j) (rtv (lh h i [0, 0, 0, 0, 0] S G C 0 0 0)) := by
  obtain ⟨a0, a1, a2, a3, a4, rfl⟩ := l5 hK
  refine ec_in [some (.ref i), none] rfl rfl ?_
  iterate 2 refine ev_nx rfl ?_
  refine it_makeWhole hi rfl (p := 0) (by decide) (it_makeWhole hi rfl (by decide) (it_makeWhole hi rfl (by decide) (it_makeWhole hi rfl (by decide) (it_makeWhole hi rfl (by decide) ?_))))
  iterate 3 refine ev_nx rfl ?_
  refine ev_ge (fun _ => ?_) (fun h => absurd h (by decide))
  iterate 2 refine ev_nx rfl ?_
  refine ev_lp (c' := 0) (t' := t) (j' := j) hi rfl rfl (by decide) (by decide) rfl ?_
  iterate 2 refine ev_nx rfl ?_
  refine ev_lp (c' := 0) (t' := 0) (j' := j) hi rfl rfl (by decide) (by decide) rfl ?_
  iterate 2 refine ev_nx rfl ?_
  refine ev_lp (c' := 0) (t' := 0) (j' := 0) hi rfl rfl (by decide) (by decide) rfl ?_
  exact ev_rt rfl ⟨rfl, rfl⟩
/-! notUpright -/
def nu1 (s : Nat) : Nat := if s = 0 then 0 else 1
theorem it_notUpright (hi : lI h i) (hS : S.length = 5) (hS3 : ∀ s ∈ S, s < 3) {p n : Nat} (hp : p < 5) (hn : n ≤ p) (k : Ev d m_X3_notUpright 4 [some (.ref i), some (.int (nI (n + nu1 (S.getD p 0)))), some (.int (nI (p + 1)))] [] (lh h i K S G C c t j) Q) : Ev d m_X3_notUpright 4 [some (.ref i), some (.int (nI n)), some (.int (nI p))] [] (lh h i K S G C c t j) Q := by
  have hs : S.getD p 0 < 3 := hS3 _ (by rw [List.getD, List.getElem?_eq_getElem (by omega)]; exact List.getElem_mem _)
  iterate 3 refine ev_nx rfl ?_
  refine ev_ge (fun h => absurd h (by omega)) (fun _ => ?_)
  iterate 2 refine ev_nx rfl ?_
  refine ev_lf hi rfl rfl rfl rfl ?_
  refine ev_nx rfl ?_
  first | refine ev_lK hi rfl (by omega) ?_ | refine ev_lS hi rfl (by omega) ?_ | refine ev_lG hi rfl (by omega) ?_ | refine ev_lC hi rfl (by omega) ?_
  refine ev_nx rfl ?_
  refine ev_ne0 (fun hc => ?_) (fun hc => ?_)
  · iterate 5 refine ev_nx rfl ?_
    rw [nI_add, nI_add]
    rw [nu1, if_neg hc] at k
    exact k
  · iterate 6 refine ev_nx rfl ?_
    rw [nI_add, nI_add]
    rw [nu1, if_pos hc] at k
    exact k
def nuz (S : List Nat) : Nat := nu1 (S.getD 0 0) + nu1 (S.getD 1 0) + nu1 (S.getD 2 0) + nu1 (S.getD 3 0) + nu1 (S.getD 4 0)
theorem nu1_le (s : Nat) : nu1 s ≤ 1 := by unfold nu1; split <;> omega
theorem e_notUpright (hi : lI h i) (hS : S.length = 5) (hS3 : ∀ s ∈ S, s < 3) : Ec d m_X3_notUpright [.ref i] (lh h i K S G C c t j) (rt (.int (nI (nuz S))) (lh h i K S G C c t j)) := by
  have b0 := nu1_le (S.getD 0 0)
  have b1 := nu1_le (S.getD 1 0)
  have b2 := nu1_le (S.getD 2 0)
  have b3 := nu1_le (S.getD 3 0)
  refine ec_in [some (.ref i), none, none] rfl rfl ?_
  iterate 4 refine ev_nx rfl ?_
  refine it_notUpright hi hS hS3 (p := 0) (by decide) (Nat.le_refl 0) ?_
  refine it_notUpright hi hS hS3 (p := 1) (by decide) (by omega) ?_
  refine it_notUpright hi hS hS3 (p := 2) (by decide) (by omega) ?_
  refine it_notUpright hi hS hS3 (p := 3) (by decide) (by omega) ?_
  refine it_notUpright hi hS hS3 (p := 4) (by decide) (by omega) ?_
  iterate 3 refine ev_nx rfl ?_
  refine ev_ge (fun _ => ?_) (fun h => absurd h (by decide))
  refine ev_nx rfl ?_
  exact ev_ri rfl rfl rfl ⟨by simp [nuz], rfl⟩
/-! mendableWires, mendAll -/
def mdw (c t j : Nat) : Nat := c ||| t ||| j ||| j * 2
theorem e_mendableWires (hi : lI h i) (hj : j < 32) : Ec d m_X3_mendableWires [.ref i] (lh h i K S G C c t j) (rt (.int (nI (mdw c t j))) (lh h i K S G C c t j)) := by
  refine ec_in [some (.ref i)] rfl rfl ?_
  refine ev_nx rfl ?_
  refine ev_lf hi rfl rfl rfl rfl ?_
  refine ev_nx rfl ?_
  refine ev_lf hi rfl rfl rfl rfl ?_
  iterate 2 refine ev_nx rfl ?_
  refine ev_lf hi rfl rfl rfl rfl ?_
  iterate 2 refine ev_nx rfl ?_
  refine ev_lf hi rfl rfl rfl rfl ?_
  iterate 3 refine ev_nx rfl ?_
  rw [n_shl (by decide) (by omega), n_or, n_or, n_or]
  exact ev_ri rfl rfl rfl ⟨rfl, rfl⟩
def clr (c w : Nat) : Nat := c &&& (31 ^^^ w)
theorem clr_n : ∀ c w : Fin 32, nI c.val &&& (nI w.val ^^^ -(nI 1)) = nI (clr c.val w.val) := by decide +kernel
theorem clr_lt {c w : Nat} : clr c w ≤ c := Nat.and_le_left
def mdj (w : Nat) : Nat := w ||| w / 2
theorem mdj_n : ∀ w : Fin 32, nI w.val ||| nI w.val >>> (nI 1 &&& 31) = nI (mdj w.val) ∧ mdj w.val < 32 := by decide +kernel
theorem e_mendAll (hi : lI h i) (hc : c < 32) (ht : t < 32) (hj : j < 32) {w : Nat} (hw : w < 32) : Ec d m_X3_mendAll [.ref i, .int (nI w)] (lh h i K S G C c t j) (rtv (lh h i K S G C (clr c w) (clr t w) (clr j (mdj w)))) := by
  have e1 := clr_n ⟨c, hc⟩ ⟨w, hw⟩
  have e2 := clr_n ⟨t, ht⟩ ⟨w, hw⟩
  obtain ⟨e3, e4⟩ := mdj_n ⟨w, hw⟩
  have e5 := clr_n ⟨j, hj⟩ ⟨mdj w, e4⟩
  simp only at e1 e2 e3 e5
  refine ec_in [some (.ref i), some (.int (nI w))] rfl rfl ?_
  iterate 2 refine ev_nx rfl ?_
  refine ev_lf hi rfl rfl rfl rfl ?_
  iterate 4 refine ev_nx rfl ?_
  rw [e1]
  refine ev_lp (c' := clr c w) (t' := t) (j' := j) hi rfl rfl (by decide) (by decide) rfl ?_
  iterate 2 refine ev_nx rfl ?_
  refine ev_lf hi rfl rfl rfl rfl ?_
  iterate 4 refine ev_nx rfl ?_
  rw [e2]
  refine ev_lp (c' := clr c w) (t' := clr t w) (j' := j) hi rfl rfl (by decide) (by decide) rfl ?_
  iterate 2 refine ev_nx rfl ?_
  refine ev_lf hi rfl rfl rfl rfl ?_
  iterate 8 refine ev_nx rfl ?_
  rw [e3, e5]
  refine ev_lp (c' := clr c w) (t' := clr t w) (j' := clr j (mdj w)) hi rfl rfl (by decide) (by decide) rfl ?_
  exact ev_rt rfl ⟨rfl, rfl⟩
/-! swapNeedles -/
def swp (R : List Nat) (p q : Nat) : List Nat := (R.set p (R.getD q 0)).set q (R.getD p 0)
theorem e_swapIn {R : List Nat} {a p q : Nat} (ha : a < 100000) (hh : h[a]? = some (ar R)) (hp : p < R.length) (hq : q < R.length) (hR : R.length ≤ 1000) : Ec d m_X3_swapIn [.ref a, .int (nI p), .int (nI q)] h (rtv (h.set a (ar (swp R p q)))) := by
  have hl : a < h.length := (List.getElem?_eq_some_iff.mp hh).1
  refine ec_in [some (.ref a), some (.int (nI p)), some (.int (nI q)), none] rfl rfl ?_
  iterate 2 refine ev_nx rfl ?_
  refine ev_ia rfl (am_arr_h ha hh) (mg hp) ?_
  iterate 5 refine ev_nx rfl ?_
  refine ev_ia rfl (am_arr_h ha hh) (mg hq) ?_
  refine ev_is rfl hh (by simpa using hp) ?_
  iterate 3 refine ev_nx rfl ?_
  refine ev_is rfl (List.getElem?_set_self hl) (by simpa using hq) ?_
  rw [List.set_set, ms_, ms_]
  exact ev_rt rfl ⟨rfl, rfl⟩
theorem swp_len {R : List Nat} {p q : Nat} : (swp R p q).length = R.length := by simp [swp]
theorem e_swapNeedles (hi : lI h i) (hK : K.length = 5) (hS : S.length = 5) (hG : G.length = 5) {p q : Nat} (hp : p < 5) (hq : q < 5) : Ec (d + 1) m_X3_swapNeedles [.ref i, .int (nI p), .int (nI q)] (lh h i K S G C c t j) (rtv (lh h i (swp K p q) (swp S p q) (swp G p q) C c t j)) := by
  have h1 := hi.1
  have h2 := hi.2
  refine ec_in [some (.ref i), some (.int (nI p)), some (.int (nI q))] rfl rfl ?_
  refine ev_nx rfl ?_
  refine ev_lf hi rfl rfl rfl rfl ?_
  iterate 2 refine ev_nx rfl ?_
  refine ev_cv rfl rfl (e_swapIn (by omega) (lh_1 hi.1) (by omega) (by omega) (by omega)) ?_
  rw [lh_s1 hi.1]
  refine ev_nx rfl ?_
  refine ev_lf hi rfl rfl rfl rfl ?_
  iterate 2 refine ev_nx rfl ?_
  refine ev_cv rfl rfl (e_swapIn (by omega) (lh_2 hi.1) (by omega) (by omega) (by omega)) ?_
  rw [lh_s2 hi.1]
  refine ev_nx rfl ?_
  refine ev_lf hi rfl rfl rfl rfl ?_
  iterate 2 refine ev_nx rfl ?_
  refine ev_cv rfl rfl (e_swapIn (by omega) (lh_3 hi.1) (by omega) (by omega) (by omega)) ?_
  rw [lh_s3 hi.1]
  exact ev_rt rfl ⟨rfl, rfl⟩
end LM
end
section
/-! what is read -/
section LR
variable {h : aH} {i : Nat} {K S G C : List Nat} {c t j : Nat} {d : Nat} {Q : Option Value → aH → Prop}
theorem gd3 {S : List Nat} {n p : Nat} (hS : ∀ s ∈ S, s < n) (hp : p < S.length) : S.getD p 0 < n := hS _ (by rw [List.getD, List.getElem?_eq_getElem hp]; exact List.getElem_mem _)
def lbT : List Nat := [31, 6, 3, 1, 0, 10, 31, 7, 4, 2, 14, 11, 31, 8, 5, 17, 15, 12, 31, 9, 19, 18, 16, 13, 31]
theorem t1_at {x : Nat} (hx : x < 25) : am_t1[x]? = some (nI (lbT.getD x 0)) := (show ∀ x : Fin 25, am_t1[x.val]? = some (nI (lbT.getD x.val 0)) by decide +kernel) ⟨x, hx⟩
def rdA (r l ra la : Nat) : Nat := if 1 < r ∨ 1 < l then 31 else if r = 1 then (if l = 1 then lbT.getD (ra * 5 + la) 0 else 20 + ra) else if l = 1 then 25 + la else 30
theorem it_readSign (hi : lI h i) (hS : S.length = 5) (hS3 : ∀ s ∈ S, s < 3) {p r l ra la : Nat} (hp : p < 5) (k : Ev d m_X3_readSign 12 [some (.ref i), some (.int (nI (if S.getD p 0 = 1 then r + 1 else r))), some (.int (nI (if S.getD p 0 = 2 then l + 1 else l))), some (.int (nI (if S.getD p 0 = 1 then p else ra))), some (.int (nI (if S.getD p 0 = 2 then p else la))), some (.int (nI (p + 1)))] [] (lh h i K S G C c t j) Q) : Ev d m_X3_readSign 12 [some (.ref i), some (.int (nI r)), some (.int (nI l)), some (.int (nI ra)), some (.int (nI la)), some (.int (nI p))] [] (lh h i K S G C c t j) Q := by
  have hs : S.getD p 0 < 3 := gd3 hS3 (by omega)
  iterate 3 refine ev_nx rfl ?_
  refine ev_ge (fun h => absurd h (by omega)) (fun _ => ?_)
  refine ev_nx rfl ?_
  refine ev_lf hi rfl rfl rfl rfl ?_
  refine ev_nx rfl ?_
  first | refine ev_lK hi rfl (by omega) ?_ | refine ev_lS hi rfl (by omega) ?_ | refine ev_lG hi rfl (by omega) ?_ | refine ev_lC hi rfl (by omega) ?_
  refine ev_nx rfl ?_
  refine ev_nx rfl ?_
  refine ev_ne (fun hc => ?_) (fun hc => ?_)
  · refine ev_nx rfl ?_
    refine ev_lf hi rfl rfl rfl rfl ?_
    refine ev_nx rfl ?_
    first | refine ev_lK hi rfl (by omega) ?_ | refine ev_lS hi rfl (by omega) ?_ | refine ev_lG hi rfl (by omega) ?_ | refine ev_lC hi rfl (by omega) ?_
    refine ev_nx rfl ?_
    refine ev_nx rfl ?_
    simp only [if_neg hc] at k
    refine ev_ne (fun hc2 => ?_) (fun hc2 => ?_)
    · iterate 2 refine ev_nx rfl ?_
      simp only [if_neg hc2] at k
      rw [nI_add]
      exact k
    · iterate 5 refine ev_nx rfl ?_
      simp only [if_pos hc2] at k
      rw [nI_add, nI_add]
      exact k
  · iterate 6 refine ev_nx rfl ?_
    have hc2 : ¬ S.getD p 0 = 2 := by omega
    simp only [if_pos hc, if_neg hc2] at k
    rw [nI_add, nI_add]
    exact k
theorem x_readSign {r l ra la : Nat} {L : aL} (hr : r < 10) (hl : l < 10) (hra : ra < 5) (hla : la < 5) (hL : L = [some (.ref i), some (.int (nI r)), some (.int (nI l)), some (.int (nI ra)), some (.int (nI la)), some (.int (nI 5))]) : Ev d m_X3_readSign 62 L [] h (rt (.int (nI (rdA r l ra la))) h) := by
  subst hL
  unfold rdA
  iterate 3 refine ev_nx rfl ?_
  refine ev_gt (fun hc => ?_) (fun hc => ?_)
  · rw [if_pos (Or.inl hc)]
    refine ev_nx rfl ?_
    exact ev_ri rfl rfl rfl ⟨rfl, rfl⟩
  · iterate 3 refine ev_nx rfl ?_
    refine ev_leq (fun hc2 => ?_) (fun hc2 => ?_)
    · rw [if_neg (by omega)]
      iterate 3 refine ev_nx rfl ?_
      refine ev_ne (fun hr1 => ?_) (fun hr1 => ?_)
      · rw [if_neg hr1]
        iterate 3 refine ev_nx rfl ?_
        refine ev_ne (fun hl1 => ?_) (fun hl1 => ?_)
        · rw [if_neg hl1]
          refine ev_nx rfl ?_
          exact ev_ri rfl rfl rfl ⟨rfl, rfl⟩
        · rw [if_pos hl1]
          iterate 4 refine ev_nx rfl ?_
          rw [nI_add]
          exact ev_ri rfl rfl rfl ⟨rfl, rfl⟩
      · rw [if_pos hr1]
        iterate 3 refine ev_nx rfl ?_
        refine ev_ne (fun hl1 => ?_) (fun hl1 => ?_)
        · rw [if_neg hl1]
          iterate 3 refine ev_nx rfl ?_
          rw [nI_add]
          exact ev_ri rfl rfl rfl ⟨rfl, rfl⟩
        · rw [if_pos hl1]
          iterate 6 refine ev_nx rfl ?_
          rw [pk_mul, nI_add]
          refine ev_ia (a := 100001) rfl rfl (t1_at (by omega)) ?_
          refine ev_nx rfl ?_
          exact ev_ri rfl rfl rfl ⟨rfl, rfl⟩
    · rw [if_pos (Or.inr hc2)]
      refine ev_nx rfl ?_
      exact ev_ri rfl rfl rfl ⟨rfl, rfl⟩
def rsF : List Nat → Nat → Nat → Nat → Nat → Nat → Nat
  | [], _, r, l, ra, la => rdA r l ra la
  | s :: S, p, r, l, ra, la => rsF S (p + 1) (if s = 1 then r + 1 else r) (if s = 2 then l + 1 else l) (if s = 1 then p else ra) (if s = 2 then p else la)
/-- what is read by needles that stand so -/
def rdS (S : List Nat) : Nat := rsF S 0 0 0 0 0
theorem ite_le1 {P : Prop} [Decidable P] (r n : Nat) (h : r ≤ n) : (if P then r + 1 else r) ≤ n + 1 := by split <;> omega
theorem ite_lt5 {P : Prop} [Decidable P] (p ra : Nat) (h : p < 5) (h2 : ra < 5) : (if P then p else ra) < 5 := by split <;> omega
theorem e_readSign (hi : lI h i) (hS : S.length = 5) (hS3 : ∀ s ∈ S, s < 3) : Ec d m_X3_readSign [.ref i] (lh h i K S G C c t j) (rt (.int (nI (rdS S))) (lh h i K S G C c t j)) := by
  obtain ⟨a0, a1, a2, a3, a4, rfl⟩ := l5 hS
  refine ec_in [some (.ref i), none, none, none, none, none] rfl rfl ?_
  iterate 10 refine ev_nx rfl ?_
  refine it_readSign hi rfl hS3 (p := 0) (r := 0) (l := 0) (ra := 0) (la := 0) (by decide) ?_
  refine it_readSign hi rfl hS3 (p := 1) (by decide) ?_
  refine it_readSign hi rfl hS3 (p := 2) (by decide) ?_
  refine it_readSign hi rfl hS3 (p := 3) (by decide) ?_
  refine it_readSign hi rfl hS3 (p := 4) (by decide) ?_
  iterate 3 refine ev_nx rfl ?_
  refine ev_ge (fun _ => ?_) (fun h => absurd h (by decide))
  refine x_readSign ?_ ?_ ?_ ?_ rfl
  · exact Nat.lt_of_le_of_lt (ite_le1 _ 4 (ite_le1 _ 3 (ite_le1 _ 2 (ite_le1 _ 1 (ite_le1 _ 0 (Nat.le_refl 0)))))) (by decide)
  · exact Nat.lt_of_le_of_lt (ite_le1 _ 4 (ite_le1 _ 3 (ite_le1 _ 2 (ite_le1 _ 1 (ite_le1 _ 0 (Nat.le_refl 0)))))) (by decide)
  · exact ite_lt5 _ _ (by decide) (ite_lt5 _ _ (by decide) (ite_lt5 _ _ (by decide) (ite_lt5 _ _ (by decide) (ite_lt5 _ _ (by decide) (by decide)))))
  · exact ite_lt5 _ _ (by decide) (ite_lt5 _ _ (by decide) (ite_lt5 _ _ (by decide) (ite_lt5 _ _ (by decide) (ite_lt5 _ _ (by decide) (by decide)))))
end LR
end
section
/-! what the wires carry -/
section LC
variable {h : aH} {i : Nat} {K S G C : List Nat} {c t j : Nat} {d : Nat} {Q : Option Value → aH → Prop}
def ptT : List Nat := [1, 0, 0, 0, 2, 1, 0, 0, 2, 0, 0, 1, 0, 0, 2, 1, 0, 2, 0, 0, 0, 1, 0, 2, 0, 0, 0, 1, 0, 2, 1, 2, 0, 0, 0, 0, 1, 2, 0, 0, 0, 0, 1, 2, 0, 0, 0, 0, 1, 2, 2, 1, 0, 0, 0, 0, 2, 1, 0, 0, 0, 0, 2, 1, 0, 0, 0, 0, 2, 1, 2, 0, 1, 0, 0, 0, 2, 0, 1, 0, 0, 0, 2, 0, 1, 2, 0, 0, 1, 0, 0, 2, 0, 0, 1, 2, 0, 0, 0, 1, 1, 0, 0, 0, 0, 0, 1, 0, 0, 0, 0, 0, 1, 0, 0, 0, 0, 0, 1, 0, 0, 0, 0, 0, 1, 2, 0, 0, 0, 0, 0, 2, 0, 0, 0, 0, 0, 2, 0, 0, 0, 0, 0, 2, 0, 0, 0, 0, 0, 2, 0, 0, 0, 0, 0]
/-- by a sign, as what the needle at a place is -/
def pt (s p : Nat) : Nat := ptT.getD (s * 5 + p) 0
theorem t0_at {x : Nat} (hx : x < 155) : am_t0[x]? = some (nI (ptT.getD x 0)) ∧ ptT.getD x 0 < 3 := (show ∀ x : Fin 155, am_t0[x.val]? = some (nI (ptT.getD x.val 0)) ∧ ptT.getD x.val 0 < 3 by decide +kernel) ⟨x, hx⟩
theorem pt_lt {s p : Nat} (hs : s < 31) (hp : p < 5) : pt s p < 3 := (t0_at (x := s * 5 + p) (by omega)).2
/-- what a wire bears -/
def brn (t g p : Nat) : Nat := if bt t p = 1 then oth g else g
def bcu (c t g p : Nat) : Nat := if bt c p = 1 then 0 else brn t g p
theorem it_carry1 (hi : lI h i) (hC : C.length = 5) (hc32 : c < 32) (ht32 : t < 32) {s p : Nat} {l3 l4 : Option Value} (hs : s < 31) (hp : p < 5) (k : Ev (d + 1) m_X3_carrySign 2 [some (.ref i), some (.int (nI s)), some (.int (nI (p + 1))), some (.int (nI (pt s p))), some (.int (nI (brn t (pt s p) p)))] [] (lh h i K S G (C.set p (bcu c t (pt s p) p)) c t j) Q) (hl3 : am_nl [some (.ref i), some (.int (nI s)), some (.int (nI p)), l3, l4] 4 = true) : Ev (d + 1) m_X3_carrySign 2 [some (.ref i), some (.int (nI s)), some (.int (nI p)), l3, l4] [] (lh h i K S G C c t j) Q := by
  have hpt := pt_lt hs hp
  have hb1 := bt_lt t p
  have hb2 := bt_lt c p
  have H : Ev (d + 1) m_X3_carrySign 39 [some (.ref i), some (.int (nI s)), some (.int (nI p)), some (.int (nI (pt s p))), some (.int (nI (brn t (pt s p) p)))] [] (lh h i K S G C c t j) Q := by
    refine ev_nx rfl ?_
    refine ev_lf hi rfl rfl rfl rfl ?_
    iterate 2 refine ev_nx rfl ?_
    refine ev_lf hi rfl rfl rfl rfl ?_
    refine ev_nx rfl ?_
    refine ev_ci rfl rfl (ec_le (Nat.zero_le d) (e_bitAt c p (by omega) (by omega) _)) ?_
    iterate 2 refine ev_nx rfl ?_
    refine ev_ne (fun hc => ?_) (fun hc => ?_)
    · refine ev_nx rfl ?_
      first | refine ev_sK hi rfl (by omega) ?_ | refine ev_sS hi rfl (by omega) ?_ | refine ev_sG hi rfl (by omega) ?_ | refine ev_sC hi rfl (by omega) ?_
      iterate 2 refine ev_nx rfl ?_
      rw [nI_add]
      rw [bcu, if_neg hc] at k
      exact k
    · iterate 2 refine ev_nx rfl ?_
      first | refine ev_sK hi rfl (by omega) ?_ | refine ev_sS hi rfl (by omega) ?_ | refine ev_sG hi rfl (by omega) ?_ | refine ev_sC hi rfl (by omega) ?_
      iterate 2 refine ev_nx rfl ?_
      rw [nI_add]
      rw [bcu, if_pos hc] at k
      exact k
  iterate 3 refine ev_nx rfl ?_
  refine ev_ge (fun h => absurd h (by omega)) (fun _ => ?_)
  iterate 6 refine ev_nx rfl ?_
  rw [pk_mul, nI_add]
  refine ev_ia (a := 100000) rfl rfl (t0_at (by omega)).1 ?_
  iterate 2 refine ev_nx rfl ?_
  refine ev_lf hi rfl rfl rfl rfl ?_
  refine ev_nx rfl ?_
  refine ev_ci rfl rfl (ec_le (Nat.zero_le d) (e_bitAt t p (by omega) (by omega) _)) ?_
  iterate 2 refine ev_nx rfl ?_
  refine ev_ne (fun hc => ?_) (fun hc => ?_)
  · iterate 2 refine ev_nx rfl ?_
    rw [brn, if_neg hc] at H
    exact H
  · refine ev_nx rfl ?_
    refine ev_ci rfl rfl (ec_le (Nat.zero_le d) (e_otherWay (pt s p) (by omega) _)) ?_
    iterate 2 refine ev_nx rfl ?_
    rw [brn, if_pos hc] at H
    exact H
/-! wires that touch -/
theorem an_n : ∀ (j : Fin 32) (q : Fin 5), nI j.val &&& (nI 1 <<< (nI q.val &&& 31)) = nI (j.val &&& 2 ^ q.val) ∧ (j.val &&& 2 ^ q.val = 0 ↔ bt j.val q.val = 0) ∧ j.val &&& 2 ^ q.val < 32 := by decide +kernel
/-- the last one of those together with q -/
def gE (j : Nat) : Nat → Nat → Nat
  | q, 0 => q
  | q, n + 1 => if q < 4 ∧ ¬ bt j q = 0 then gE j (q + 1) n else q
theorem gE_le (j : Nat) : ∀ (n q : Nat), q ≤ 4 → q ≤ gE j q n ∧ gE j q n ≤ 4
  | 0, q, h => ⟨Nat.le_refl _, h⟩
  | n + 1, q, h => by
    unfold gE
    split
    · rename_i hc
      have := gE_le j n (q + 1) (by omega)
      omega
    · omega
theorem lp_share1 (hi : lI h i) (hj : j < 32) {f : Nat} {l3 l4 l5 : Option Value} : ∀ (n q : Nat), q + n = 4 → Ev d m_X3_shareFrom 24 [some (.ref i), some (.int (nI f)), some (.int (nI (gE j q n))), l3, l4, l5] [] (lh h i K S G C c t j) Q → Ev d m_X3_shareFrom 2 [some (.ref i), some (.int (nI f)), some (.int (nI q)), l3, l4, l5] [] (lh h i K S G C c t j) Q := by
  intro n
  induction n with
  | zero =>
    intro q hq k
    iterate 3 refine ev_nx rfl ?_
    exact ev_ge (fun _ => k) (fun h => absurd h (by omega))
  | succ n ih =>
    intro q hq k
    obtain ⟨e1, e2, e3⟩ := an_n ⟨j, hj⟩ ⟨q, by omega⟩
    simp only at e1 e2 e3
    iterate 3 refine ev_nx rfl ?_
    refine ev_ge (fun h => absurd h (by omega)) (fun _ => ?_)
    refine ev_nx rfl ?_
    refine ev_lf hi rfl rfl rfl rfl ?_
    iterate 4 refine ev_nx rfl ?_
    rw [e1]
    refine ev_nx rfl ?_
    refine ev_eq0 (fun hc => ?_) (fun hc => ?_)
    · rw [gE, if_neg (fun z => z.2 (e2.mp hc))] at k
      exact k
    · rw [gE, if_pos ⟨by omega, fun z => hc (e2.mpr z)⟩] at k
      iterate 2 refine ev_nx rfl ?_
      rw [nI_add]
      exact ih (q + 1) (by omega) k
/-- how many of n from p on are v -/
def sgc (C : List Nat) (v : Nat) : Nat → Nat → Nat
  | _, 0 => 0
  | p, n + 1 => (if C.getD p 0 = v then 1 else 0) + sgc C v (p + 1) n
theorem sgc_le (C : List Nat) (v : Nat) : ∀ n p, sgc C v p n ≤ n
  | 0, p => Nat.le_refl _
  | n + 1, p => by
    have := sgc_le C v n (p + 1)
    unfold sgc
    split <;> omega
theorem n_pm (a b x y : Nat) : nI a - nI b + nI x - nI y = nI (a + x) - nI (b + y) := by
  rw [← nI_add, ← nI_add]
  simp only [Int32.sub_eq_add_neg, Int32.neg_add]
  ac_rfl
theorem n_le0 {a b : Nat} (ha : a < 100) (hb : b < 100) : (am_c2 .le (nI a - nI b) 0 = true ↔ a ≤ b) ∧ (am_c2 .ge (nI a - nI b) 0 = true ↔ b ≤ a) := by
  have h := pk_sub_toInt (a := a) (b := b) (by omega) (by omega)
  simp only [am_c2, decide_eq_true_eq, Int32.le_iff_toInt_le, h]
  have h0 : (0 : Int32).toInt = 0 := rfl
  rw [h0]
  omega
theorem lp_share2 (hi : lI h i) (hC : C.length = 5) (hC3 : ∀ s ∈ C, s < 3) {f q : Nat} {l5 : Option Value} (hq : q < 5) : ∀ (n p a b : Nat), p + n = q + 1 → a + n ≤ 10 → b + n ≤ 10 → Ev d m_X3_shareFrom 79 [some (.ref i), some (.int (nI f)), some (.int (nI q)), some (.int (nI (a + sgc C 1 p n) - nI (b + sgc C 2 p n))), some (.int (nI (q + 1))), l5] [] (lh h i K S G C c t j) Q → Ev d m_X3_shareFrom 29 [some (.ref i), some (.int (nI f)), some (.int (nI q)), some (.int (nI a - nI b)), some (.int (nI p)), l5] [] (lh h i K S G C c t j) Q := by
  intro n
  induction n with
  | zero =>
    intro p a b hp ha hb k
    have hp : p = q + 1 := by omega
    subst hp
    iterate 3 refine ev_nx rfl ?_
    exact ev_gt (fun _ => k) (fun h => absurd h (by omega))
  | succ n ih =>
    intro p a b hp ha hb k
    have hs := gd3 hC3 (p := p) (by omega)
    have H : ∀ x y : Nat, x = (if C.getD p 0 = 1 then 1 else 0) → y = (if C.getD p 0 = 2 then 1 else 0) → Ev d m_X3_shareFrom 29 [some (.ref i), some (.int (nI f)), some (.int (nI q)), some (.int (nI a - nI b + nI x - nI y)), some (.int (nI p + nI 1)), l5] [] (lh h i K S G C c t j) Q := by
      intro x y hx hy
      have hx1 : x ≤ 1 := by rw [hx]; split <;> omega
      have hy1 : y ≤ 1 := by rw [hy]; split <;> omega
      rw [n_pm, nI_add]
      refine ih (p + 1) (a + x) (b + y) (by omega) (by omega) (by omega) ?_
      rw [sgc, sgc, ← hx, ← hy, ← Nat.add_assoc, ← Nat.add_assoc] at k
      exact k
    have H2 : ∀ x : Nat, x = (if C.getD p 0 = 1 then 1 else 0) → Ev d m_X3_shareFrom 54 [some (.ref i), some (.int (nI f)), some (.int (nI q)), some (.int (nI a - nI b + nI x)), some (.int (nI p)), l5] [] (lh h i K S G C c t j) Q := by
      intro x hx
      iterate 2 refine ev_nx rfl ?_
      refine ev_lf hi rfl rfl rfl rfl ?_
      refine ev_nx rfl ?_
      first | refine ev_lK hi rfl (by omega) ?_ | refine ev_lS hi rfl (by omega) ?_ | refine ev_lG hi rfl (by omega) ?_ | refine ev_lC hi rfl (by omega) ?_
      refine ev_nx rfl ?_
      refine ev_nx rfl ?_
      refine ev_ne (fun hc => ?_) (fun hc => ?_)
      · iterate 5 refine ev_nx rfl ?_
        exact H x 0 hx (by rw [if_neg hc])
      · iterate 6 refine ev_nx rfl ?_
        exact H x 1 hx (by rw [if_pos hc])
    iterate 3 refine ev_nx rfl ?_
    refine ev_gt (fun h => absurd h (by omega)) (fun _ => ?_)
    iterate 2 refine ev_nx rfl ?_
    refine ev_lf hi rfl rfl rfl rfl ?_
    refine ev_nx rfl ?_
    first | refine ev_lK hi rfl (by omega) ?_ | refine ev_lS hi rfl (by omega) ?_ | refine ev_lG hi rfl (by omega) ?_ | refine ev_lC hi rfl (by omega) ?_
    refine ev_nx rfl ?_
    refine ev_nx rfl ?_
    refine ev_ne (fun hc => ?_) (fun hc => ?_)
    · iterate 3 refine ev_nx rfl ?_
      exact H2 0 (by rw [if_neg hc])
    · iterate 4 refine ev_nx rfl ?_
      exact H2 1 (by rw [if_pos hc])
/-- each of n from p on has what is shared, if it isn't cut -/
def shs (c v : Nat) : Nat → Nat → List Nat → List Nat
  | _, 0, C => C
  | p, n + 1, C => shs c v (p + 1) n (C.set p (if bt c p = 0 then v else 0))
theorem shs_len (c v : Nat) : ∀ n p C, (shs c v p n C).length = C.length
  | 0, p, C => rfl
  | n + 1, p, C => by rw [shs, shs_len c v n]; simp
theorem shs_lt {c v : Nat} (hv : v < 3) : ∀ n p C, (∀ s ∈ C, s < 3) → ∀ s ∈ shs c v p n C, s < 3
  | 0, p, C, h => h
  | n + 1, p, C, h => by
    rw [shs]
    refine shs_lt hv n (p + 1) _ (fun s hs => ?_)
    rcases List.mem_or_eq_of_mem_set hs with h1 | h1
    · exact h s h1
    · rw [h1]; split <;> omega
theorem lp_share3 (hi : lI h i) (hc32 : c < 32) {f q v : Nat} {l3 : Option Value} (hq : q < 5) (hnl : am_nl [some (.ref i), some (.int (nI f)), some (.int (nI q)), l3, some (.int (nI v))] 5 = true) : ∀ (n p : Nat) (C : List Nat), C.length = 5 → p + n = q + 1 → Ev d m_X3_shareFrom 138 [some (.ref i), some (.int (nI f)), some (.int (nI q)), l3, some (.int (nI v)), some (.int (nI (q + 1)))] [] (lh h i K S G (shs c v p n C) c t j) Q → Ev d m_X3_shareFrom 101 [some (.ref i), some (.int (nI f)), some (.int (nI q)), l3, some (.int (nI v)), some (.int (nI p))] [] (lh h i K S G C c t j) Q := by
  intro n
  induction n with
  | zero =>
    intro p C hC hp k
    have hp : p = q + 1 := by omega
    subst hp
    iterate 3 refine ev_nx rfl ?_
    exact ev_gt (fun _ => k) (fun h => absurd h (by omega))
  | succ n ih =>
    intro p C hC hp k
    obtain ⟨e1, e2, e3⟩ := an_n ⟨c, hc32⟩ ⟨p, by omega⟩
    simp only at e1 e2 e3
    iterate 3 refine ev_nx rfl ?_
    refine ev_gt (fun h => absurd h (by omega)) (fun _ => ?_)
    refine ev_nx rfl ?_
    refine ev_lf hi rfl rfl rfl rfl ?_
    iterate 2 refine ev_nx rfl ?_
    refine ev_lf hi rfl rfl rfl rfl ?_
    iterate 4 refine ev_nx rfl ?_
    rw [e1]
    refine ev_nx rfl ?_
    rw [shs] at k
    refine ev_eq0 (fun hc => ?_) (fun hc => ?_)
    · refine ev_nx rfl ?_
      first | refine ev_sK hi rfl (by omega) ?_ | refine ev_sS hi rfl (by omega) ?_ | refine ev_sG hi rfl (by omega) ?_ | refine ev_sC hi rfl (by omega) ?_
      iterate 2 refine ev_nx rfl ?_
      rw [nI_add]
      rw [if_pos (e2.mp hc)] at k
      exact ih (p + 1) _ (by simp [hC]) (by omega) k
    · iterate 2 refine ev_nx rfl ?_
      first | refine ev_sK hi rfl (by omega) ?_ | refine ev_sS hi rfl (by omega) ?_ | refine ev_sG hi rfl (by omega) ?_ | refine ev_sC hi rfl (by omega) ?_
      iterate 2 refine ev_nx rfl ?_
      rw [nI_add]
      rw [if_neg (fun z => hc (e2.mpr z))] at k
      exact ih (p + 1) _ (by simp [hC]) (by omega) k
/-- the greater number: to the right, to the left, neither -/
def maj (a b : Nat) : Nat := if a ≤ b then (if b ≤ a then 0 else 2) else 1
theorem maj_lt (a b : Nat) : maj a b < 3 := by unfold maj; split <;> (try split) <;> omega
def shf (c j : Nat) (C : List Nat) (f : Nat) : List Nat := shs c (maj (sgc C 1 f (gE j f (4 - f) + 1 - f)) (sgc C 2 f (gE j f (4 - f) + 1 - f))) f (gE j f (4 - f) + 1 - f) C
theorem e_shareFrom (hi : lI h i) (hC : C.length = 5) (hC3 : ∀ s ∈ C, s < 3) (hc32 : c < 32) (hj : j < 32) {f : Nat} (hf : f < 5) : Ec d m_X3_shareFrom [.ref i, .int (nI f)] (lh h i K S G C c t j) (rtv (lh h i K S G (shf c j C f) c t j)) := by
  obtain ⟨g1, g2⟩ := gE_le j (4 - f) f (by omega)
  have hR := sgc_le C 1 (gE j f (4 - f) + 1 - f) f
  have hL := sgc_le C 2 (gE j f (4 - f) + 1 - f) f
  unfold shf
  refine ec_in [some (.ref i), some (.int (nI f)), none, none, none, none] rfl rfl ?_
  iterate 2 refine ev_nx rfl ?_
  refine lp_share1 hi hj (4 - f) f (by omega) ?_
  iterate 4 refine ev_nx rfl ?_
  rw [show nI 0 = nI 0 - nI 0 from rfl]
  refine lp_share2 hi hC hC3 (q := gE j f (4 - f)) (by omega) (gE j f (4 - f) + 1 - f) f 0 0 (by omega) (by omega) (by omega) ?_
  rw [Nat.zero_add, Nat.zero_add]
  generalize hq : gE j f (4 - f) = q at *
  generalize hn : q + 1 - f = n at *
  generalize ha : sgc C 1 f n = a at *
  generalize hb : sgc C 2 f n = b at *
  obtain ⟨n1, n2⟩ := n_le0 (a := a) (b := b) (by omega) (by omega)
  have H : ∀ v : Nat, v = maj a b → Ev d m_X3_shareFrom 98 [some (.ref i), some (.int (nI f)), some (.int (nI q)), some (.int (nI a - nI b)), some (.int (nI v)), none] [] (lh h i K S G C c t j) (rtv (lh h i K S G (shs c (maj a b) f n C) c t j)) := by
    intro v hv
    iterate 2 refine ev_nx rfl ?_
    refine lp_share3 hi hc32 (by omega) rfl n f C hC (by omega) ?_
    rw [hv]
    exact ev_rt rfl ⟨rfl, rfl⟩
  iterate 2 refine ev_nx rfl ?_
  refine ev_c n1 (fun hc => ?_) (fun hc => ?_)
  · iterate 2 refine ev_nx rfl ?_
    refine ev_c n2 (fun hc2 => ?_) (fun hc2 => ?_)
    · iterate 2 refine ev_nx rfl ?_
      exact H 0 (by rw [maj, if_pos hc, if_pos hc2])
    · iterate 3 refine ev_nx rfl ?_
      exact H 2 (by rw [maj, if_pos hc, if_neg hc2])
  · iterate 3 refine ev_nx rfl ?_
    exact H 1 (by rw [maj, if_neg hc])
theorem shf_len {f : Nat} : (shf c j C f).length = C.length := by unfold shf; exact shs_len _ _ _ _ _
theorem shf_lt {f : Nat} (hC3 : ∀ s ∈ C, s < 3) : ∀ s ∈ shf c j C f, s < 3 := by unfold shf; exact shs_lt (maj_lt _ _) _ _ _ hC3
end LC
end
section
/-! carrySign, sendFor, copyFrom -/
section LS
variable {h : aH} {i : Nat} {K S G C : List Nat} {c t j : Nat} {d : Nat} {Q : Option Value → aH → Prop}
/-- at a place where wires that touch begin: they share -/
def cst (c j : Nat) (C : List Nat) (p : Nat) : List Nat := if (p = 0 ∨ bt j (p - 1) = 0) ∧ bt j p = 1 then shf c j C p else C
theorem cst_len {p : Nat} : (cst c j C p).length = C.length := by unfold cst; split; exact shf_len; rfl
theorem cst_lt {p : Nat} (hC3 : ∀ s ∈ C, s < 3) : ∀ s ∈ cst c j C p, s < 3 := by unfold cst; split; exact shf_lt hC3; exact hC3
theorem it_carry2 (hi : lI h i) (hC : C.length = 5) (hC3 : ∀ s ∈ C, s < 3) (hc32 : c < 32) (hj : j < 32) (hj0 : ¬ j = 0) {s p x : Nat} {l4 : Option Value} (hp : p < 4) (k : ∀ x, Ev (d + 1) m_X3_carrySign 71 [some (.ref i), some (.int (nI s)), some (.int (nI (p + 1))), some (.int (nI x)), l4] [] (lh h i K S G (cst c j C p) c t j) Q) : Ev (d + 1) m_X3_carrySign 71 [some (.ref i), some (.int (nI s)), some (.int (nI p)), some (.int (nI x)), l4] [] (lh h i K S G C c t j) Q := by
  have hb1 := bt_lt j p
  have hb2 := bt_lt j (p - 1)
  have H : ∀ y : Nat, (y = 1 ∧ (p = 0 ∨ bt j (p - 1) = 0)) ∨ (y = 0 ∧ ¬ (p = 0 ∨ bt j (p - 1) = 0)) → Ev (d + 1) m_X3_carrySign 105 [some (.ref i), some (.int (nI s)), some (.int (nI p)), some (.int (nI x)), l4] [.int (nI y)] (lh h i K S G C c t j) Q := by
    intro y hy
    iterate 3 refine ev_nx rfl ?_
    refine ev_eq0 (fun hc => ?_) (fun hc => ?_)
    · iterate 2 refine ev_nx rfl ?_
      rw [nI_add]
      have k1 := k y
      rw [cst, if_neg (by omega)] at k1
      exact k1
    · refine ev_nx rfl ?_
      refine ev_lf hi rfl rfl rfl rfl ?_
      refine ev_nx rfl ?_
      refine ev_ci rfl rfl (ec_le (Nat.zero_le d) (e_bitAt j p (by omega) (by omega) _)) ?_
      iterate 2 refine ev_nx rfl ?_
      refine ev_ne (fun hc2 => ?_) (fun hc2 => ?_)
      · iterate 2 refine ev_nx rfl ?_
        rw [nI_add]
        have k1 := k y
        rw [cst, if_neg (fun z => hc2 z.2)] at k1
        exact k1
      · iterate 2 refine ev_nx rfl ?_
        refine ev_vv rfl rfl rfl rfl rfl rfl (lh_0 hi.1) rfl (e_shareFrom hi hC hC3 hc32 hj (by omega)) ?_ (by have := hi.1; have := hi.2; omega)
        iterate 2 refine ev_nx rfl ?_
        rw [nI_add]
        have k1 := k y
        rw [cst, if_pos ⟨by omega, hc2⟩] at k1
        exact k1
  iterate 3 refine ev_nx rfl ?_
  refine ev_ge (fun h => absurd h (by omega)) (fun _ => ?_)
  refine ev_nx rfl ?_
  refine ev_lf hi rfl rfl rfl rfl ?_
  refine ev_nx rfl ?_
  refine ev_eq0 (fun h => absurd h hj0) (fun _ => ?_)
  iterate 2 refine ev_nx rfl ?_
  refine ev_eq0 (fun hc => ?_) (fun hc => ?_)
  · iterate 2 refine ev_nx rfl ?_
    exact H 1 (Or.inl ⟨rfl, Or.inl hc⟩)
  · refine ev_nx rfl ?_
    refine ev_lf hi rfl rfl rfl rfl ?_
    iterate 3 refine ev_nx rfl ?_
    rw [pk_sub (by omega)]
    refine ev_ci rfl rfl (ec_le (Nat.zero_le d) (e_bitAt j (p - 1) (by omega) (by omega) _)) ?_
    refine ev_nx rfl ?_
    refine ev_ne0 (fun hc2 => ?_) (fun hc2 => ?_)
    · refine ev_nx rfl ?_
      exact H 0 (Or.inr ⟨rfl, by omega⟩)
    · iterate 2 refine ev_nx rfl ?_
      exact H 1 (Or.inl ⟨rfl, Or.inr hc2⟩)
/-- what the wires carry by a sign -/
def crb (s c t : Nat) : List Nat := [bcu c t (pt s 0) 0, bcu c t (pt s 1) 1, bcu c t (pt s 2) 2, bcu c t (pt s 3) 3, bcu c t (pt s 4) 4]
def cry (s c t j : Nat) : List Nat := cst c j (cst c j (cst c j (cst c j (crb s c t) 0) 1) 2) 3
theorem bcu_lt {g p : Nat} (hg : g < 3) : bcu c t g p < 3 := by
  unfold bcu brn
  split
  · omega
  · split
    · exact oth_lt hg
    · exact hg
theorem crb_lt {s : Nat} (hs : s < 31) : ∀ x ∈ crb s c t, x < 3 := by
  intro x hx
  simp only [crb, List.mem_cons, List.not_mem_nil, or_false] at hx
  rcases hx with rfl | rfl | rfl | rfl | rfl <;> exact bcu_lt (pt_lt hs (by decide))
theorem cry_len {s : Nat} : (cry s c t j).length = 5 := by unfold cry; rw [cst_len, cst_len, cst_len, cst_len]; rfl
theorem cry_lt {s : Nat} (hs : s < 31) : ∀ x ∈ cry s c t j, x < 3 := by unfold cry; exact cst_lt (cst_lt (cst_lt (cst_lt (crb_lt hs))))
theorem cst_0 {p : Nat} : cst c 0 C p = C := by unfold cst; rw [if_neg]; simp [bt]
theorem e_carrySign (hi : lI h i) (hC : C.length = 5) (hc32 : c < 32) (ht32 : t < 32) (hj : j < 32) {s : Nat} (hs : s < 31) : Ec (d + 1) m_X3_carrySign [.ref i, .int (nI s)] (lh h i K S G C c t j) (rtv (lh h i K S G (cry s c t j) c t j)) := by
  obtain ⟨a0, a1, a2, a3, a4, rfl⟩ := l5 hC
  refine ec_in [some (.ref i), some (.int (nI s)), none, none, none] rfl rfl ?_
  iterate 2 refine ev_nx rfl ?_
  refine it_carry1 hi rfl hc32 ht32 (p := 0) hs (by decide) ?_ rfl
  refine it_carry1 hi rfl hc32 ht32 (p := 1) hs (by decide) ?_ rfl
  refine it_carry1 hi rfl hc32 ht32 (p := 2) hs (by decide) ?_ rfl
  refine it_carry1 hi rfl hc32 ht32 (p := 3) hs (by decide) ?_ rfl
  refine it_carry1 hi rfl hc32 ht32 (p := 4) hs (by decide) ?_ rfl
  iterate 3 refine ev_nx rfl ?_
  refine ev_ge (fun _ => ?_) (fun h => absurd h (by decide))
  iterate 2 refine ev_nx rfl ?_
  have hB : ∀ x ∈ crb s c t, x < 3 := crb_lt hs
  show Ev (d + 1) m_X3_carrySign 71 [some (.ref i), some (.int (nI s)), some (.int (nI 0)), some (.int (nI (pt s 4))), some (.int (nI (brn t (pt s 4) 4)))] [] (lh h i K S G (crb s c t) c t j) _
  by_cases hj0 : j = 0
  · subst hj0
    iterate 3 refine ev_nx rfl ?_
    refine ev_ge (fun h => absurd h (by decide)) (fun _ => ?_)
    refine ev_nx rfl ?_
    refine ev_lf hi rfl rfl rfl rfl ?_
    refine ev_nx rfl ?_
    refine ev_eq0 (fun _ => ?_) (fun h => absurd rfl h)
    unfold cry
    rw [cst_0, cst_0, cst_0, cst_0]
    exact ev_rt rfl ⟨rfl, rfl⟩
  · refine it_carry2 hi rfl hB hc32 hj hj0 (p := 0) (by decide) (fun x0 => ?_)
    refine it_carry2 hi (by rw [cst_len]; rfl) (cst_lt hB) hc32 hj hj0 (p := 1) (by decide) (fun x1 => ?_)
    refine it_carry2 hi (by rw [cst_len, cst_len]; rfl) (cst_lt (cst_lt hB)) hc32 hj hj0 (p := 2) (by decide) (fun x2 => ?_)
    refine it_carry2 hi (by rw [cst_len, cst_len, cst_len]; rfl) (cst_lt (cst_lt (cst_lt hB))) hc32 hj hj0 (p := 3) (by decide) (fun x3 => ?_)
    iterate 3 refine ev_nx rfl ?_
    refine ev_ge (fun _ => ?_) (fun h => absurd h (by decide))
    exact ev_rt rfl ⟨rfl, rfl⟩
/-! beats -/
def sb (K C S G : List Nat) (p : Nat) : Nat := stn (K.getD p 0) (C.getD p 0) (ahd C p) (G.getD p 0) (S.getD p 0)
/-- how the needles stand behind a beat -/
def bst (K C S G : List Nat) : List Nat := [sb K C S G 0, sb K C S G 1, sb K C S G 2, sb K C S G 3, sb K C S G 4]
/-- how they stand behind n beats, of which all carry C -/
def btn (K C : List Nat) : Nat → List Nat → List Nat → List Nat
  | 0, S, _ => S
  | n + 1, S, G => btn K C n (bst K C S G) C
/-- what they got -/
def gtn (C : List Nat) (n : Nat) (G : List Nat) : List Nat := if n = 0 then G else C
theorem ahd_lt {p : Nat} (hC : C.length = 5) (hC3 : ∀ s ∈ C, s < 3) (hp : p < 5) : ahd C p < 3 := by
  unfold ahd; split
  · omega
  · exact gd3 hC3 (by omega)
theorem it_send (hi : lI h i) (hK : K.length = 5) (hK6 : ∀ s ∈ K, s < 6) (hC : C.length = 5) (hC3 : ∀ s ∈ C, s < 3) (hS : S.length = 5) (hS3 : ∀ s ∈ S, s < 3) (hG : G.length = 5) (hG3 : ∀ s ∈ G, s < 3) {s n b p : Nat} (hp : p < 5) (k : Ev (d + 2) m_X3_sendFor 15 [some (.ref i), some (.int (nI s)), some (.int (nI n)), some (.int (nI b)), some (.int (nI (p + 1)))] [] (lh h i K (S.set p (sb K C S G p)) (G.set p (C.getD p 0)) C c t j) Q) : Ev (d + 2) m_X3_sendFor 15 [some (.ref i), some (.int (nI s)), some (.int (nI n)), some (.int (nI b)), some (.int (nI p))] [] (lh h i K S G C c t j) Q := by
  iterate 3 refine ev_nx rfl ?_
  refine ev_ge (fun h => absurd h (by omega)) (fun _ => ?_)
  refine ev_nx rfl ?_
  refine ev_lf hi rfl rfl rfl rfl ?_
  iterate 2 refine ev_nx rfl ?_
  refine ev_lf hi rfl rfl rfl rfl ?_
  refine ev_nx rfl ?_
  first | refine ev_lK hi rfl (by omega) ?_ | refine ev_lS hi rfl (by omega) ?_ | refine ev_lG hi rfl (by omega) ?_ | refine ev_lC hi rfl (by omega) ?_
  refine ev_nx rfl ?_
  refine ev_lf hi rfl rfl rfl rfl ?_
  refine ev_nx rfl ?_
  first | refine ev_lK hi rfl (by omega) ?_ | refine ev_lS hi rfl (by omega) ?_ | refine ev_lG hi rfl (by omega) ?_ | refine ev_lC hi rfl (by omega) ?_
  iterate 2 refine ev_nx rfl ?_
  refine ev_vi rfl rfl rfl rfl rfl rfl (lh_0 hi.1) rfl (ec_le (Nat.zero_le _) (e_aheadOf hi hC hp)) ?_ (by have := hi.1; have := hi.2; omega)
  refine ev_nx rfl ?_
  refine ev_lf hi rfl rfl rfl rfl ?_
  refine ev_nx rfl ?_
  first | refine ev_lK hi rfl (by omega) ?_ | refine ev_lS hi rfl (by omega) ?_ | refine ev_lG hi rfl (by omega) ?_ | refine ev_lC hi rfl (by omega) ?_
  refine ev_nx rfl ?_
  refine ev_lf hi rfl rfl rfl rfl ?_
  refine ev_nx rfl ?_
  first | refine ev_lK hi rfl (by omega) ?_ | refine ev_lS hi rfl (by omega) ?_ | refine ev_lG hi rfl (by omega) ?_ | refine ev_lC hi rfl (by omega) ?_
  refine ev_ci rfl rfl (ec_le (by omega) (e_standing _ _ _ _ _ (gd3 hK6 (by omega)) (gd3 hC3 (by omega)) (ahd_lt hC hC3 hp) (gd3 hG3 (by omega)) (gd3 hS3 (by omega)) _)) ?_
  first | refine ev_sK hi rfl (by omega) ?_ | refine ev_sS hi rfl (by omega) ?_ | refine ev_sG hi rfl (by omega) ?_ | refine ev_sC hi rfl (by omega) ?_
  refine ev_nx rfl ?_
  refine ev_lf hi rfl rfl rfl rfl ?_
  iterate 2 refine ev_nx rfl ?_
  refine ev_lf hi rfl rfl rfl rfl ?_
  refine ev_nx rfl ?_
  first | refine ev_lK hi rfl (by omega) ?_ | refine ev_lS hi rfl (by omega) ?_ | refine ev_lG hi rfl (by omega) ?_ | refine ev_lC hi rfl (by omega) ?_
  first | refine ev_sK hi rfl (by omega) ?_ | refine ev_sS hi rfl (by omega) ?_ | refine ev_sG hi rfl (by omega) ?_ | refine ev_sC hi rfl (by omega) ?_
  iterate 2 refine ev_nx rfl ?_
  rw [nI_add]
  exact k
theorem l_set_lt {S : List Nat} {p x n : Nat} (hS : ∀ s ∈ S, s < n) (hx : x < n) : ∀ s ∈ S.set p x, s < n := fun s hs => by
  rcases List.mem_or_eq_of_mem_set hs with h1 | h1
  · exact hS s h1
  · rw [h1]; exact hx
theorem sb_lt {p : Nat} (hC : C.length = 5) (hC3 : ∀ s ∈ C, s < 3) (hS : S.length = 5) (hS3 : ∀ s ∈ S, s < 3) (hG : G.length = 5) (hG3 : ∀ s ∈ G, s < 3) (hp : p < 5) : sb K C S G p < 3 := stn_lt (gd3 hC3 (by omega)) (ahd_lt hC hC3 hp) (gd3 hG3 (by omega)) (gd3 hS3 (by omega))
theorem bst_lt (hC : C.length = 5) (hC3 : ∀ s ∈ C, s < 3) (hS : S.length = 5) (hS3 : ∀ s ∈ S, s < 3) (hG : G.length = 5) (hG3 : ∀ s ∈ G, s < 3) : ∀ s ∈ bst K C S G, s < 3 := by
  intro x hx
  simp only [bst, List.mem_cons, List.not_mem_nil, or_false] at hx
  rcases hx with rfl | rfl | rfl | rfl | rfl <;> exact sb_lt hC hC3 hS hS3 hG hG3 (by decide)
theorem bt_send (hi : lI h i) (hK : K.length = 5) (hK6 : ∀ s ∈ K, s < 6) (hC : C.length = 5) (hC3 : ∀ s ∈ C, s < 3) (hS : S.length = 5) (hS3 : ∀ s ∈ S, s < 3) (hG : G.length = 5) (hG3 : ∀ s ∈ G, s < 3) {s n b : Nat} {l4 : Option Value} (hb : b < n) (hn : n < 1000) (k : Ev (d + 2) m_X3_sendFor 7 [some (.ref i), some (.int (nI s)), some (.int (nI n)), some (.int (nI (b + 1))), some (.int (nI 5))] [] (lh h i K (bst K C S G) C C c t j) Q) : Ev (d + 2) m_X3_sendFor 7 [some (.ref i), some (.int (nI s)), some (.int (nI n)), some (.int (nI b)), l4] [] (lh h i K S G C c t j) Q := by
  have hsb : ∀ p, p < 5 → sb K C S G p < 3 := fun p hp => sb_lt hC hC3 hS hS3 hG hG3 hp
  obtain ⟨k0, k1, k2, k3, k4, rfl⟩ := l5 hK
  obtain ⟨c0, c1, c2, c3, c4, rfl⟩ := l5 hC
  obtain ⟨s0, s1, s2, s3, s4, rfl⟩ := l5 hS
  obtain ⟨g0, g1, g2, g3, g4, rfl⟩ := l5 hG
  simp only [List.mem_cons, List.not_mem_nil, or_false, forall_eq_or_imp, forall_eq] at hK6 hC3 hS3 hG3
  iterate 3 refine ev_nx rfl ?_
  refine ev_ge (fun h => absurd h (by omega)) (fun _ => ?_)
  iterate 2 refine ev_nx rfl ?_
  have B0 := hsb 0 (by decide)
  have B1 := hsb 1 (by decide)
  have B2 := hsb 2 (by decide)
  have B3 := hsb 3 (by decide)
  simp only [sb] at B0 B1 B2 B3
  refine it_send hi rfl (by simp; omega) rfl (by simp; omega) rfl (by simp; omega) rfl (by simp; omega) (p := 0) (by decide) ?_
  refine it_send hi rfl (by simp; omega) rfl (by simp; omega) rfl (l_set_lt (by simp; omega) B0) rfl (by simp; omega) (p := 1) (by decide) ?_
  refine it_send hi rfl (by simp; omega) rfl (by simp; omega) rfl (l_set_lt (l_set_lt (by simp; omega) B0) B1) rfl (by simp; omega) (p := 2) (by decide) ?_
  refine it_send hi rfl (by simp; omega) rfl (by simp; omega) rfl (l_set_lt (l_set_lt (l_set_lt (by simp; omega) B0) B1) B2) rfl (by simp; omega) (p := 3) (by decide) ?_
  refine it_send hi rfl (by simp; omega) rfl (by simp; omega) rfl (l_set_lt (l_set_lt (l_set_lt (l_set_lt (by simp; omega) B0) B1) B2) B3) rfl (by simp; omega) (p := 4) (by decide) ?_
  iterate 3 refine ev_nx rfl ?_
  refine ev_ge (fun _ => ?_) (fun h => absurd h (by decide))
  iterate 2 refine ev_nx rfl ?_
  rw [nI_add]
  exact k
theorem lp_send (hi : lI h i) (hK : K.length = 5) (hK6 : ∀ s ∈ K, s < 6) (hC : C.length = 5) (hC3 : ∀ s ∈ C, s < 3) {s n : Nat} (hn : n < 1000) : ∀ (r b : Nat) (S G : List Nat) (l4 : Option Value), b + r = n → S.length = 5 → (∀ s ∈ S, s < 3) → G.length = 5 → (∀ s ∈ G, s < 3) → (∀ l4, Ev (d + 2) m_X3_sendFor 91 [some (.ref i), some (.int (nI s)), some (.int (nI n)), some (.int (nI n)), l4] [] (lh h i K (btn K C r S G) (gtn C r G) C c t j) Q) → Ev (d + 2) m_X3_sendFor 7 [some (.ref i), some (.int (nI s)), some (.int (nI n)), some (.int (nI b)), l4] [] (lh h i K S G C c t j) Q := by
  intro r
  induction r with
  | zero =>
    intro b S G l4 hb hS hS3 hG hG3 k
    have hb : b = n := by omega
    subst hb
    iterate 3 refine ev_nx rfl ?_
    exact ev_ge (fun _ => k l4) (fun h => absurd h (by omega))
  | succ r ih =>
    intro b S G l4 hb hS hS3 hG hG3 k
    refine bt_send hi hK hK6 hC hC3 hS hS3 hG hG3 (by omega) hn ?_
    refine ih (b + 1) _ _ _ (by omega) rfl (bst_lt hC hC3 hS hS3 hG hG3) hC hC3 (fun l4 => ?_)
    have k1 := k l4
    rw [btn, gtn, if_neg (by omega)] at k1
    have e : gtn C r C = C := by unfold gtn; split <;> rfl
    rw [e]
    exact k1
theorem btn_ok (hC : C.length = 5) (hC3 : ∀ s ∈ C, s < 3) : ∀ (r : Nat) (S G : List Nat), S.length = 5 → (∀ s ∈ S, s < 3) → G.length = 5 → (∀ s ∈ G, s < 3) → (btn K C r S G).length = 5 ∧ ∀ s ∈ btn K C r S G, s < 3
  | 0, S, G, hS, hS3, _, _ => ⟨hS, hS3⟩
  | r + 1, S, G, hS, hS3, hG, hG3 => btn_ok hC hC3 r _ _ rfl (bst_lt hC hC3 hS hS3 hG hG3) hC hC3
theorem gtn_ok (hC : C.length = 5) (hC3 : ∀ s ∈ C, s < 3) (r : Nat) (hG : G.length = 5) (hG3 : ∀ s ∈ G, s < 3) : (gtn C r G).length = 5 ∧ ∀ s ∈ gtn C r G, s < 3 := by
  unfold gtn; split
  · exact ⟨hG, hG3⟩
  · exact ⟨hC, hC3⟩
/-- a line is as it must be -/
def lok (K S G : List Nat) (c t j : Nat) : Prop := (K.length = 5 ∧ ∀ s ∈ K, s < 6) ∧ (S.length = 5 ∧ ∀ s ∈ S, s < 3) ∧ (G.length = 5 ∧ ∀ s ∈ G, s < 3) ∧ c < 32 ∧ t < 32 ∧ j < 16
theorem e_sendFor (hi : lI h i) (ok : lok K S G c t j) (hC : C.length = 5) {s n : Nat} (hs : s < 31) (hn : n < 1000) : Ec (d + 2) m_X3_sendFor [.ref i, .int (nI s), .int (nI n)] (lh h i K S G C c t j) (rt (.int (nI (rdS (btn K (cry s c t j) n S G)))) (lh h i K (btn K (cry s c t j) n S G) (gtn (cry s c t j) n G) (cry s c t j) c t j)) := by
  obtain ⟨⟨hK, hK6⟩, ⟨hS, hS3⟩, ⟨hG, hG3⟩, hc, ht, hj⟩ := ok
  have hb := btn_ok (K := K) (cry_len (s := s) (c := c) (t := t) (j := j)) (cry_lt hs) n S G hS hS3 hG hG3
  refine ec_in [some (.ref i), some (.int (nI s)), some (.int (nI n)), none, none] rfl rfl ?_
  iterate 2 refine ev_nx rfl ?_
  refine ev_vv rfl rfl rfl rfl rfl rfl (lh_0 hi.1) rfl (e_carrySign hi hC hc ht (by omega) hs) ?_ (by have := hi.1; have := hi.2; omega)
  iterate 2 refine ev_nx rfl ?_
  refine lp_send hi hK hK6 cry_len (cry_lt hs) hn n 0 S G _ (by omega) hS hS3 hG hG3 (fun l4 => ?_)
  refine ev_nx rfl ?_
  refine ev_vi rfl rfl rfl rfl rfl rfl (lh_0 hi.1) rfl (e_readSign hi hb.1 hb.2) ?_ (by have := hi.1; have := hi.2; omega)
  exact ev_ri rfl rfl rfl ⟨rfl, rfl⟩
def z5 : List Nat := [0, 0, 0, 0, 0]
theorem lok_rest {K S G : List Nat} {c t j : Nat} (ok : lok K S G c t j) : lok K z5 z5 c t j := ⟨ok.1, ⟨rfl, by decide⟩, ⟨rfl, by decide⟩, ok.2.2.2⟩
theorem e_sendFromRest (hi : lI h i) (ok : lok K S G c t j) (hC : C.length = 5) {s n : Nat} (hs : s < 31) (hn : n < 1000) : Ec (d + 3) m_X3_sendFromRest [.ref i, .int (nI s), .int (nI n)] (lh h i K S G C c t j) (rt (.int (nI (rdS (btn K (cry s c t j) n z5 z5)))) (lh h i K (btn K (cry s c t j) n z5 z5) (gtn (cry s c t j) n z5) (cry s c t j) c t j)) := by
  refine ec_in [some (.ref i), some (.int (nI s)), some (.int (nI n))] rfl rfl ?_
  refine ev_nx rfl ?_
  refine ev_vv rfl rfl rfl rfl rfl rfl (lh_0 hi.1) rfl (e_rest hi ok.2.1.1 ok.2.2.1.1) ?_ (by have := hi.1; have := hi.2; omega)
  iterate 3 refine ev_nx rfl ?_
  refine ev_vi rfl rfl rfl rfl rfl rfl (lh_0 hi.1) rfl (e_sendFor hi (lok_rest ok) hC hs hn) ?_ (by have := hi.1; have := hi.2; omega)
  exact ev_ri rfl rfl rfl ⟨rfl, rfl⟩
end LS
end
section
/-! a line as facts of its cells; copyFrom -/
def lat (g : aH) (o : Nat) (K S G C : List Nat) (c t j : Nat) : Prop := g[o]? = some (lo o c t j) ∧ g[o + 1]? = some (ar K) ∧ g[o + 2]? = some (ar S) ∧ g[o + 3]? = some (ar G) ∧ g[o + 4]? = some (ar C)
section LF
variable {g : aH} {i o : Nat} {K S G C K2 S2 G2 C2 : List Nat} {c t j c2 t2 j2 : Nat} {d : Nat} {Q : Option Value → aH → Prop}
theorem lat_lt (h : lat g o K S G C c t j) : o + 4 < g.length := (List.getElem?_eq_some_iff.mp h.2.2.2.2).1
theorem lat_self (h : lat g o K S G C c t j) : lh g o K S G C c t j = g := (lh_ext (lat_lt h) rfl h.1 h.2.1 h.2.2.1 h.2.2.2.1 h.2.2.2.2 (fun _ _ => rfl)).symm
theorem lat_of (hi : i + 4 < g.length) : lat (lh g i K S G C c t j) i K S G C c t j := ⟨lh_0 hi, lh_1 hi, lh_2 hi, lh_3 hi, lh_4 hi⟩
theorem lat_o (h : lat g o K2 S2 G2 C2 c2 t2 j2) (hd : o + 4 < i ∨ i + 4 < o) : lat (lh g i K S G C c t j) o K2 S2 G2 C2 c2 t2 j2 :=
  ⟨by rw [lh_o (by omega)]; exact h.1, by rw [lh_o (by omega)]; exact h.2.1, by rw [lh_o (by omega)]; exact h.2.2.1, by rw [lh_o (by omega)]; exact h.2.2.2.1, by rw [lh_o (by omega)]; exact h.2.2.2.2⟩
theorem lh_lh {K' S' G' C' : List Nat} {c' t' j' : Nat} (hi : i + 4 < g.length) : lh (lh g i K S G C c t j) i K' S' G' C' c' t' j' = lh g i K' S' G' C' c' t' j' :=
  lh_ext hi (by rw [lh_len, lh_len]) (lh_0 (by rw [lh_len]; exact hi)) (lh_1 (by rw [lh_len]; exact hi)) (lh_2 (by rw [lh_len]; exact hi)) (lh_3 (by rw [lh_len]; exact hi)) (lh_4 (by rw [lh_len]; exact hi)) (fun k hk => by rw [lh_o hk, lh_o hk])
theorem it_copy (hi : lI g i) (ho : o + 4 < 100000) (hd : o + 4 < i ∨ i + 4 < o) (hO : lat g o K2 S2 G2 C2 c2 t2 j2) (hK : K.length = 5) (hS : S.length = 5) (hG : G.length = 5) (hK2 : K2.length = 5) (hS2 : S2.length = 5) (hG2 : G2.length = 5) {p : Nat} (hp : p < 5) (k : Ev d m_X3_copyFrom 2 [some (.ref i), some (.ref o), some (.int (nI (p + 1)))] [] (lh g i (K.set p (K2.getD p 0)) (S.set p (S2.getD p 0)) (G.set p (G2.getD p 0)) C c t j) Q) : Ev d m_X3_copyFrom 2 [some (.ref i), some (.ref o), some (.int (nI p))] [] (lh g i K S G C c t j) Q := by
  iterate 3 refine ev_nx rfl ?_
  refine ev_ge (fun h => absurd h (by omega)) (fun _ => ?_)
  refine ev_nx rfl ?_
  refine ev_lf hi rfl rfl rfl rfl ?_
  iterate 2 refine ev_nx rfl ?_
  refine ev_gf rfl rfl (lat_o hO hd).1 rfl ?_
  refine ev_nx rfl ?_
  refine ev_ia rfl (am_arr_h (by omega) (lat_o hO hd).2.1) (mg (by omega)) ?_
  refine ev_sK hi rfl (by omega) ?_
  refine ev_nx rfl ?_
  refine ev_lf hi rfl rfl rfl rfl ?_
  iterate 2 refine ev_nx rfl ?_
  refine ev_gf rfl rfl (lat_o hO hd).1 rfl ?_
  refine ev_nx rfl ?_
  refine ev_ia rfl (am_arr_h (by omega) (lat_o hO hd).2.2.1) (mg (by omega)) ?_
  refine ev_sS hi rfl (by omega) ?_
  refine ev_nx rfl ?_
  refine ev_lf hi rfl rfl rfl rfl ?_
  iterate 2 refine ev_nx rfl ?_
  refine ev_gf rfl rfl (lat_o hO hd).1 rfl ?_
  refine ev_nx rfl ?_
  refine ev_ia rfl (am_arr_h (by omega) (lat_o hO hd).2.2.2.1) (mg (by omega)) ?_
  refine ev_sG hi rfl (by omega) ?_
  iterate 2 refine ev_nx rfl ?_
  rw [nI_add]
  exact k
theorem e_copyFrom (hi : lI g i) (hd : o + 4 < i ∨ i + 4 < o) (hO : lat g o K2 S2 G2 C2 c2 t2 j2) (hK : K.length = 5) (hS : S.length = 5) (hG : G.length = 5) (hK2 : K2.length = 5) (hS2 : S2.length = 5) (hG2 : G2.length = 5) : Ec d m_X3_copyFrom [.ref i, .ref o] (lh g i K S G C c t j) (rtv (lh g i K2 S2 G2 C c2 t2 j2)) := by
  have ho2 := lat_lt hO
  have hg := hi.2
  have ho : o + 4 < 100000 := by omega
  obtain ⟨k0, k1, k2, k3, k4, rfl⟩ := l5 hK
  obtain ⟨s0, s1, s2, s3, s4, rfl⟩ := l5 hS
  obtain ⟨g0, g1, g2, g3, g4, rfl⟩ := l5 hG
  obtain ⟨k20, k21, k22, k23, k24, rfl⟩ := l5 hK2
  obtain ⟨s20, s21, s22, s23, s24, rfl⟩ := l5 hS2
  obtain ⟨g20, g21, g22, g23, g24, rfl⟩ := l5 hG2
  refine ec_in [some (.ref i), some (.ref o), none] rfl rfl ?_
  iterate 2 refine ev_nx rfl ?_
  refine it_copy hi ho hd hO rfl rfl rfl rfl rfl rfl (p := 0) (by decide) ?_
  refine it_copy hi ho hd hO rfl rfl rfl rfl rfl rfl (p := 1) (by decide) ?_
  refine it_copy hi ho hd hO rfl rfl rfl rfl rfl rfl (p := 2) (by decide) ?_
  refine it_copy hi ho hd hO rfl rfl rfl rfl rfl rfl (p := 3) (by decide) ?_
  refine it_copy hi ho hd hO rfl rfl rfl rfl rfl rfl (p := 4) (by decide) ?_
  iterate 3 refine ev_nx rfl ?_
  refine ev_ge (fun _ => ?_) (fun h => absurd h (by decide))
  iterate 2 refine ev_nx rfl ?_
  refine ev_gf rfl rfl (lat_o hO hd).1 rfl ?_
  refine ev_lp (c' := c2) (t' := t) (j' := j) hi rfl rfl (by decide) (by decide) rfl ?_
  iterate 2 refine ev_nx rfl ?_
  refine ev_gf rfl rfl (lat_o hO hd).1 rfl ?_
  refine ev_lp (c' := c2) (t' := t2) (j' := j) hi rfl rfl (by decide) (by decide) rfl ?_
  iterate 2 refine ev_nx rfl ?_
  refine ev_gf rfl rfl (lat_o hO hd).1 rfl ?_
  refine ev_lp (c' := c2) (t' := t2) (j' := j2) hi rfl rfl (by decide) (by decide) rfl ?_
  exact ev_rt rfl ⟨rfl, rfl⟩
end LF
end
section
/-! messages -/
def mat (h : aH) (sg ln : List Nat) (mn : Nat) : Prop := h[3]? = some (.inr (.inr (4, [.ref 4, .ref 5, .int (nI mn)]))) ∧ h[4]? = some (ar sg) ∧ h[5]? = some (ar ln)
section MS
variable {h : aH} {i : Nat} {K S G C : List Nat} {c t j : Nat} {d : Nat} {Q : Option Value → aH → Prop} {sg ln : List Nat} {mn : Nat}
theorem mat_lh (hm : mat h sg ln mn) (hi : 5 < i) : mat (lh h i K S G C c t j) sg ln mn := ⟨by rw [lh_o (by omega)]; exact hm.1, by rw [lh_o (by omega)]; exact hm.2.1, by rw [lh_o (by omega)]; exact hm.2.2⟩
theorem e_lengthOf (hm : mat h sg ln mn) (hl : ln.length = 6) {x : Nat} (hx : x < 6) : Ec d m_X4_lengthOf [.ref 3, .int (nI x)] h (rt (.int (nI (ln.getD x 0))) h) := by
  refine ec_in [some (.ref 3), some (.int (nI x))] rfl rfl ?_
  refine ev_nx rfl ?_
  refine ev_gf rfl rfl hm.1 rfl ?_
  refine ev_nx rfl ?_
  refine ev_ia rfl (am_arr_h (by decide) hm.2.2) (mg (by omega)) ?_
  exact ev_ri rfl rfl rfl ⟨rfl, rfl⟩
theorem e_signOf (hm : mat h sg ln mn) (hl : sg.length = 48) {x k : Nat} (hx : x < 6) (hk : k < 8) : Ec d m_X4_signOf [.ref 3, .int (nI x), .int (nI k)] h (rt (.int (nI (sg.getD (x * 8 + k) 0))) h) := by
  refine ec_in [some (.ref 3), some (.int (nI x)), some (.int (nI k))] rfl rfl ?_
  refine ev_nx rfl ?_
  refine ev_gf rfl rfl hm.1 rfl ?_
  iterate 5 refine ev_nx rfl ?_
  rw [pk_mul, nI_add]
  refine ev_ia rfl (am_arr_h (by decide) hm.2.1) (mg (by omega)) ?_
  exact ev_ri rfl rfl rfl ⟨rfl, rfl⟩
/-- a line's moving part behind n beats of a sign -/
def sd (K : List Nat) (c t j s n : Nat) (x : List Nat × List Nat) : List Nat × List Nat := (btn K (cry s c t j) n x.1 x.2, gtn (cry s c t j) n x.2)
theorem sd_ok {x : List Nat × List Nat} {s n : Nat} (ok : lok K x.1 x.2 c t j) (hs : s < 31) : lok K (sd K c t j s n x).1 (sd K c t j s n x).2 c t j :=
  ⟨ok.1, btn_ok cry_len (cry_lt hs) n _ _ ok.2.1.1 ok.2.1.2 ok.2.2.1.1 ok.2.2.1.2, gtn_ok cry_len (cry_lt hs) n ok.2.2.1.1 ok.2.2.1.2, ok.2.2.2⟩
theorem e_sendFor2 (hi : lI h i) {x : List Nat × List Nat} (ok : lok K x.1 x.2 c t j) (hC : C.length = 5) {s n : Nat} (hs : s < 31) (hn : n < 1000) : Ec (d + 2) m_X3_sendFor [.ref i, .int (nI s), .int (nI n)] (lh h i K x.1 x.2 C c t j) (rt (.int (nI (rdS (sd K c t j s n x).1))) (lh h i K (sd K c t j s n x).1 (sd K c t j s n x).2 (cry s c t j) c t j)) := e_sendFor hi ok hC hs hn
/-- a sign said: r beats of it, g of nothing -/
def sy (K : List Nat) (c t j r g s : Nat) (x : List Nat × List Nat) : List Nat × List Nat := sd K c t j 30 g (sd K c t j s r x)
/-- what is read for it -/
def rk (K : List Nat) (c t j r s : Nat) (x : List Nat × List Nat) : Nat := rdS (sd K c t j s r x).1
/-- how many are right -/
def rgt (K : List Nat) (c t j r g : Nat) : List Nat → List Nat × List Nat → Nat
  | [], _ => 0
  | s :: l, x => (if rk K c t j r s x = s then 1 else 0) + rgt K c t j r g l (sy K c t j r g s x)
/-- behind some signs -/
def syl (K : List Nat) (c t j r g : Nat) : List Nat → List Nat × List Nat → List Nat × List Nat
  | [], x => x
  | s :: l, x => syl K c t j r g l (sy K c t j r g s x)
def z55 : List Nat × List Nat := (z5, z5)
/-- only a line's moving part has changed -/
def lj (h : aH) (i : Nat) (K : List Nat) (c t j : Nat) (h' : aH) : Prop := ∃ S G C, h' = lh h i K S G C c t j ∧ lok K S G c t j ∧ C.length = 5
def rj (v : Nat) (h : aH) (i : Nat) (K : List Nat) (c t j : Nat) : Option Value → aH → Prop := fun r h' => r = some (.int (nI v)) ∧ lj h i K c t j h'
theorem sy_ok {x : List Nat × List Nat} {r g s : Nat} (ok : lok K x.1 x.2 c t j) (hs : s < 31) : lok K (sy K c t j r g s x).1 (sy K c t j r g s x).2 c t j := sd_ok (sd_ok ok hs) (by decide)
theorem rk_lt_aux : ∀ r l ra la : Nat, r ≤ 5 → l ≤ 5 → ra < 5 → la < 5 → rdA r l ra la < 32 := by
  intro r l ra la h1 h2 h3 h4
  have hlb : ∀ x : Fin 25, lbT.getD x.val 0 < 32 := by decide
  unfold rdA
  split
  · decide
  · split
    · split
      · exact hlb ⟨ra * 5 + la, by omega⟩
      · omega
    · split <;> omega
theorem rdS_lt {S : List Nat} (hS : S.length = 5) : rdS S < 32 := by
  obtain ⟨a0, a1, a2, a3, a4, rfl⟩ := l5 hS
  unfold rdS
  simp only [rsF]
  exact rk_lt_aux _ _ _ _ (ite_le1 _ 4 (ite_le1 _ 3 (ite_le1 _ 2 (ite_le1 _ 1 (ite_le1 _ 0 (Nat.le_refl 0)))))) (ite_le1 _ 4 (ite_le1 _ 3 (ite_le1 _ 2 (ite_le1 _ 1 (ite_le1 _ 0 (Nat.le_refl 0)))))) (ite_lt5 _ _ (by decide) (ite_lt5 _ _ (by decide) (ite_lt5 _ _ (by decide) (ite_lt5 _ _ (by decide) (ite_lt5 _ _ (by decide) (by decide)))))) (ite_lt5 _ _ (by decide) (ite_lt5 _ _ (by decide) (ite_lt5 _ _ (by decide) (ite_lt5 _ _ (by decide) (ite_lt5 _ _ (by decide) (by decide))))))
theorem rk_lt {x : List Nat × List Nat} {r s : Nat} (ok : lok K x.1 x.2 c t j) (hs : s < 31) : rk K c t j r s x < 32 := rdS_lt (sd_ok (n := r) ok hs).2.1.1
/-- the message at a place: its signs -/
def msg (sg ln : List Nat) (x : Nat) : List Nat := (sg.drop (x * 8)).take (ln.getD x 0)
theorem msg_len {x : Nat} (hs : sg.length = 48) (hx : x < 6) (h8 : ln.getD x 0 ≤ 8) : (msg sg ln x).length = ln.getD x 0 := by
  unfold msg; rw [List.length_take, List.length_drop]; omega
theorem msg_at {x k : Nat} (hk : k < ln.getD x 0) : (msg sg ln x).getD k 0 = sg.getD (x * 8 + k) 0 := by
  unfold msg; rw [List.getD_eq_getElem?_getD, List.getElem?_take, if_pos hk, List.getElem?_drop, List.getD_eq_getElem?_getD]
theorem msg_drop {x k : Nat} (hs : sg.length = 48) (hx : x < 6) (h8 : ln.getD x 0 ≤ 8) (hk : k < ln.getD x 0) : (msg sg ln x).drop k = sg.getD (x * 8 + k) 0 :: (msg sg ln x).drop (k + 1) := by
  have hl := msg_len hs hx h8
  rw [List.drop_eq_getElem_cons (by omega)]
  congr 1
  rw [← msg_at hk, List.getD, List.getElem?_eq_getElem (by omega)]; rfl
/-! rightOn -/
theorem lp_right (hi : lI h i) (h5 : 5 < i) (hm : mat h sg ln mn) (hs : sg.length = 48) (hl : ln.length = 6) (hs20 : ∀ s ∈ sg, s < 31) {m r g : Nat} (hx : m < 6) (h8 : ln.getD m 0 ≤ 8) (hr : r < 1000) (hg : g < 1000) : ∀ (n k a : Nat) (x : List Nat × List Nat) (C : List Nat) (l7 : Option Value), k + n = ln.getD m 0 → a ≤ k → lok K x.1 x.2 c t j → C.length = 5 → Ev (d + 3) m_X4_rightOn 10 [some (.ref 3), some (.ref i), some (.int (nI m)), some (.int (nI r)), some (.int (nI g)), some (.int (nI a)), some (.int (nI k)), l7] [] (lh h i K x.1 x.2 C c t j) (rj (a + rgt K c t j r g ((msg sg ln m).drop k) x) h i K c t j) := by
  intro n
  induction n with
  | zero =>
    intro k a x C l7 hk ha ok hC
    iterate 2 refine ev_nx rfl ?_
    refine ev_gf rfl rfl (mat_lh hm h5).1 rfl ?_
    refine ev_nx rfl ?_
    refine ev_ia rfl (am_arr_h (by decide) (mat_lh hm h5).2.2) (mg (by omega)) ?_
    refine ev_nx rfl ?_
    refine ev_ge (fun _ => ?_) (fun h => absurd h (by omega))
    refine ev_nx rfl ?_
    refine ev_ri rfl rfl rfl ⟨?_, _, _, _, rfl, ok, hC⟩
    rw [List.drop_eq_nil_of_le (by rw [msg_len hs hx h8]; omega), rgt]
    rfl
  | succ n ih =>
    intro k a x C l7 hk ha ok hC
    have hsk : sg.getD (m * 8 + k) 0 < 31 := gd3 hs20 (by omega)
    have hrk := rk_lt (r := r) ok hsk
    rw [msg_drop hs hx h8 (by omega), rgt]
    iterate 2 refine ev_nx rfl ?_
    refine ev_gf rfl rfl (mat_lh hm h5).1 rfl ?_
    refine ev_nx rfl ?_
    refine ev_ia rfl (am_arr_h (by decide) (mat_lh hm h5).2.2) (mg (by omega)) ?_
    refine ev_nx rfl ?_
    refine ev_ge (fun h => absurd h (by omega)) (fun _ => ?_)
    iterate 3 refine ev_nx rfl ?_
    refine ev_vi rfl rfl rfl rfl rfl rfl (mat_lh hm h5).1 rfl (e_signOf (mat_lh hm h5) hs hx (by omega)) ?_
    iterate 5 refine ev_nx rfl ?_
    refine ev_vi rfl rfl rfl rfl rfl rfl (lh_0 hi.1) rfl (e_sendFor2 hi ok hC hsk hr) ?_ (by have := hi.1; have := hi.2; omega)
    have H : ∀ y : Nat, y = (if rk K c t j r (sg.getD (m * 8 + k) 0) x = sg.getD (m * 8 + k) 0 then 1 else 0) → Ev (d + 3) m_X4_rightOn 49 [some (.ref 3), some (.ref i), some (.int (nI m)), some (.int (nI r)), some (.int (nI g)), some (.int (nI a)), some (.int (nI k)), some (.int (nI (sg.getD (m * 8 + k) 0)))] [.int (nI y), .int (nI a)] (lh h i K (sd K c t j (sg.getD (m * 8 + k) 0) r x).1 (sd K c t j (sg.getD (m * 8 + k) 0) r x).2 (cry (sg.getD (m * 8 + k) 0) c t j) c t j) (rj (a + ((if rk K c t j r (sg.getD (m * 8 + k) 0) x = sg.getD (m * 8 + k) 0 then 1 else 0) + rgt K c t j r g ((msg sg ln m).drop (k + 1)) (sy K c t j r g (sg.getD (m * 8 + k) 0) x))) h i K c t j) := by
      intro y hy
      have hy1 : y ≤ 1 := by rw [hy]; split <;> omega
      rw [← hy]
      iterate 5 refine ev_nx rfl ?_
      refine ev_vi rfl rfl rfl rfl rfl rfl (lh_0 hi.1) rfl (e_sendFor2 hi (sd_ok ok hsk) cry_len (by decide) hg) ?_ (by have := hi.1; have := hi.2; omega)
      iterate 3 refine ev_nx rfl ?_
      rw [nI_add, nI_add, ← Nat.add_assoc]
      exact ih (k + 1) (a + y) (sy K c t j r g (sg.getD (m * 8 + k) 0) x) _ _ (by omega) (by omega) (sy_ok ok hsk) cry_len
    iterate 2 refine ev_nx rfl ?_
    refine ev_ne (fun hc => ?_) (fun hc => ?_) (by show rk K c t j r (sg.getD (m * 8 + k) 0) x < _; omega)
    · refine ev_nx rfl ?_
      exact H 0 (by rw [if_neg]; exact hc)
    · iterate 2 refine ev_nx rfl ?_
      exact H 1 (by rw [if_pos]; exact hc)
theorem e_rightOn (hi : lI h i) (h5 : 5 < i) (hm : mat h sg ln mn) (hs : sg.length = 48) (hl : ln.length = 6) (hs20 : ∀ s ∈ sg, s < 31) {m r g : Nat} (hx : m < 6) (h8 : ln.getD m 0 ≤ 8) (hr : r < 1000) (hg : g < 1000) (ok : lok K S G c t j) (hC : C.length = 5) : Ec (d + 3) m_X4_rightOn [.ref 3, .ref i, .int (nI m), .int (nI r), .int (nI g)] (lh h i K S G C c t j) (rj (rgt K c t j r g (msg sg ln m) z55) h i K c t j) := by
  refine ec_in [some (.ref 3), some (.ref i), some (.int (nI m)), some (.int (nI r)), some (.int (nI g)), none, none, none] rfl rfl ?_
  refine ev_nx rfl ?_
  refine ev_vv rfl rfl rfl rfl rfl rfl (lh_0 hi.1) rfl (e_rest hi ok.2.1.1 ok.2.2.1.1) ?_ (by have := hi.1; have := hi.2; omega)
  iterate 4 refine ev_nx rfl ?_
  have H := lp_right (d := d) (K := K) (c := c) (t := t) (j := j) hi h5 hm hs hl hs20 hx h8 hr hg (ln.getD m 0) 0 0 z55 C none (by omega) (by omega) (lok_rest ok) hC
  rw [List.drop_zero, Nat.zero_add] at H
  exact H
end MS
end
section
/-! messages: readOn, isAllRightOn, begin, spell -/
section MT
variable {h : aH} {i : Nat} {K S G C : List Nat} {c t j : Nat} {d : Nat} {Q : Option Value → aH → Prop} {sg ln : List Nat} {mn : Nat}
/-- what is read of the k-th sign of some -/
def rdk (K : List Nat) (c t j r g : Nat) (l : List Nat) (k : Nat) (x : List Nat × List Nat) : Nat := rk K c t j r (l.getD k 0) (syl K c t j r g (l.take k) x)
/-- all are right -/
def alr (K : List Nat) (c t j r g : Nat) : List Nat → List Nat × List Nat → Bool
  | [], _ => true
  | s :: l, x => if rk K c t j r s x = s then alr K c t j r g l (sy K c t j r g s x) else false
def b2n (b : Bool) : Nat := if b then 1 else 0
theorem lp_read (hi : lI h i) (h5 : 5 < i) (hm : mat h sg ln mn) (hs : sg.length = 48) (hl : ln.length = 6) (hs20 : ∀ s ∈ sg, s < 31) {m r g k : Nat} (hx : m < 6) (h8 : ln.getD m 0 ≤ 8) (hk : k < ln.getD m 0) (hr : r < 1000) (hg : g < 1000) : ∀ (n p : Nat) (x : List Nat × List Nat) (C : List Nat), p + n = k → lok K x.1 x.2 c t j → C.length = 5 → Ev (d + 3) m_X4_readOn 7 [some (.ref 3), some (.ref i), some (.int (nI m)), some (.int (nI r)), some (.int (nI g)), some (.int (nI k)), some (.int (nI p))] [] (lh h i K x.1 x.2 C c t j) (rj (rk K c t j r (sg.getD (m * 8 + k) 0) (syl K c t j r g (((msg sg ln m).drop p).take n) x)) h i K c t j) := by
  intro n
  induction n with
  | zero =>
    intro p x C hp ok hC
    have hsk : sg.getD (m * 8 + k) 0 < 31 := gd3 hs20 (by omega)
    rw [List.take_zero, syl]
    iterate 3 refine ev_nx rfl ?_
    refine ev_ge (fun _ => ?_) (fun h => absurd h (by omega))
    iterate 4 refine ev_nx rfl ?_
    refine ev_vi rfl rfl rfl rfl rfl rfl (mat_lh hm h5).1 rfl (e_signOf (mat_lh hm h5) hs hx (by omega)) ?_
    refine ev_nx rfl ?_
    refine ev_vi rfl rfl rfl rfl rfl rfl (lh_0 hi.1) rfl (e_sendFor2 hi ok hC hsk hr) ?_ (by have := hi.1; have := hi.2; omega)
    exact ev_ri rfl rfl rfl ⟨rfl, _, _, _, rfl, sd_ok ok hsk, cry_len⟩
  | succ n ih =>
    intro p x C hp ok hC
    have hsp : sg.getD (m * 8 + p) 0 < 31 := gd3 hs20 (by omega)
    rw [msg_drop hs hx h8 (by omega), List.take_succ_cons, syl]
    iterate 3 refine ev_nx rfl ?_
    refine ev_ge (fun h => absurd h (by omega)) (fun _ => ?_)
    iterate 4 refine ev_nx rfl ?_
    refine ev_vi rfl rfl rfl rfl rfl rfl (mat_lh hm h5).1 rfl (e_signOf (mat_lh hm h5) hs hx (by omega)) ?_
    refine ev_nx rfl ?_
    refine ev_vi rfl rfl rfl rfl rfl rfl (lh_0 hi.1) rfl (e_sendFor2 hi ok hC hsp hr) ?_ (by have := hi.1; have := hi.2; omega)
    iterate 4 refine ev_nx rfl ?_
    refine ev_vi rfl rfl rfl rfl rfl rfl (lh_0 hi.1) rfl (e_sendFor2 hi (sd_ok ok hsp) cry_len (by decide) hg) ?_ (by have := hi.1; have := hi.2; omega)
    iterate 3 refine ev_nx rfl ?_
    rw [nI_add]
    exact ih (p + 1) (sy K c t j r g (sg.getD (m * 8 + p) 0) x) _ (by omega) (sy_ok ok hsp) cry_len
theorem e_readOn (hi : lI h i) (h5 : 5 < i) (hm : mat h sg ln mn) (hs : sg.length = 48) (hl : ln.length = 6) (hs20 : ∀ s ∈ sg, s < 31) {m r g k : Nat} (hx : m < 6) (h8 : ln.getD m 0 ≤ 8) (hk : k < ln.getD m 0) (hr : r < 1000) (hg : g < 1000) (ok : lok K S G c t j) (hC : C.length = 5) : Ec (d + 3) m_X4_readOn [.ref 3, .ref i, .int (nI m), .int (nI r), .int (nI g), .int (nI k)] (lh h i K S G C c t j) (rj (rdk K c t j r g (msg sg ln m) k z55) h i K c t j) := by
  refine ec_in [some (.ref 3), some (.ref i), some (.int (nI m)), some (.int (nI r)), some (.int (nI g)), some (.int (nI k)), none] rfl rfl ?_
  refine ev_nx rfl ?_
  refine ev_vv rfl rfl rfl rfl rfl rfl (lh_0 hi.1) rfl (e_rest hi ok.2.1.1 ok.2.2.1.1) ?_ (by have := hi.1; have := hi.2; omega)
  iterate 2 refine ev_nx rfl ?_
  have H := lp_read (d := d) (K := K) (c := c) (t := t) (j := j) hi h5 hm hs hl hs20 hx h8 hk hr hg k 0 z55 C (by omega) (lok_rest ok) hC
  rw [List.drop_zero, ← msg_at hk] at H
  exact H
theorem lp_all (hi : lI h i) (h5 : 5 < i) (hm : mat h sg ln mn) (hs : sg.length = 48) (hl : ln.length = 6) (hs20 : ∀ s ∈ sg, s < 31) {m r g : Nat} (hx : m < 6) (h8 : ln.getD m 0 ≤ 8) (hr : r < 1000) (hg : g < 1000) : ∀ (n k : Nat) (x : List Nat × List Nat) (C : List Nat) (l6 : Option Value), k + n = ln.getD m 0 → lok K x.1 x.2 c t j → C.length = 5 → Ev (d + 3) m_X4_isAllRightOn 7 [some (.ref 3), some (.ref i), some (.int (nI m)), some (.int (nI r)), some (.int (nI g)), some (.int (nI k)), l6] [] (lh h i K x.1 x.2 C c t j) (rj (b2n (alr K c t j r g ((msg sg ln m).drop k) x)) h i K c t j) := by
  intro n
  induction n with
  | zero =>
    intro k x C l6 hk ok hC
    iterate 2 refine ev_nx rfl ?_
    refine ev_gf rfl rfl (mat_lh hm h5).1 rfl ?_
    refine ev_nx rfl ?_
    refine ev_ia rfl (am_arr_h (by decide) (mat_lh hm h5).2.2) (mg (by omega)) ?_
    refine ev_nx rfl ?_
    refine ev_ge (fun _ => ?_) (fun h => absurd h (by omega))
    refine ev_nx rfl ?_
    refine ev_ri rfl rfl rfl ⟨?_, _, _, _, rfl, ok, hC⟩
    rw [List.drop_eq_nil_of_le (by rw [msg_len hs hx h8]; omega), alr]
    rfl
  | succ n ih =>
    intro k x C l6 hk ok hC
    have hsk : sg.getD (m * 8 + k) 0 < 31 := gd3 hs20 (by omega)
    have hrk := rk_lt (r := r) ok hsk
    rw [msg_drop hs hx h8 (by omega), alr]
    iterate 2 refine ev_nx rfl ?_
    refine ev_gf rfl rfl (mat_lh hm h5).1 rfl ?_
    refine ev_nx rfl ?_
    refine ev_ia rfl (am_arr_h (by decide) (mat_lh hm h5).2.2) (mg (by omega)) ?_
    refine ev_nx rfl ?_
    refine ev_ge (fun h => absurd h (by omega)) (fun _ => ?_)
    iterate 3 refine ev_nx rfl ?_
    refine ev_vi rfl rfl rfl rfl rfl rfl (mat_lh hm h5).1 rfl (e_signOf (mat_lh hm h5) hs hx (by omega)) ?_
    iterate 4 refine ev_nx rfl ?_
    refine ev_vi rfl rfl rfl rfl rfl rfl (lh_0 hi.1) rfl (e_sendFor2 hi ok hC hsk hr) ?_ (by have := hi.1; have := hi.2; omega)
    iterate 2 refine ev_nx rfl ?_
    refine ev_eq (fun hc => ?_) (fun hc => ?_) (by show rk K c t j r (sg.getD (m * 8 + k) 0) x < _; omega)
    · rw [if_pos (show rk K c t j r (sg.getD (m * 8 + k) 0) x = _ from hc)]
      iterate 3 refine ev_nx rfl ?_
      refine ev_vi rfl rfl rfl rfl rfl rfl (lh_0 hi.1) rfl (e_sendFor2 hi (sd_ok ok hsk) cry_len (by decide) hg) ?_ (by have := hi.1; have := hi.2; omega)
      iterate 3 refine ev_nx rfl ?_
      rw [nI_add]
      exact ih (k + 1) (sy K c t j r g (sg.getD (m * 8 + k) 0) x) _ _ (by omega) (sy_ok ok hsk) cry_len
    · rw [if_neg (show ¬ rk K c t j r (sg.getD (m * 8 + k) 0) x = _ from hc)]
      refine ev_nx rfl ?_
      exact ev_ri rfl rfl rfl ⟨rfl, _, _, _, rfl, sd_ok ok hsk, cry_len⟩
theorem e_isAllRightOn (hi : lI h i) (h5 : 5 < i) (hm : mat h sg ln mn) (hs : sg.length = 48) (hl : ln.length = 6) (hs20 : ∀ s ∈ sg, s < 31) {m r g : Nat} (hx : m < 6) (h8 : ln.getD m 0 ≤ 8) (hr : r < 1000) (hg : g < 1000) (ok : lok K S G c t j) (hC : C.length = 5) : Ec (d + 3) m_X4_isAllRightOn [.ref 3, .ref i, .int (nI m), .int (nI r), .int (nI g)] (lh h i K S G C c t j) (rj (b2n (alr K c t j r g (msg sg ln m) z55)) h i K c t j) := by
  refine ec_in [some (.ref 3), some (.ref i), some (.int (nI m)), some (.int (nI r)), some (.int (nI g)), none, none] rfl rfl ?_
  refine ev_nx rfl ?_
  refine ev_vv rfl rfl rfl rfl rfl rfl (lh_0 hi.1) rfl (e_rest hi ok.2.1.1 ok.2.2.1.1) ?_ (by have := hi.1; have := hi.2; omega)
  iterate 2 refine ev_nx rfl ?_
  have H := lp_all (d := d) (K := K) (c := c) (t := t) (j := j) hi h5 hm hs hl hs20 hx h8 hr hg (ln.getD m 0) 0 z55 C none (by omega) (lok_rest ok) hC
  rw [List.drop_zero] at H
  exact H
/-- only the messages have changed -/
def mj (h : aH) (sg ln : List Nat) (mn : Nat) : Option Value → aH → Prop := fun r h' => r = none ∧ mat h' sg ln mn ∧ h'.length = h.length ∧ ∀ q, q < 3 ∨ 5 < q → h'[q]? = h[q]?
theorem gset_n {h : aH} {a q : Nat} {x : aC} (hn : a ≠ q) : (h.set a x)[q]? = h[q]? := List.getElem?_set_ne hn
theorem gset_s {h : aH} {a : Nat} {x y : aC} (hy : h[a]? = some y) : (h.set a x)[a]? = some x := by
  rw [List.getElem?_set_self]; obtain ⟨hl, _⟩ := List.getElem?_eq_some_iff.mp hy; exact hl
theorem e_begin (hm : mat h sg ln mn) (hl : ln.length = 6) (h6 : mn ≤ 6) : Ec d m_X4_begin [.ref 3] h (mj h sg (if mn < 6 then ln.set mn 0 else ln) (if mn < 6 then mn + 1 else mn)) := by
  refine ec_in [some (.ref 3)] rfl rfl ?_
  refine ev_nx rfl ?_
  refine ev_gf rfl rfl hm.1 rfl ?_
  iterate 2 refine ev_nx rfl ?_
  refine ev_ge (fun hc => ?_) (fun hc => ?_)
  · rw [if_neg (by omega), if_neg (by omega)]
    exact ev_rt rfl ⟨rfl, hm, rfl, fun _ _ => rfl⟩
  · rw [if_pos (by omega), if_pos (by omega)]
    refine ev_nx rfl ?_
    refine ev_gf rfl rfl hm.1 rfl ?_
    refine ev_nx rfl ?_
    refine ev_gf rfl rfl hm.1 rfl ?_
    refine ev_nx rfl ?_
    refine ev_is rfl hm.2.2 (by rw [List.length_map]; omega) ?_
    have hm1 : (h.set 5 (.inl (0, (ln.map nI).set mn (nI 0))))[3]? = some (.inr (.inr (4, [.ref 4, .ref 5, .int (nI mn)]))) := by rw [gset_n (by decide)]; exact hm.1
    iterate 2 refine ev_nx rfl ?_
    refine ev_gf rfl rfl hm1 rfl ?_
    iterate 2 refine ev_nx rfl ?_
    rw [nI_add]
    refine ev_pf rfl rfl hm1 (by show 2 < 3; decide) rfl rfl rfl ?_
    refine ev_rt rfl ⟨rfl, ⟨?_, ?_, ?_⟩, by simp, fun q hq => ?_⟩
    · rw [gset_s hm1]; rfl
    · rw [gset_n (by decide), gset_n (by decide)]; exact hm.2.1
    · rw [gset_n (by decide), gset_s hm.2.2, ms_]; rfl
    · rw [gset_n (by omega), gset_n (by omega)]
/-- the signs of the letters -/
def leT : List Nat := [0, 1, 8, 2, 3, 4, 5, 6, 7, 5, 8, 9, 10, 11, 12, 13, 8, 14, 15, 16, 18, 17, 18, 15, 19, 15]
theorem t2_at {x : Nat} (hx : x < 26) : am_t2[x]? = some (nI (leT.getD x 0)) ∧ leT.getD x 0 < 20 := (show ∀ x : Fin 26, am_t2[x.val]? = some (nI (leT.getD x.val 0)) ∧ leT.getD x.val 0 < 20 by decide +kernel) ⟨x, hx⟩
/-- a letter is spelt -/
abbrev spo (ln : List Nat) (mn x : Nat) : Prop := 0 < mn ∧ ln.getD (mn - 1) 0 < 8 ∧ 65 ≤ x ∧ x ≤ 90
def sps (sg ln : List Nat) (mn x : Nat) : List Nat := if spo ln mn x then sg.set ((mn - 1) * 8 + ln.getD (mn - 1) 0) (leT.getD (x - 65) 0) else sg
def spl (ln : List Nat) (mn x : Nat) : List Nat := if spo ln mn x then ln.set (mn - 1) (ln.getD (mn - 1) 0 + 1) else ln
theorem wi_n {x a b : Nat} (hx : x < 65536) (ha : a < 65536) (hb : b < 65536) : wi (nI x) (nI a) (nI b) = if a ≤ x ∧ x ≤ b then 1 else 0 := by
  unfold wi
  by_cases hc : a ≤ x ∧ x ≤ b
  · rw [if_pos hc, if_pos ⟨(nI_leI (by omega) (by omega)).mpr hc.1, (nI_leI (by omega) (by omega)).mpr hc.2⟩]
  · rw [if_neg hc, if_neg]
    intro q
    exact hc ⟨(nI_leI (by omega) (by omega)).mp q.1, (nI_leI (by omega) (by omega)).mp q.2⟩
theorem e_spell (hm : mat h sg ln mn) (hs : sg.length = 48) (hl : ln.length = 6) (h6 : mn ≤ 6) (h8 : ∀ x ∈ ln, x ≤ 8) {x : Nat} (hx : x < 65536) : Ec (d + 1) m_X4_spell [.ref 3, .int (nI x)] h (mj h (sps sg ln mn x) (spl ln mn x) mn) := by
  refine ec_in [some (.ref 3), some (.int (nI x)), none] rfl rfl ?_
  have no : ¬ spo ln mn x → mj h (sps sg ln mn x) (spl ln mn x) mn none h := fun hn => by
    rw [sps, spl, if_neg hn, if_neg hn]; exact ⟨rfl, hm, rfl, fun _ _ => rfl⟩
  refine ev_nx rfl ?_
  refine ev_gf rfl rfl hm.1 rfl ?_
  cases mn with
  | zero =>
    iterate 4 refine ev_nx rfl ?_
    refine ev_nx rfl ?_
    refine ev_t (by decide) ?_
    exact ev_rt rfl (no (fun q => absurd q.1 (by decide)))
  | succ mn =>
    have hg8 : ln.getD mn 0 ≤ 8 := by
      rw [List.getD, List.getElem?_eq_getElem (by omega)]; exact h8 _ (List.getElem_mem _)
    iterate 2 refine ev_nx rfl ?_
    rw [pk_sub (by omega), Nat.add_sub_cancel]
    iterate 3 refine ev_nx rfl ?_
    refine ev_lt0 ?_
    refine ev_nx rfl ?_
    refine ev_gf rfl rfl hm.1 rfl ?_
    refine ev_nx rfl ?_
    refine ev_ia rfl (am_arr_h (by decide) hm.2.2) (mg (by omega)) ?_
    iterate 2 refine ev_nx rfl ?_
    refine ev_ge (fun hc => ?_) (fun hc => ?_)
    · exact ev_rt rfl (no (fun q => absurd q.2.1 (by rw [Nat.add_sub_cancel]; omega)))
    · iterate 3 refine ev_nx rfl ?_
      refine ev_ci rfl rfl (ec_le (Nat.zero_le d) (e_within (nI x) (nI 65) (nI 90) h)) ?_
      rw [wi_n hx (by decide) (by decide)]
      by_cases hw : 65 ≤ x ∧ x ≤ 90
      · rw [if_pos hw]
        refine ev_nx rfl ?_
        refine ev_t (by decide) ?_
        have hok : spo ln (mn + 1) x := ⟨by omega, by rw [Nat.add_sub_cancel]; omega, hw⟩
        rw [sps, spl, if_pos hok, if_pos hok, Nat.add_sub_cancel]
        refine ev_nx rfl ?_
        refine ev_gf rfl rfl hm.1 rfl ?_
        iterate 4 refine ev_nx rfl ?_
        refine ev_gf rfl rfl hm.1 rfl ?_
        refine ev_nx rfl ?_
        refine ev_ia rfl (am_arr_h (by decide) hm.2.2) (mg (by omega)) ?_
        iterate 5 refine ev_nx rfl ?_
        rw [pk_mul, nI_add, pk_sub (by omega)]
        refine ev_ia (a := 100002) rfl rfl (t2_at (by omega)).1 ?_
        refine ev_is rfl hm.2.1 (by rw [List.length_map]; omega) ?_
        have hm1 : ∀ y, (h.set 4 y)[3]? = some (.inr (.inr (4, [.ref 4, .ref 5, .int (nI (mn + 1))]))) := fun y => by rw [gset_n (by decide)]; exact hm.1
        have hm5 : ∀ y, (h.set 4 y)[5]? = some (ar ln) := fun y => by rw [gset_n (by decide)]; exact hm.2.2
        refine ev_nx rfl ?_
        refine ev_gf rfl rfl (hm1 _) rfl ?_
        iterate 2 refine ev_nx rfl ?_
        refine ev_ia rfl (am_arr_h (by decide) (hm5 _)) (mg (by omega)) ?_
        iterate 2 refine ev_nx rfl ?_
        rw [nI_add]
        refine ev_is rfl (hm5 _) (by rw [List.length_map]; omega) ?_
        refine ev_rt rfl ⟨rfl, ⟨?_, ?_, ?_⟩, by simp, fun q hq => ?_⟩
        · rw [gset_n (by decide)]; exact hm1 _
        · rw [gset_n (by decide), gset_s hm.2.1, ms_]; rfl
        · rw [gset_s (hm5 _), ms_]; rfl
        · rw [gset_n (by omega), gset_n (by omega)]
      · rw [if_neg hw]
        refine ev_nx rfl ?_
        refine ev_f (by decide) ?_
        exact ev_rt rfl (no (fun q => hw q.2.2))
end MT
end
section
/-! what is heard; the past -/
/-- only the cells from a to b have changed -/
def fr (a b : Nat) (h h' : aH) : Prop := h'.length = h.length ∧ ∀ q, q < a ∨ b < q → h'[q]? = h[q]?
def hat (h : aH) (l : List Nat) (n : Nat) : Prop := h[74]? = some (.inr (.inr (2, [.ref 75, .int (nI n)]))) ∧ h[75]? = some (ar l)
/-- like, sign by sign; 31 is like every sign -/
def lik : List Nat → List Nat → Bool
  | [], [] => true
  | a :: l, b :: s => if a = 31 then lik l s else if a = b then lik l s else false
  | _, _ => false
theorem lik_len : ∀ l s : List Nat, ¬ s.length = l.length → lik l s = false
  | [], [], h => absurd rfl h
  | [], _ :: _, _ => rfl
  | _ :: _, [], _ => rfl
  | a :: l, b :: s, h => by
    have := lik_len l s (fun e => h (by rw [List.length_cons, List.length_cons, e]))
    unfold lik
    rw [this]
    split
    · rfl
    · split <;> rfl
section HP
variable {h : aH} {i : Nat} {l sg ln : List Nat} {n mn d : Nat} {Q : Option Value → aH → Prop}
theorem e_hadd (hm : hat h l n) (hl : l.length = 8) (hn : n ≤ 8) {s : Nat} : Ec d m_X2_add [.ref 74, .int (nI s)] h (fun r h' => r = none ∧ hat h' (if n < 8 then l.set n s else l) (if n < 8 then n + 1 else n) ∧ fr 74 75 h h') := by
  refine ec_in [some (.ref 74), some (.int (nI s))] rfl rfl ?_
  refine ev_nx rfl ?_
  refine ev_gf rfl rfl hm.1 rfl ?_
  iterate 2 refine ev_nx rfl ?_
  refine ev_ge (fun hc => ?_) (fun hc => ?_)
  · rw [if_neg (by omega), if_neg (by omega)]
    exact ev_rt rfl ⟨rfl, hm, rfl, fun _ _ => rfl⟩
  · rw [if_pos (by omega), if_pos (by omega)]
    refine ev_nx rfl ?_
    refine ev_gf rfl rfl hm.1 rfl ?_
    refine ev_nx rfl ?_
    refine ev_gf rfl rfl hm.1 rfl ?_
    refine ev_nx rfl ?_
    refine ev_is rfl hm.2 (by rw [List.length_map]; omega) ?_
    have hm1 : ∀ y, (h.set 75 y)[74]? = some (.inr (.inr (2, [.ref 75, .int (nI n)]))) := fun y => by rw [gset_n (by decide)]; exact hm.1
    iterate 2 refine ev_nx rfl ?_
    refine ev_gf rfl rfl (hm1 _) rfl ?_
    iterate 2 refine ev_nx rfl ?_
    rw [nI_add]
    refine ev_pf rfl rfl (hm1 _) (by show 1 < 2; decide) rfl rfl rfl ?_
    refine ev_rt rfl ⟨rfl, ⟨?_, ?_⟩, by simp, fun q hq => ?_⟩
    · rw [gset_s (hm1 _)]; rfl
    · rw [gset_n (by decide), gset_s hm.2, ms_]; rfl
    · rw [gset_n (by omega), gset_n (by omega)]
theorem e_hempty (hm : hat h l n) : Ec d m_X2_empty [.ref 74] h (fun r h' => r = some (.int (nI n)) ∧ hat h' l 0 ∧ fr 74 75 h h') := by
  refine ec_in [some (.ref 74), none] rfl rfl ?_
  refine ev_nx rfl ?_
  refine ev_gf rfl rfl hm.1 rfl ?_
  iterate 3 refine ev_nx rfl ?_
  refine ev_pf rfl rfl hm.1 (by show 1 < 2; decide) rfl rfl rfl ?_
  refine ev_nx rfl ?_
  refine ev_ri rfl rfl rfl ⟨rfl, ⟨?_, ?_⟩, by simp, fun q hq => ?_⟩
  · rw [gset_s hm.1]; rfl
  · rw [gset_n (by decide)]; exact hm.2
  · rw [gset_n (by omega)]
theorem tk_drop {k : Nat} (hl : n ≤ l.length) (hk : k < n) : (l.take n).drop k = l.getD k 0 :: (l.take n).drop (k + 1) := by
  have hlen : (l.take n).length = n := by rw [List.length_take]; omega
  rw [List.drop_eq_getElem_cons (by omega)]
  congr 1
  rw [List.getElem_take, List.getD, List.getElem?_eq_getElem (by omega)]; rfl
theorem lp_like (hm : hat h l n) (hl : l.length = 8) (hn : n ≤ 8) (hl32 : ∀ s ∈ l, s < 32) (hM : mat h sg ln mn) (hs : sg.length = 48) (hln : ln.length = 6) (hs20 : ∀ s ∈ sg, s < 31) {m : Nat} (hx : m < 6) (he : ln.getD m 0 = n) : ∀ r k, k + r = n → Ev (d + 1) m_X2_isLike 16 [some (.ref 74), some (.ref 3), some (.int (nI m)), some (.int (nI k))] [] h (rt (.int (nI (b2n (lik ((l.take n).drop k) ((msg sg ln m).drop k))))) h) := by
  intro r
  induction r with
  | zero =>
    intro k hk
    iterate 2 refine ev_nx rfl ?_
    refine ev_gf rfl rfl hm.1 rfl ?_
    refine ev_nx rfl ?_
    refine ev_ge (fun _ => ?_) (fun h => absurd h (by omega))
    refine ev_nx rfl ?_
    refine ev_ri rfl rfl rfl ⟨?_, rfl⟩
    rw [List.drop_eq_nil_of_le (by rw [List.length_take]; omega), List.drop_eq_nil_of_le (by rw [msg_len hs hx (by omega)]; omega)]
    rfl
  | succ r ih =>
    intro k hk
    have hsk : sg.getD (m * 8 + k) 0 < 31 := gd3 hs20 (by omega)
    have hlk : l.getD k 0 < 32 := gd3 hl32 (by omega)
    have ih := ih (k + 1) (by omega)
    rw [msg_drop hs hx (by omega) (by omega), tk_drop (by omega) (by omega), lik]
    have J : ∀ b : Bool, b = lik ((l.take n).drop (k + 1)) ((msg sg ln m).drop (k + 1)) → Ev (d + 1) m_X2_isLike 52 [some (.ref 74), some (.ref 3), some (.int (nI m)), some (.int (nI k))] [] h (rt (.int (nI (b2n b))) h) := by
      intro b hb
      rw [hb]
      iterate 2 refine ev_nx rfl ?_
      rw [nI_add]
      exact ih
    iterate 2 refine ev_nx rfl ?_
    refine ev_gf rfl rfl hm.1 rfl ?_
    refine ev_nx rfl ?_
    refine ev_ge (fun h => absurd h (by omega)) (fun _ => ?_)
    refine ev_nx rfl ?_
    refine ev_gf rfl rfl hm.1 rfl ?_
    refine ev_nx rfl ?_
    refine ev_ia rfl (am_arr_h (by decide) hm.2) (mg (by omega)) ?_
    iterate 2 refine ev_nx rfl ?_
    refine ev_eq (fun hc => ?_) (fun hc => ?_)
    · rw [if_pos hc]
      exact J _ rfl
    · rw [if_neg hc]
      refine ev_nx rfl ?_
      refine ev_gf rfl rfl hm.1 rfl ?_
      refine ev_nx rfl ?_
      refine ev_ia rfl (am_arr_h (by decide) hm.2) (mg (by omega)) ?_
      iterate 3 refine ev_nx rfl ?_
      refine ev_vi rfl rfl rfl rfl rfl rfl hM.1 rfl (e_signOf hM hs hx (by omega)) ?_
      refine ev_nx rfl ?_
      refine ev_eq (fun hc => ?_) (fun hc => ?_)
      · rw [if_pos hc]
        exact J _ rfl
      · rw [if_neg hc]
        refine ev_nx rfl ?_
        exact ev_ri rfl rfl rfl ⟨rfl, rfl⟩
theorem e_isLike (hm : hat h l n) (hl : l.length = 8) (hn : n ≤ 8) (hl32 : ∀ s ∈ l, s < 32) (hM : mat h sg ln mn) (hs : sg.length = 48) (hln : ln.length = 6) (hs20 : ∀ s ∈ sg, s < 31) {m : Nat} (hx : m < 6) (h8 : ln.getD m 0 ≤ 8) : Ec (d + 1) m_X2_isLike [.ref 74, .ref 3, .int (nI m)] h (rt (.int (nI (b2n (lik (l.take n) (msg sg ln m))))) h) := by
  refine ec_in [some (.ref 74), some (.ref 3), some (.int (nI m)), none] rfl rfl ?_
  iterate 2 refine ev_nx rfl ?_
  refine ev_vi rfl rfl rfl rfl rfl rfl hM.1 rfl (e_lengthOf hM hln hx) ?_
  refine ev_nx rfl ?_
  refine ev_gf rfl rfl hm.1 rfl ?_
  refine ev_nx rfl ?_
  refine ev_eq (fun hc => ?_) (fun hc => ?_)
  · iterate 2 refine ev_nx rfl ?_
    have H := lp_like (d := d) hm hl hn hl32 hM hs hln hs20 hx hc n 0 (by omega)
    rw [List.drop_zero, List.drop_zero] at H
    exact H
  · rw [lik_len _ _ (by rw [msg_len hs hx h8, List.length_take]; omega)]
    refine ev_nx rfl ?_
    exact ev_ri rfl rfl rfl ⟨rfl, rfl⟩
end HP
/-! the past -/
/-- a line's numbers: kept, state, given, cut, turned, joined -/
abbrev aN : Type := List Nat × List Nat × List Nat × Nat × Nat × Nat
def ltx (g : aH) (o : Nat) (x : aN) : Prop := ∃ C, C.length = 5 ∧ lat g o x.1 x.2.1 x.2.2.1 C x.2.2.2.1 x.2.2.2.2.1 x.2.2.2.2.2
def nok (x : aN) : Prop := x.1.length = 5 ∧ x.2.1.length = 5 ∧ x.2.2.1.length = 5
def zN : aN := (z5, z5, z5, 0, 0, 0)
def po (nx dd kp : Nat) : aC := .inr (.inr (5, [.ref 17, .ref 18, .int (nI nx), .int (nI dd), .int (nI kp)]))
def pat (h : aH) (nx dd kp : Nat) (L : List aN) : Prop := h[16]? = some (po nx dd kp) ∧ h[17]? = some (.inr (.inl ((List.range 8).map (fun n => some (19 + 5 * n))))) ∧ h[18]? = some (.inr (.inl [some 59, some 64])) ∧ L.length = 10 ∧ ∀ n, n < 10 → ltx h (19 + 5 * n) (L.getD n zN) ∧ nok (L.getD n zN)
section PA
variable {h h' : aH} {i o d nx dd kp : Nat} {x y : aN} {L : List aN} {Q : Option Value → aH → Prop}
theorem ltx_fr (hx : ltx h o x) (hq : ∀ q, o ≤ q → q ≤ o + 4 → h'[q]? = h[q]?) : ltx h' o x := by
  obtain ⟨C, hC, a, b, c, e, f⟩ := hx
  exact ⟨C, hC, by rw [hq _ (by omega) (by omega)]; exact a, by rw [hq _ (by omega) (by omega)]; exact b, by rw [hq _ (by omega) (by omega)]; exact c, by rw [hq _ (by omega) (by omega)]; exact e, by rw [hq _ (by omega) (by omega)]; exact f⟩
theorem ltx_o (hx : ltx h o x) : ∃ c t j, h[o]? = some (lo o c t j) := by
  obtain ⟨C, hC, a, _⟩ := hx
  exact ⟨_, _, _, a⟩
theorem e_copy (hx : ltx h i x) (hy : ltx h o y) (nx : nok x) (ny : nok y) (hd : o + 4 < i ∨ i + 4 < o) (hh : h.length ≤ 100000) : Ec d m_X3_copyFrom [.ref i, .ref o] h (fun r h' => r = none ∧ ltx h' i y ∧ fr i (i + 4) h h') := by
  obtain ⟨C, hC, a⟩ := hx
  obtain ⟨C2, hC2, b⟩ := hy
  have hl := lat_lt a
  have H := e_copyFrom (C := C) (c := x.2.2.2.1) (t := x.2.2.2.2.1) (j := x.2.2.2.2.2) (d := d) ⟨hl, hh⟩ hd b nx.1 nx.2.1 nx.2.2 ny.1 ny.2.1 ny.2.2
  rw [lat_self a] at H
  refine ec_mono H (fun r h' q => ?_)
  obtain ⟨rfl, rfl⟩ := q
  exact ⟨rfl, ⟨C, hC, lat_of hl⟩, lh_len, fun q hq => lh_o (by omega)⟩
theorem pat_set (hp : pat h nx dd kp L) {a b c : Nat} : pat (h.set 16 (po a b c)) a b c L :=
  ⟨gset_s hp.1, by rw [gset_n (by decide)]; exact hp.2.1, by rw [gset_n (by decide)]; exact hp.2.2.1, hp.2.2.2.1, fun n hn => ⟨ltx_fr (hp.2.2.2.2 n hn).1 (fun q h1 h2 => gset_n (by omega)), (hp.2.2.2.2 n hn).2⟩⟩
theorem pat_cp (hp : pat h nx dd kp L) {n : Nat} (hn : n < 10) (hx : ltx h' (19 + 5 * n) x) (nx' : nok x) (hf : fr (19 + 5 * n) (19 + 5 * n + 4) h h') : pat h' nx dd kp (L.set n x) := by
  refine ⟨by rw [hf.2 _ (by omega)]; exact hp.1, by rw [hf.2 _ (by omega)]; exact hp.2.1, by rw [hf.2 _ (by omega)]; exact hp.2.2.1, by rw [List.length_set]; exact hp.2.2.2.1, fun k hk => ?_⟩
  by_cases e : n = k
  · subst e
    have : (L.set n x).getD n zN = x := by
      rw [List.getD, List.getElem?_set_self (by rw [hp.2.2.2.1]; exact hn)]; rfl
    rw [this]; exact ⟨hx, nx'⟩
  · have : (L.set n x).getD k zN = L.getD k zN := by
      rw [List.getD, List.getElem?_set_ne e]; rfl
    rw [this]
    exact ⟨ltx_fr (hp.2.2.2.2 k hk).1 (fun q h1 h2 => hf.2 q (by omega)), (hp.2.2.2.2 k hk).2⟩
theorem pat_fr (hp : pat h nx dd kp L) {a b : Nat} (hb : b < 16 ∨ 68 < a) (hf : fr a b h h') : pat h' nx dd kp L :=
  ⟨by rw [hf.2 _ (by omega)]; exact hp.1, by rw [hf.2 _ (by omega)]; exact hp.2.1, by rw [hf.2 _ (by omega)]; exact hp.2.2.1, hp.2.2.2.1, fun n hn => ⟨ltx_fr (hp.2.2.2.2 n hn).1 (fun q h1 h2 => hf.2 q (by omega)), (hp.2.2.2.2 n hn).2⟩⟩
theorem ev_ps {y : Nat × Nat × Nat × Nat × FieldType × Bool} {m : aM} {pc np r x v a b c : Nat} {LL : aL} {T : List Value} (hp : h[16]? = some (po nx dd kp)) (hc : am_cd m pc = some (.putfield x, np, r)) (hy : am_fs[r]? = some y) (h3 : y.2.2.1 = 5 ∧ y.2.2.2.2.1 = .int ∧ y.2.2.2.2.2 = false) (hl : y.2.2.2.1 < 5) (hv : [Value.ref 17, .ref 18, .int (nI nx), .int (nI dd), .int (nI kp)].set y.2.2.2.1 (.int (nI v)) = [.ref 17, .ref 18, .int (nI a), .int (nI b), .int (nI c)]) (k : Ev d m np LL T (h.set 16 (po a b c)) Q) : Ev d m pc LL (.int (nI v) :: .ref 16 :: T) h Q := by
  refine ev_pf hc hy (fs := [.ref 17, .ref 18, .int (nI nx), .int (nI dd), .int (nI kp)]) (by rw [hp, h3.1]; rfl) hl (by rw [h3.2.1]; rfl) (by rw [h3.2.1]; rfl) h3.2.2 ?_
  rw [hv, h3.1]
  exact k
theorem n_min {a b : Nat} (ha : a < 2147483648) (hb : b < 2147483648) : (if nI b < nI a then nI b else nI a) = nI (min a b) := by
  by_cases hc : b < a
  · rw [if_pos ((nI_ltI hb ha).mpr hc), Nat.min_eq_right (by omega)]
  · rw [if_neg (fun q => hc ((nI_ltI hb ha).mp q)), Nat.min_eq_left (by omega)]
theorem rg8 {n : Nat} (hn : n < 8) : ((List.range 8).map (fun n => some (19 + 5 * n)))[n]? = some (some (19 + 5 * n)) := by
  rw [List.getElem?_map, List.getElem?_range hn]; rfl
theorem e_pempty (hp : pat h nx dd kp L) : Ec d m_X5_empty [.ref 16] h (fun r h' => r = none ∧ pat h' nx 0 0 L ∧ fr 16 68 h h') := by
  refine ec_in [some (.ref 16)] rfl rfl ?_
  iterate 2 refine ev_nx rfl ?_
  refine ev_ps (a := nx) (b := 0) (c := kp) hp.1 rfl rfl (by decide) (by decide) rfl ?_
  iterate 2 refine ev_nx rfl ?_
  refine ev_ps (a := nx) (b := 0) (c := 0) (pat_set hp).1 rfl rfl (by decide) (by decide) rfl ?_
  exact ev_rt rfl ⟨rfl, pat_set (pat_set hp), by simp, fun q hq => by rw [gset_n (by omega), gset_n (by omega)]⟩
theorem e_remember (hp : pat h nx dd kp L) (hn : nx < 8) (hdd : dd ≤ 8) (hx : ltx h i x) (okx : nok x) (hi : i + 4 < 16) (hh : h.length ≤ 100000) : Ec (d + 1) m_X5_remember [.ref 16, .ref i] h (fun r h' => r = none ∧ pat h' ((nx + 1) % 8) (min (dd + 1) 8) kp (L.set nx x) ∧ fr 16 68 h h') := by
  refine ec_in [some (.ref 16), some (.ref i)] rfl rfl ?_
  refine ev_nx rfl ?_
  refine ev_gf rfl rfl hp.1 rfl ?_
  refine ev_nx rfl ?_
  refine ev_gf rfl rfl hp.1 rfl ?_
  refine ev_aa rfl hp.2.1 (rg8 hn) ?_
  refine ev_nx rfl ?_
  obtain ⟨c1, t1, j1, ho⟩ := ltx_o (hp.2.2.2.2 nx (by omega)).1
  refine ev_v rfl rfl rfl rfl rfl rfl ho rfl (e_copy (hp.2.2.2.2 nx (by omega)).1 hx (hp.2.2.2.2 nx (by omega)).2 okx (by omega) hh) (fun rv h2 q => ?_)
  obtain ⟨rfl, q1, q2⟩ := q
  have hp2 := pat_cp hp (by omega) q1 okx q2
  iterate 2 refine ev_nx rfl ?_
  refine ev_gf rfl rfl hp2.1 rfl ?_
  iterate 4 refine ev_nx rfl ?_
  rw [nI_add, pk_rem (by omega) (by decide) (by decide)]
  refine ev_ps (a := (nx + 1) % 8) (b := dd) (c := kp) hp2.1 rfl rfl (by decide) (by decide) rfl ?_
  iterate 2 refine ev_nx rfl ?_
  refine ev_gf rfl rfl (pat_set hp2).1 rfl ?_
  iterate 4 refine ev_nx rfl ?_
  rw [nI_add, n_min (by omega) (by decide)]
  refine ev_ps (a := (nx + 1) % 8) (b := min (dd + 1) 8) (c := kp) (pat_set hp2).1 rfl rfl (by decide) (by decide) rfl ?_
  exact ev_rt rfl ⟨rfl, pat_set (pat_set hp2), by rw [List.length_set, List.length_set]; exact q2.1, fun q hq => by rw [gset_n (by omega), gset_n (by omega)]; exact q2.2 q (by omega)⟩
theorem e_undoOn (hp : pat h nx dd kp L) (hn : nx < 8) (hdd : dd ≤ 8) (hx : ltx h i x) (okx : nok x) (hi : i + 4 < 16) (hh : h.length ≤ 100000) : Ec (d + 1) m_X5_undoOn [.ref 16, .ref i] h (fun r h' => r = none ∧ pat h' (if 0 < dd then (nx + 7) % 8 else nx) (dd - 1) kp L ∧ ltx h' i (if 0 < dd then L.getD ((nx + 7) % 8) zN else x) ∧ h'.length = h.length ∧ ∀ q, q < i ∨ i + 4 < q → ¬ q = 16 → h'[q]? = h[q]?) := by
  refine ec_in [some (.ref 16), some (.ref i)] rfl rfl ?_
  refine ev_nx rfl ?_
  refine ev_gf rfl rfl hp.1 rfl ?_
  refine ev_nx rfl ?_
  refine ev_le0 (fun hc => ?_) (fun hc => ?_)
  · subst hc
    exact ev_rt rfl ⟨rfl, hp, hx, rfl, fun _ _ _ => rfl⟩
  · rw [if_pos hc, if_pos hc]
    iterate 2 refine ev_nx rfl ?_
    refine ev_gf rfl rfl hp.1 rfl ?_
    iterate 6 refine ev_nx rfl ?_
    rw [nI_add, pk_sub (by omega), pk_rem (by omega) (by decide) (by decide), show nx + 8 - 1 = nx + 7 by omega]
    refine ev_ps (a := (nx + 7) % 8) (b := dd) (c := kp) hp.1 rfl rfl (by decide) (by decide) rfl ?_
    iterate 2 refine ev_nx rfl ?_
    refine ev_gf rfl rfl (pat_set hp).1 rfl ?_
    iterate 2 refine ev_nx rfl ?_
    rw [pk_sub (by omega)]
    refine ev_ps (a := (nx + 7) % 8) (b := dd - 1) (c := kp) (pat_set hp).1 rfl rfl (by decide) (by decide) rfl ?_
    have hp2 := pat_set (pat_set hp (a := (nx + 7) % 8) (b := dd) (c := kp)) (a := (nx + 7) % 8) (b := dd - 1) (c := kp)
    have hx2 : ltx ((h.set 16 (po ((nx + 7) % 8) dd kp)).set 16 (po ((nx + 7) % 8) (dd - 1) kp)) i x := ltx_fr hx (fun q h1 h2 => by rw [gset_n (by omega), gset_n (by omega)])
    have hm8 : (nx + 7) % 8 < 8 := Nat.mod_lt _ (by decide)
    iterate 2 refine ev_nx rfl ?_
    refine ev_gf rfl rfl hp2.1 rfl ?_
    refine ev_nx rfl ?_
    refine ev_gf rfl rfl hp2.1 rfl ?_
    refine ev_aa rfl hp2.2.1 (rg8 hm8) ?_
    obtain ⟨c1, t1, j1, ho⟩ := ltx_o hx2
    refine ev_v rfl rfl rfl rfl rfl rfl ho rfl (e_copy hx2 (hp2.2.2.2.2 _ (by omega)).1 okx (hp2.2.2.2.2 _ (by omega)).2 (by omega) (by rw [List.length_set, List.length_set]; exact hh)) (fun rv h2 q => ?_)
    obtain ⟨rfl, q1, q2⟩ := q
    exact ev_rt rfl ⟨rfl, pat_fr hp2 (by omega) q2, q1, by rw [q2.1, List.length_set, List.length_set], fun q hq h16 => by rw [q2.2 q hq, gset_n (by omega), gset_n (by omega)]⟩
theorem kp2 {n : Nat} (hn : n < 2) : ([some 59, some 64] : List (Option Nat))[n]? = some (some (19 + 5 * (8 + n))) := by
  rcases (show n = 0 ∨ n = 1 by omega) with e | e <;> subst e <;> rfl
theorem e_keepLine (hp : pat h nx dd kp L) (hk : kp ≤ 2) (hx : ltx h i x) (okx : nok x) (hi : i + 4 < 16) (hh : h.length ≤ 100000) : Ec (d + 1) m_X5_keepLine [.ref 16, .ref i] h (fun r h' => r = none ∧ pat h' nx dd (if kp < 2 then kp + 1 else kp) (if kp < 2 then L.set (8 + kp) x else L) ∧ fr 16 68 h h') := by
  refine ec_in [some (.ref 16), some (.ref i)] rfl rfl ?_
  refine ev_nx rfl ?_
  refine ev_gf rfl rfl hp.1 rfl ?_
  iterate 2 refine ev_nx rfl ?_
  refine ev_ge (fun hc => ?_) (fun hc => ?_)
  · rw [if_neg (by omega), if_neg (by omega)]
    exact ev_rt rfl ⟨rfl, hp, rfl, fun _ _ => rfl⟩
  · rw [if_pos (by omega), if_pos (by omega)]
    refine ev_nx rfl ?_
    refine ev_gf rfl rfl hp.1 rfl ?_
    refine ev_nx rfl ?_
    refine ev_gf rfl rfl hp.1 rfl ?_
    refine ev_aa rfl hp.2.2.1 (kp2 (by omega)) ?_
    refine ev_nx rfl ?_
    obtain ⟨c1, t1, j1, ho⟩ := ltx_o (hp.2.2.2.2 (8 + kp) (by omega)).1
    refine ev_v rfl rfl rfl rfl rfl rfl ho rfl (e_copy (hp.2.2.2.2 (8 + kp) (by omega)).1 hx (hp.2.2.2.2 (8 + kp) (by omega)).2 okx (by omega) hh) (fun rv h2 q => ?_)
    obtain ⟨rfl, q1, q2⟩ := q
    have hp2 := pat_cp hp (by omega) q1 okx q2
    iterate 2 refine ev_nx rfl ?_
    refine ev_gf rfl rfl hp2.1 rfl ?_
    iterate 2 refine ev_nx rfl ?_
    rw [nI_add]
    refine ev_ps (a := nx) (b := dd) (c := kp + 1) hp2.1 rfl rfl (by decide) (by decide) rfl ?_
    exact ev_rt rfl ⟨rfl, pat_set hp2, by rw [List.length_set]; exact q2.1, fun q hq => by rw [gset_n (by omega)]; exact q2.2 q (by omega)⟩
theorem e_backOn (hp : pat h nx dd kp L) (hk : kp ≤ 2) (hx : ltx h i x) (okx : nok x) (hi : i + 4 < 16) (hh : h.length ≤ 100000) : Ec (d + 1) m_X5_backOn [.ref 16, .ref i] h (fun r h' => r = none ∧ pat h' nx (if 0 < kp then 0 else dd) (kp - 1) L ∧ ltx h' i (if 0 < kp then L.getD (8 + (kp - 1)) zN else x) ∧ h'.length = h.length ∧ ∀ q, q < i ∨ i + 4 < q → ¬ q = 16 → h'[q]? = h[q]?) := by
  refine ec_in [some (.ref 16), some (.ref i)] rfl rfl ?_
  refine ev_nx rfl ?_
  refine ev_gf rfl rfl hp.1 rfl ?_
  refine ev_nx rfl ?_
  refine ev_le0 (fun hc => ?_) (fun hc => ?_)
  · subst hc
    exact ev_rt rfl ⟨rfl, hp, hx, rfl, fun _ _ _ => rfl⟩
  · rw [if_pos hc, if_pos hc]
    iterate 2 refine ev_nx rfl ?_
    refine ev_gf rfl rfl hp.1 rfl ?_
    iterate 2 refine ev_nx rfl ?_
    rw [pk_sub (by omega)]
    refine ev_ps (a := nx) (b := dd) (c := kp - 1) hp.1 rfl rfl (by decide) (by decide) rfl ?_
    have hp2 := pat_set hp (a := nx) (b := dd) (c := kp - 1)
    have hx2 : ltx (h.set 16 (po nx dd (kp - 1))) i x := ltx_fr hx (fun q h1 h2 => gset_n (by omega))
    iterate 2 refine ev_nx rfl ?_
    refine ev_gf rfl rfl hp2.1 rfl ?_
    refine ev_nx rfl ?_
    refine ev_gf rfl rfl hp2.1 rfl ?_
    refine ev_aa rfl hp2.2.2.1 (kp2 (by omega)) ?_
    obtain ⟨c1, t1, j1, ho⟩ := ltx_o hx2
    refine ev_v rfl rfl rfl rfl rfl rfl ho rfl (e_copy hx2 (hp2.2.2.2.2 (8 + (kp - 1)) (by omega)).1 okx (hp2.2.2.2.2 (8 + (kp - 1)) (by omega)).2 (by omega) (by rw [List.length_set]; exact hh)) (fun rv h2 q => ?_)
    obtain ⟨rfl, q1, q2⟩ := q
    have hp3 := pat_fr hp2 (by omega) q2
    iterate 2 refine ev_nx rfl ?_
    refine ev_ps (a := nx) (b := 0) (c := kp - 1) hp3.1 rfl rfl (by decide) (by decide) rfl ?_
    exact ev_rt rfl ⟨rfl, pat_set hp3, ltx_fr q1 (fun q h1 h2 => gset_n (by omega)), by rw [List.length_set, q2.1, List.length_set], fun q hq h16 => by rw [gset_n (by omega), q2.2 q hq, gset_n (by omega)]⟩
end PA
end
section
/-! the text -/
def sat (h : aH) (l : List Nat) (n : Nat) : Prop := h[1]? = some (.inr (.inr (6, [.ref 2, .int (nI n)]))) ∧ h[2]? = some (.inl (1, l.map nI))
def sok (l : List Nat) (n : Nat) : Prop := l.length = 200 ∧ n ≤ 200 ∧ ∀ x ∈ l, x < 65536
/-- the letter at a place, 0 behind the end -/
def lt_ (l : List Nat) (n k : Nat) : Nat := if k < n then l.getD k 0 else 0
/-- a figure, or -1 -/
def fg (x : Nat) : Int32 := if 48 ≤ x ∧ x ≤ 57 then nI (x - 48) else -(nI 1)
/-- an end, or -4 -/
def eo : Option Nat → Int32
  | some n => nI n
  | none => -(nI 4)
def wE (l : List Nat) (n k m : Nat) : Option Nat := if (48 ≤ lt_ l n (k + 1) ∧ lt_ l n (k + 1) ≤ 48 + m) ∧ lt_ l n (k + 2) = 59 then some (k + 3) else none
def nE (l : List Nat) (n k : Nat) : Option Nat := if (48 ≤ lt_ l n (k + 1) ∧ lt_ l n (k + 1) ≤ 52) ∧ lt_ l n (k + 2) = 44 ∧ (48 ≤ lt_ l n (k + 3) ∧ lt_ l n (k + 3) ≤ 53) ∧ lt_ l n (k + 4) = 59 then some (k + 5) else none
/-- how many capitals from a place, of at most f -/
def cps (l : List Nat) (n : Nat) : Nat → Nat → Nat
  | 0, _ => 0
  | f + 1, k => if 65 ≤ lt_ l n k ∧ lt_ l n k ≤ 90 then cps l n f (k + 1) + 1 else 0
def mE (l : List Nat) (n k : Nat) : Option Nat := if 0 < cps l n 8 (k + 1) ∧ lt_ l n (k + 1 + cps l n 8 (k + 1)) = 59 then some (k + cps l n 8 (k + 1) + 2) else none
def iE (l : List Nat) (n k : Nat) : Option Nat := if lt_ l n k = 110 then nE l n k else if lt_ l n k = 99 then wE l n k 4 else if lt_ l n k = 116 then wE l n k 4 else if lt_ l n k = 106 then wE l n k 3 else if lt_ l n k = 109 then mE l n k else none
section SC
variable {h : aH} {l : List Nat} {n d : Nat} {Q : Option Value → aH → Prop}
theorem lt_lt (ok : sok l n) (k : Nat) : lt_ l n k < 65536 := by
  unfold lt_
  split
  · rename_i hk
    rw [List.getD, List.getElem?_eq_getElem (by have := ok.1; have := ok.2.1; omega)]
    exact ok.2.2 _ (List.getElem_mem _)
  · decide
theorem e_letterAt (hm : sat h l n) (ok : sok l n) {k : Nat} (hk : k < 1000) : Ec d m_X6_letterAt [.ref 1, .int (nI k)] h (rt (.int (nI (lt_ l n k))) h) := by
  have hn := ok.2.1
  have hl := ok.1
  have hc := lt_lt ok k
  refine ec_in [some (.ref 1), some (.int (nI k))] rfl rfl ?_
  have J : ∀ y, y = lt_ l n k → Ev d m_X6_letterAt 22 [some (.ref 1), some (.int (nI k))] [.int (nI y)] h (rt (.int (nI (lt_ l n k))) h) := by
    intro y hy
    subst hy
    exact ev_ri rfl rfl (pk_charN hc).1 ⟨rfl, rfl⟩
  iterate 2 refine ev_nx rfl ?_
  refine ev_lt0 ?_
  iterate 2 refine ev_nx rfl ?_
  refine ev_gf rfl rfl hm.1 rfl ?_
  refine ev_nx rfl ?_
  refine ev_ge (fun hc => ?_) (fun hc => ?_)
  · refine ev_nx rfl ?_
    exact J 0 (by rw [lt_, if_neg (by omega)])
  · refine ev_nx rfl ?_
    refine ev_gf rfl rfl hm.1 rfl ?_
    refine ev_nx rfl ?_
    refine ev_ca rfl (am_arr_h (by decide) hm.2) (mg (by omega)) ?_
    refine ev_nx rfl ?_
    exact J _ (by rw [lt_, if_pos hc])
theorem e_figureAt (hm : sat h l n) (ok : sok l n) {k : Nat} (hk : k < 1000) : Ec (d + 1) m_X6_figureAt [.ref 1, .int (nI k)] h (rt (.int (fg (lt_ l n k))) h) := by
  have hc := lt_lt ok k
  refine ec_in [some (.ref 1), some (.int (nI k)), none] rfl rfl ?_
  iterate 2 refine ev_nx rfl ?_
  refine ev_vi rfl rfl rfl rfl rfl rfl hm.1 rfl (e_letterAt hm ok hk) ?_
  iterate 4 refine ev_nx rfl ?_
  refine ev_ci rfl rfl (ec_le (Nat.zero_le d) (e_within (nI (lt_ l n k)) (nI 48) (nI 57) h)) ?_
  rw [wi_n hc (by decide) (by decide)]
  unfold fg
  by_cases hw : 48 ≤ lt_ l n k ∧ lt_ l n k ≤ 57
  · rw [if_pos hw, if_pos hw]
    refine ev_nx rfl ?_
    refine ev_f (by decide) ?_
    iterate 4 refine ev_nx rfl ?_
    rw [pk_sub hw.1]
    exact ev_ri rfl rfl rfl ⟨rfl, rfl⟩
  · rw [if_neg hw, if_neg hw]
    refine ev_nx rfl ?_
    refine ev_t (by decide) ?_
    refine ev_nx rfl ?_
    exact ev_ri rfl rfl rfl ⟨rfl, rfl⟩
theorem wi_fg {x m : Nat} (hm : m ≤ 9) : wi (fg x) (nI 0) (nI m) = if 48 ≤ x ∧ x ≤ 48 + m then 1 else 0 := by
  unfold fg
  by_cases hw : 48 ≤ x ∧ x ≤ 57
  · rw [if_pos hw, wi_n (by omega) (by decide) (by omega)]
    by_cases hv : 48 ≤ x ∧ x ≤ 48 + m
    · rw [if_pos hv, if_pos (by omega)]
    · rw [if_neg hv, if_neg (by omega)]
  · rw [if_neg hw, if_neg (by omega), wi, if_neg (fun q => absurd q.1 (by decide))]
theorem e_wireEnd (hm : sat h l n) (ok : sok l n) {k m : Nat} (hk : k < 900) (hm9 : m ≤ 9) : Ec (d + 2) m_X6_wireEnd [.ref 1, .int (nI k), .int (nI m)] h (rt (.int (eo (wE l n k m))) h) := by
  have hc1 := lt_lt ok (k + 1)
  have hc2 := lt_lt ok (k + 2)
  refine ec_in [some (.ref 1), some (.int (nI k)), some (.int (nI m)), none] rfl rfl ?_
  have J : ∀ y : Nat, y = (if (48 ≤ lt_ l n (k + 1) ∧ lt_ l n (k + 1) ≤ 48 + m) ∧ lt_ l n (k + 2) = 59 then 1 else 0) → Ev (d + 2) m_X6_wireEnd 32 [some (.ref 1), some (.int (nI k)), some (.int (nI m)), none] [.int (nI y)] h (rt (.int (eo (wE l n k m))) h) := by
    intro y hy
    unfold wE
    by_cases hw : (48 ≤ lt_ l n (k + 1) ∧ lt_ l n (k + 1) ≤ 48 + m) ∧ lt_ l n (k + 2) = 59
    · rw [if_pos hw] at hy ⊢
      subst hy
      iterate 3 refine ev_nx rfl ?_
      refine ev_f (by decide) ?_
      iterate 4 refine ev_nx rfl ?_
      rw [nI_add]
      exact ev_ri rfl rfl rfl ⟨rfl, rfl⟩
    · rw [if_neg hw] at hy ⊢
      subst hy
      iterate 3 refine ev_nx rfl ?_
      refine ev_t (by decide) ?_
      refine ev_nx rfl ?_
      exact ev_ri rfl rfl rfl ⟨rfl, rfl⟩
  iterate 4 refine ev_nx rfl ?_
  rw [nI_add]
  refine ev_vi rfl rfl rfl rfl rfl rfl hm.1 rfl (e_figureAt hm ok (by omega)) ?_
  iterate 2 refine ev_nx rfl ?_
  refine ev_ci rfl rfl (ec_le (Nat.zero_le (d + 1)) (e_within (fg (lt_ l n (k + 1))) (nI 0) (nI m) h)) ?_
  rw [wi_fg hm9]
  by_cases hw : 48 ≤ lt_ l n (k + 1) ∧ lt_ l n (k + 1) ≤ 48 + m
  · rw [if_pos hw]
    refine ev_nx rfl ?_
    refine ev_f (by decide) ?_
    iterate 4 refine ev_nx rfl ?_
    rw [nI_add]
    refine ev_vi rfl rfl rfl rfl rfl rfl hm.1 rfl (e_letterAt hm ok (by omega)) ?_
    iterate 2 refine ev_nx rfl ?_
    refine ev_ne (fun hc => ?_) (fun hc => ?_)
    · refine ev_nx rfl ?_
      exact J 0 (by rw [if_neg (fun q => hc q.2)])
    · iterate 2 refine ev_nx rfl ?_
      exact J 1 (by rw [if_pos ⟨hw, hc⟩])
  · rw [if_neg hw]
    refine ev_nx rfl ?_
    refine ev_t (by decide) ?_
    refine ev_nx rfl ?_
    exact J 0 (by rw [if_neg (fun q => hw q.1)])
theorem e_needleEnd (hm : sat h l n) (ok : sok l n) {k : Nat} (hk : k < 900) : Ec (d + 2) m_X6_needleEnd [.ref 1, .int (nI k)] h (rt (.int (eo (nE l n k))) h) := by
  have hc2 := lt_lt ok (k + 2)
  have hc4 := lt_lt ok (k + 4)
  refine ec_in [some (.ref 1), some (.int (nI k)), none] rfl rfl ?_
  have J : ∀ y : Nat, y = (if (48 ≤ lt_ l n (k + 1) ∧ lt_ l n (k + 1) ≤ 52) ∧ lt_ l n (k + 2) = 44 ∧ (48 ≤ lt_ l n (k + 3) ∧ lt_ l n (k + 3) ≤ 53) ∧ lt_ l n (k + 4) = 59 then 1 else 0) → Ev (d + 2) m_X6_needleEnd 57 [some (.ref 1), some (.int (nI k)), none] [.int (nI y)] h (rt (.int (eo (nE l n k))) h) := by
    intro y hy
    unfold nE
    by_cases hw : (48 ≤ lt_ l n (k + 1) ∧ lt_ l n (k + 1) ≤ 52) ∧ lt_ l n (k + 2) = 44 ∧ (48 ≤ lt_ l n (k + 3) ∧ lt_ l n (k + 3) ≤ 53) ∧ lt_ l n (k + 4) = 59
    · rw [if_pos hw] at hy ⊢
      subst hy
      iterate 3 refine ev_nx rfl ?_
      refine ev_f (by decide) ?_
      iterate 4 refine ev_nx rfl ?_
      rw [nI_add]
      exact ev_ri rfl rfl rfl ⟨rfl, rfl⟩
    · rw [if_neg hw] at hy ⊢
      subst hy
      iterate 3 refine ev_nx rfl ?_
      refine ev_t (by decide) ?_
      refine ev_nx rfl ?_
      exact ev_ri rfl rfl rfl ⟨rfl, rfl⟩
  iterate 4 refine ev_nx rfl ?_
  rw [nI_add]
  refine ev_vi rfl rfl rfl rfl rfl rfl hm.1 rfl (e_figureAt hm ok (by omega)) ?_
  refine ev_ci rfl rfl (ec_le (by omega) (e_isPlace (fg (lt_ l n (k + 1))) h)) ?_
  rw [wi_fg (by decide)]
  by_cases hw : 48 ≤ lt_ l n (k + 1) ∧ lt_ l n (k + 1) ≤ 48 + 4
  · rw [if_pos hw]
    refine ev_nx rfl ?_
    refine ev_f (by decide) ?_
    iterate 4 refine ev_nx rfl ?_
    rw [nI_add]
    refine ev_vi rfl rfl rfl rfl rfl rfl hm.1 rfl (e_letterAt hm ok (by omega)) ?_
    iterate 2 refine ev_nx rfl ?_
    refine ev_ne (fun hc => ?_) (fun hc => ?_)
    · refine ev_nx rfl ?_
      exact J 0 (by rw [if_neg (fun q => hc q.2.1)])
    · iterate 4 refine ev_nx rfl ?_
      rw [nI_add]
      refine ev_vi rfl rfl rfl rfl rfl rfl hm.1 rfl (e_figureAt hm ok (by omega)) ?_
      iterate 2 refine ev_nx rfl ?_
      refine ev_ci rfl rfl (ec_le (Nat.zero_le (d + 1)) (e_within (fg (lt_ l n (k + 3))) (nI 0) (nI 5) h)) ?_
      rw [wi_fg (by decide)]
      by_cases hw2 : 48 ≤ lt_ l n (k + 3) ∧ lt_ l n (k + 3) ≤ 48 + 5
      · rw [if_pos hw2]
        refine ev_nx rfl ?_
        refine ev_f (by decide) ?_
        iterate 4 refine ev_nx rfl ?_
        rw [nI_add]
        refine ev_vi rfl rfl rfl rfl rfl rfl hm.1 rfl (e_letterAt hm ok (by omega)) ?_
        iterate 2 refine ev_nx rfl ?_
        refine ev_ne (fun hc => ?_) (fun hc2 => ?_)
        · refine ev_nx rfl ?_
          exact J 0 (by rw [if_neg (fun q => hc q.2.2.2)])
        · iterate 2 refine ev_nx rfl ?_
          exact J 1 (by rw [if_pos ⟨hw, hc, hw2, hc2⟩])
      · rw [if_neg hw2]
        refine ev_nx rfl ?_
        refine ev_t (by decide) ?_
        refine ev_nx rfl ?_
        exact J 0 (by rw [if_neg (fun q => hw2 q.2.2.1)])
  · rw [if_neg hw]
    refine ev_nx rfl ?_
    refine ev_t (by decide) ?_
    refine ev_nx rfl ?_
    exact J 0 (by rw [if_neg (fun q => hw q.1)])
theorem cps_le : ∀ f k, cps l n f k ≤ f := by
  intro f
  induction f with
  | zero => intro k; exact Nat.le_refl _
  | succ f ih =>
    intro k
    unfold cps
    split
    · have := ih (k + 1); omega
    · omega
theorem lp_mend (hm : sat h l n) (ok : sok l n) {k T : Nat} (hk : k < 900) (K : Ev (d + 2) m_X6_messageEnd 33 [some (.ref 1), some (.int (nI k)), some (.int (nI T))] [] h Q) : ∀ f a, a + f = 8 → T = a + cps l n f (k + 1 + a) → Ev (d + 2) m_X6_messageEnd 2 [some (.ref 1), some (.int (nI k)), some (.int (nI a))] [] h Q := by
  intro f
  induction f with
  | zero =>
    intro a ha he
    iterate 3 refine ev_nx rfl ?_
    refine ev_ge (fun _ => ?_) (fun h => absurd h (by omega))
    rw [he] at K
    exact K
  | succ f ih =>
    intro a ha he
    have hc := lt_lt ok (k + 1 + a)
    iterate 3 refine ev_nx rfl ?_
    refine ev_ge (fun h => absurd h (by omega)) (fun _ => ?_)
    iterate 6 refine ev_nx rfl ?_
    rw [nI_add, nI_add]
    refine ev_vi rfl rfl rfl rfl rfl rfl hm.1 rfl (e_letterAt hm ok (by omega)) ?_
    iterate 2 refine ev_nx rfl ?_
    refine ev_ci rfl rfl (ec_le (Nat.zero_le (d + 1)) (e_within (nI (lt_ l n (k + 1 + a))) (nI 65) (nI 90) h)) ?_
    rw [wi_n hc (by decide) (by decide)]
    rw [cps] at he
    by_cases hw : 65 ≤ lt_ l n (k + 1 + a) ∧ lt_ l n (k + 1 + a) ≤ 90
    · rw [if_pos hw] at he ⊢
      refine ev_nx rfl ?_
      refine ev_f (by decide) ?_
      iterate 2 refine ev_nx rfl ?_
      rw [nI_add]
      exact ih (a + 1) (by omega) (by rw [he, ← Nat.add_assoc (k + 1) a 1]; omega)
    · rw [if_neg hw] at he ⊢
      refine ev_nx rfl ?_
      refine ev_t (by decide) ?_
      rw [he] at K
      exact K
theorem e_messageEnd (hm : sat h l n) (ok : sok l n) {k : Nat} (hk : k < 900) : Ec (d + 2) m_X6_messageEnd [.ref 1, .int (nI k)] h (rt (.int (eo (mE l n k))) h) := by
  have h8 := cps_le (l := l) (n := n) 8 (k + 1)
  have hc := lt_lt ok (k + 1 + cps l n 8 (k + 1))
  refine ec_in [some (.ref 1), some (.int (nI k)), none] rfl rfl ?_
  iterate 2 refine ev_nx rfl ?_
  refine lp_mend (T := cps l n 8 (k + 1)) hm ok hk ?_ 8 0 rfl (by rw [Nat.zero_add, Nat.add_zero])
  unfold mE
  iterate 2 refine ev_nx rfl ?_
  refine ev_le0 (fun hc => ?_) (fun hc => ?_)
  · rw [if_neg (fun q => absurd q.1 (by omega))]
    refine ev_nx rfl ?_
    exact ev_ri rfl rfl rfl ⟨rfl, rfl⟩
  · iterate 6 refine ev_nx rfl ?_
    rw [nI_add, nI_add]
    refine ev_vi rfl rfl rfl rfl rfl rfl hm.1 rfl (e_letterAt hm ok (by omega)) ?_
    iterate 2 refine ev_nx rfl ?_
    refine ev_ne (fun hc2 => ?_) (fun hc2 => ?_)
    · rw [if_neg (fun q => hc2 q.2)]
      refine ev_nx rfl ?_
      exact ev_ri rfl rfl rfl ⟨rfl, rfl⟩
    · rw [if_pos ⟨hc, hc2⟩]
      iterate 6 refine ev_nx rfl ?_
      rw [nI_add, nI_add]
      exact ev_ri rfl rfl rfl ⟨rfl, rfl⟩
end SC
end
section
/-! the text: items, faults -/
section SD
variable {h : aH} {l : List Nat} {n d : Nat} {Q : Option Value → aH → Prop}
theorem ev_lk {m : aM} {pc np r v p : Nat} {dd : Int} {ps : Array (Int × Int)} {L : aL} {S : List Value} (hv : v < 65536) (hc : am_cd m pc = some (.lookupswitch dd ps, np, r)) (hs : (ps.toList.zip (ps.toList.drop 1)).all (fun (a, next) => a.1 < next.1) = true) (hp : 0 ≤ (pc : Int) + Op.lookupswitch.offset ps.toList dd (v : Int) ∧ am_jmp pc (Op.lookupswitch.offset ps.toList dd (v : Int)) = p) (k : Ev d m p L S h Q) : Ev d m pc L (.int (nI v) :: S) h Q := by
  refine ev_nx (pc' := p) (L' := L) (S' := S) (h' := h) ?_ k
  simp only [am_go, hc, am_op, am_lsw, nI_toInt (show v < 2 ^ 31 by omega)]
  rw [if_pos ⟨hs, hp.1⟩, hp.2]
  rfl
theorem lk5 {v : Nat} (h1 : ¬ v = 110) (h2 : ¬ v = 99) (h3 : ¬ v = 116) (h4 : ¬ v = 106) (h5 : ¬ v = 109) : Op.lookupswitch.offset [(99, 57), (106, 71), (109, 78), (110, 51), (116, 64)] 84 (v : Int) = 84 := by
  simp only [Op.lookupswitch.offset]
  rw [if_neg (by omega), if_neg (by omega), if_neg (by omega), if_neg (by omega), if_neg (by omega)]
theorem e_itemEnd (hm : sat h l n) (ok : sok l n) {k : Nat} (hk : k < 900) : Ec (d + 3) m_X6_itemEnd [.ref 1, .int (nI k)] h (rt (.int (eo (iE l n k))) h) := by
  have hc := lt_lt ok k
  refine ec_in [some (.ref 1), some (.int (nI k))] rfl rfl ?_
  iterate 2 refine ev_nx rfl ?_
  refine ev_vi rfl rfl rfl rfl rfl rfl hm.1 rfl (e_letterAt hm ok (by omega)) ?_
  unfold iE
  by_cases e1 : lt_ l n k = 110
  · rw [if_pos e1]
    refine ev_lk (p := 56) hc rfl (by decide) (by rw [e1]; decide) ?_
    iterate 2 refine ev_nx rfl ?_
    refine ev_vi rfl rfl rfl rfl rfl rfl hm.1 rfl (e_needleEnd hm ok hk) ?_
    exact ev_ri rfl rfl rfl ⟨rfl, rfl⟩
  rw [if_neg e1]
  by_cases e2 : lt_ l n k = 99
  · rw [if_pos e2]
    refine ev_lk (p := 62) hc rfl (by decide) (by rw [e2]; decide) ?_
    iterate 3 refine ev_nx rfl ?_
    refine ev_vi rfl rfl rfl rfl rfl rfl hm.1 rfl (e_wireEnd hm ok hk (by decide)) ?_
    exact ev_ri rfl rfl rfl ⟨rfl, rfl⟩
  rw [if_neg e2]
  by_cases e3 : lt_ l n k = 116
  · rw [if_pos e3]
    refine ev_lk (p := 69) hc rfl (by decide) (by rw [e3]; decide) ?_
    iterate 3 refine ev_nx rfl ?_
    refine ev_vi rfl rfl rfl rfl rfl rfl hm.1 rfl (e_wireEnd hm ok hk (by decide)) ?_
    exact ev_ri rfl rfl rfl ⟨rfl, rfl⟩
  rw [if_neg e3]
  by_cases e4 : lt_ l n k = 106
  · rw [if_pos e4]
    refine ev_lk (p := 76) hc rfl (by decide) (by rw [e4]; decide) ?_
    iterate 3 refine ev_nx rfl ?_
    refine ev_vi rfl rfl rfl rfl rfl rfl hm.1 rfl (e_wireEnd hm ok hk (by decide)) ?_
    exact ev_ri rfl rfl rfl ⟨rfl, rfl⟩
  rw [if_neg e4]
  by_cases e5 : lt_ l n k = 109
  · rw [if_pos e5]
    refine ev_lk (p := 83) hc rfl (by decide) (by rw [e5]; decide) ?_
    iterate 2 refine ev_nx rfl ?_
    refine ev_vi rfl rfl rfl rfl rfl rfl hm.1 rfl (e_messageEnd hm ok hk) ?_
    exact ev_ri rfl rfl rfl ⟨rfl, rfl⟩
  rw [if_neg e5]
  refine ev_lk (p := 89) hc rfl (by decide) (by rw [show (#[((99 : Int), (57 : Int)), (106, 71), (109, 78), (110, 51), (116, 64)]).toList = [(99, 57), (106, 71), (109, 78), (110, 51), (116, 64)] from rfl, lk5 e1 e2 e3 e4 e5]; decide) ?_
  refine ev_nx rfl ?_
  exact ev_ri rfl rfl rfl ⟨rfl, rfl⟩
theorem iE_le {k e : Nat} (he : iE l n k = some e) : k + 2 < e ∧ e ≤ k + 10 := by
  have h8 := cps_le (l := l) (n := n) 8 (k + 1)
  have hW : ∀ m e, wE l n k m = some e → k + 2 < e ∧ e ≤ k + 10 := by
    intro m e he
    unfold wE at he
    split at he
    · cases he; omega
    · cases he
  unfold iE at he
  split at he
  · unfold nE at he
    split at he
    · cases he; omega
    · cases he
  · split at he
    · exact hW _ _ he
    · split at he
      · exact hW _ _ he
      · split at he
        · exact hW _ _ he
        · split at he
          · unfold mE at he
            split at he
            · cases he; omega
            · cases he
          · cases he
/-- the first fault from a place, c messages ahead of it -/
def ffr (l : List Nat) (n : Nat) : Nat → Nat → Nat → Option Nat
  | 0, _, _ => none
  | f + 1, k, c => if k < n then (match iE l n k with
    | none => some k
    | some e => if 6 < c + (if lt_ l n k = 109 then 1 else 0) then some k else ffr l n f e (c + (if lt_ l n k = 109 then 1 else 0))) else none
theorem eo_c {e : Nat} (he : e < 1000) : ¬ nI e = -(nI 4) := by
  intro q
  have := congrArg Int32.toInt q
  rw [nI_toInt (by omega)] at this
  have h2 : (-(nI 4)).toInt = -4 := by decide
  omega
theorem lp_fault (hm : sat h l n) (ok : sok l n) : ∀ f a k c l4, a + f = 200 → k < 900 → c ≤ a → Ev (d + 4) m_X6_firstFault 6 [some (.ref 1), some (.int (nI k)), some (.int (nI c)), some (.int (nI a)), l4] [] h (rt (.int (eo (ffr l n f k c))) h) := by
  intro f
  have hn := ok.2.1
  induction f with
  | zero =>
    intro a k c l4 ha hk hca
    iterate 3 refine ev_nx rfl ?_
    refine ev_ge (fun _ => ?_) (fun h => absurd h (by omega))
    refine ev_nx rfl ?_
    exact ev_ri rfl rfl rfl ⟨rfl, rfl⟩
  | succ f ih =>
    intro a k c l4 ha hk hca
    have hc := lt_lt ok k
    rw [ffr]
    iterate 3 refine ev_nx rfl ?_
    refine ev_ge (fun h => absurd h (by omega)) (fun _ => ?_)
    iterate 2 refine ev_nx rfl ?_
    refine ev_gf rfl rfl hm.1 rfl ?_
    refine ev_nx rfl ?_
    refine ev_ge (fun hc => ?_) (fun hkn => ?_)
    · rw [if_neg (by omega)]
      refine ev_nx rfl ?_
      exact ev_ri rfl rfl rfl ⟨rfl, rfl⟩
    · rw [if_pos hkn]
      iterate 2 refine ev_nx rfl ?_
      refine ev_vi rfl rfl rfl rfl rfl rfl hm.1 rfl (e_itemEnd hm ok hk) ?_
      iterate 4 refine ev_nx rfl ?_
      refine ev_vi rfl rfl rfl rfl rfl rfl hm.1 rfl (e_letterAt hm ok (by omega)) ?_
      have J : ∀ y : Nat, y = (if lt_ l n k = 109 then 1 else 0) → Ev (d + 4) m_X6_firstFault 44 [some (.ref 1), some (.int (nI k)), some (.int (nI c)), some (.int (nI a)), some (.int (eo (iE l n k)))] [.int (nI y), .int (nI c)] h (rt (.int (eo (match iE l n k with
          | none => some k
          | some e => if 6 < c + (if lt_ l n k = 109 then 1 else 0) then some k else ffr l n f e (c + (if lt_ l n k = 109 then 1 else 0))))) h) := by
        intro y hy
        rw [← hy]
        have hy1 : y ≤ 1 := by rw [hy]; split <;> omega
        iterate 2 refine ev_nx rfl ?_
        rw [nI_add]
        cases hE : iE l n k with
        | none =>
          iterate 3 refine ev_nx rfl ?_
          refine ev_t (by decide) ?_
          refine ev_nx rfl ?_
          exact ev_ri rfl rfl rfl ⟨rfl, rfl⟩
        | some e =>
          have he := iE_le hE
          iterate 3 refine ev_nx rfl ?_
          refine ev_f (by simp only [am_c2, eo, beq_eq_false_iff_ne, decide_eq_false_iff_not]; exact eo_c (by omega)) ?_
          iterate 3 refine ev_nx rfl ?_
          refine ev_leq (fun hc => ?_) (fun hc => ?_)
          · show Ev _ _ _ _ _ _ (rt (.int (eo (if _ then _ else _))) h)
            rw [if_neg (by omega)]
            iterate 4 refine ev_nx rfl ?_
            rw [nI_add]
            exact ih (a + 1) e (c + y) _ (by omega) (by omega) (by omega)
          · show Ev _ _ _ _ _ _ (rt (.int (eo (if _ then _ else _))) h)
            rw [if_pos (by omega)]
            refine ev_nx rfl ?_
            exact ev_ri rfl rfl rfl ⟨rfl, rfl⟩
      iterate 2 refine ev_nx rfl ?_
      refine ev_ne (fun hc => ?_) (fun hc => ?_)
      · refine ev_nx rfl ?_
        exact J 0 (by rw [if_neg hc])
      · iterate 2 refine ev_nx rfl ?_
        exact J 1 (by rw [if_pos hc])
theorem e_firstFault (hm : sat h l n) (ok : sok l n) : Ec (d + 4) m_X6_firstFault [.ref 1] h (rt (.int (eo (ffr l n 200 0 0))) h) := by
  refine ec_in [some (.ref 1), none, none, none, none] rfl rfl ?_
  iterate 6 refine ev_nx rfl ?_
  exact lp_fault hm ok 200 0 0 0 none rfl (by decide) (by decide)
theorem e_sempty (hm : sat h l n) : Ec d m_X6_empty [.ref 1] h (fun r h' => r = some (.int (nI n)) ∧ sat h' l 0 ∧ fr 1 2 h h') := by
  refine ec_in [some (.ref 1), none] rfl rfl ?_
  refine ev_nx rfl ?_
  refine ev_gf rfl rfl hm.1 rfl ?_
  iterate 3 refine ev_nx rfl ?_
  refine ev_pf rfl rfl hm.1 (by show 1 < 2; decide) rfl rfl rfl ?_
  refine ev_nx rfl ?_
  refine ev_ri rfl rfl rfl ⟨rfl, ⟨?_, ?_⟩, by simp, fun q hq => ?_⟩
  · rw [gset_s hm.1]; rfl
  · rw [gset_n (by decide)]; exact hm.2
  · rw [gset_n (by omega)]
theorem e_append (hm : sat h l n) (ok : sok l n) {x : Nat} (hx : x < 65536) : Ec d m_X6_append [.ref 1, .int (nI x)] h (fun r h' => r = none ∧ sat h' (if n < 200 then l.set n x else l) (if n < 200 then n + 1 else n) ∧ fr 1 2 h h') := by
  have hn := ok.2.1
  have hl := ok.1
  refine ec_in [some (.ref 1), some (.int (nI x))] rfl rfl ?_
  refine ev_nx rfl ?_
  refine ev_gf rfl rfl hm.1 rfl ?_
  iterate 2 refine ev_nx rfl ?_
  refine ev_ge (fun hc => ?_) (fun hc => ?_)
  · rw [if_neg (by omega), if_neg (by omega)]
    exact ev_rt rfl ⟨rfl, hm, rfl, fun _ _ => rfl⟩
  · rw [if_pos (by omega), if_pos (by omega)]
    refine ev_nx rfl ?_
    refine ev_gf rfl rfl hm.1 rfl ?_
    refine ev_nx rfl ?_
    refine ev_gf rfl rfl hm.1 rfl ?_
    refine ev_nx rfl ?_
    refine ev_cs rfl hm.2 (by rw [List.length_map]; omega) ?_
    rw [show vp_nar .char (nI x) = nI x by unfold vp_nar; rw [(pk_charN hx).1]]
    have hm1 : ∀ y, (h.set 2 y)[1]? = some (.inr (.inr (6, [.ref 2, .int (nI n)]))) := fun y => by rw [gset_n (by decide)]; exact hm.1
    iterate 2 refine ev_nx rfl ?_
    refine ev_gf rfl rfl (hm1 _) rfl ?_
    iterate 2 refine ev_nx rfl ?_
    rw [nI_add]
    refine ev_pf rfl rfl (hm1 _) (by show 1 < 2; decide) rfl rfl rfl ?_
    refine ev_rt rfl ⟨rfl, ⟨?_, ?_⟩, by simp, fun q hq => ?_⟩
    · rw [gset_s (hm1 _)]; rfl
    · rw [gset_n (by decide), gset_s hm.2, ms_]
    · rw [gset_n (by omega), gset_n (by omega)]
theorem lp_tells (hm : sat h l n) (ok : sok l n) : ∀ r k, k + r = n → Ev d m_X6_tellsMessage 2 [some (.ref 1), some (.int (nI k))] [] h (rt (.int (nI (b2n (((l.take n).drop k).any (· == 109))))) h) := by
  have hn := ok.2.1
  have hl := ok.1
  intro r
  induction r with
  | zero =>
    intro k hk
    iterate 2 refine ev_nx rfl ?_
    refine ev_gf rfl rfl hm.1 rfl ?_
    refine ev_nx rfl ?_
    refine ev_ge (fun _ => ?_) (fun h => absurd h (by omega))
    refine ev_nx rfl ?_
    refine ev_ri rfl rfl rfl ⟨?_, rfl⟩
    rw [List.drop_eq_nil_of_le (by rw [List.length_take]; omega)]
    rfl
  | succ r ih =>
    intro k hk
    have hlk : l.getD k 0 < 65536 := gd3 ok.2.2 (by omega)
    rw [tk_drop (by omega) (by omega), List.any_cons]
    iterate 2 refine ev_nx rfl ?_
    refine ev_gf rfl rfl hm.1 rfl ?_
    refine ev_nx rfl ?_
    refine ev_ge (fun h => absurd h (by omega)) (fun _ => ?_)
    refine ev_nx rfl ?_
    refine ev_gf rfl rfl hm.1 rfl ?_
    refine ev_nx rfl ?_
    refine ev_ca rfl (am_arr_h (by decide) hm.2) (mg (by omega)) ?_
    iterate 2 refine ev_nx rfl ?_
    refine ev_ne (fun hc => ?_) (fun hc => ?_)
    · rw [show (l.getD k 0 == 109) = false by rw [beq_eq_false_iff_ne]; exact hc, Bool.false_or]
      iterate 2 refine ev_nx rfl ?_
      rw [nI_add]
      exact ih (k + 1) (by omega)
    · rw [show (l.getD k 0 == 109) = true by rw [beq_iff_eq]; exact hc, Bool.true_or]
      refine ev_nx rfl ?_
      exact ev_ri rfl rfl rfl ⟨rfl, rfl⟩
theorem e_tellsMessage (hm : sat h l n) (ok : sok l n) : Ec d m_X6_tellsMessage [.ref 1] h (rt (.int (nI (b2n ((l.take n).any (· == 109))))) h) := by
  refine ec_in [some (.ref 1), none] rfl rfl ?_
  iterate 2 refine ev_nx rfl ?_
  have H := lp_tells (d := d) hm ok n 0 (by omega)
  rw [List.drop_zero] at H
  exact H
end SD
end
section
/-! the text told: into a line and messages -/
def mok (sg ln : List Nat) (mn : Nat) : Prop := sg.length = 48 ∧ (∀ s ∈ sg, s < 31) ∧ ln.length = 6 ∧ (∀ x ∈ ln, x ≤ 8) ∧ mn ≤ 6
def bgl (ln : List Nat) (mn : Nat) : List Nat := if mn < 6 then ln.set mn 0 else ln
def bgm (mn : Nat) : Nat := if mn < 6 then mn + 1 else mn
/-- letters spelt, r of them from a place -/
def spx (l : List Nat) (n mn : Nat) : Nat → Nat → List Nat → List Nat → List Nat × List Nat
  | 0, _, sg, ln => (sg, ln)
  | r + 1, p, sg, ln => spx l n mn r (p + 1) (sps sg ln mn (lt_ l n p)) (spl ln mn (lt_ l n p))
abbrev aT : Type := aN × List Nat × List Nat × Nat
/-- an item told -/
def tI1 (l : List Nat) (n k e : Nat) (z : aT) : aT :=
  if lt_ l n k = 110 then ((z.1.1.set (lt_ l n (k + 1) - 48) (lt_ l n (k + 3) - 48), z.1.2), z.2)
  else if lt_ l n k = 99 then ((z.1.1, z.1.2.1, z.1.2.2.1, z.1.2.2.2.1 ||| 1 * 2 ^ (lt_ l n (k + 1) - 48), z.1.2.2.2.2), z.2)
  else if lt_ l n k = 116 then ((z.1.1, z.1.2.1, z.1.2.2.1, z.1.2.2.2.1, z.1.2.2.2.2.1 ||| 1 * 2 ^ (lt_ l n (k + 1) - 48), z.1.2.2.2.2.2), z.2)
  else if lt_ l n k = 106 then ((z.1.1, z.1.2.1, z.1.2.2.1, z.1.2.2.2.1, z.1.2.2.2.2.1, z.1.2.2.2.2.2 ||| 1 * 2 ^ (lt_ l n (k + 1) - 48)), z.2)
  else (z.1, (spx l n (bgm z.2.2.2) (e - 1 - (k + 1)) (k + 1) z.2.1 (bgl z.2.2.1 z.2.2.2)).1, (spx l n (bgm z.2.2.2) (e - 1 - (k + 1)) (k + 1) z.2.1 (bgl z.2.2.1 z.2.2.2)).2, bgm z.2.2.2)
/-- only a line and the messages have changed -/
def tj (i : Nat) (h h' : aH) : Prop := h'.length = h.length ∧ ∀ q, q < 3 ∨ 5 < q → q < i ∨ i + 4 < q → h'[q]? = h[q]?
def tat (h : aH) (i : Nat) (z : aT) : Prop := mat h z.2.1 z.2.2.1 z.2.2.2 ∧ ltx h i z.1
section TL
variable {h : aH} {l sg ln : List Nat} {i n mn d : Nat} {z : aT} {Q : Option Value → aH → Prop}
theorem sat_fr {h' : aH} {a b : Nat} (hm : sat h l n) (hf : fr a b h h') (ha : 2 < a) : sat h' l n := ⟨by rw [hf.2 _ (by omega)]; exact hm.1, by rw [hf.2 _ (by omega)]; exact hm.2⟩
theorem fr_tr {h1 h2 : aH} {a b : Nat} (x : fr a b h h1) (y : fr a b h1 h2) : fr a b h h2 := ⟨y.1.trans x.1, fun q hq => (y.2 q hq).trans (x.2 q hq)⟩
theorem mok_bg (ok : mok sg ln mn) : mok sg (bgl ln mn) (bgm mn) := by
  obtain ⟨a, b, c, e, f⟩ := ok
  unfold bgl bgm
  by_cases hc : mn < 6
  · rw [if_pos hc, if_pos hc]
    refine ⟨a, b, by rw [List.length_set]; exact c, fun x hx => ?_, by omega⟩
    rcases List.mem_or_eq_of_mem_set hx with q | q
    · exact e x q
    · omega
  · rw [if_neg hc, if_neg hc]; exact ⟨a, b, c, e, f⟩
theorem mok_sp (ok : mok sg ln mn) (x : Nat) : mok (sps sg ln mn x) (spl ln mn x) mn := by
  obtain ⟨a, b, c, e, f⟩ := ok
  unfold sps spl
  by_cases hc : spo ln mn x
  · rw [if_pos hc, if_pos hc]
    have ht := (t2_at (x := x - 65) (by have := hc.2.2; omega)).2
    have h8 := hc.2.1
    refine ⟨by rw [List.length_set]; exact a, fun y hy => ?_, by rw [List.length_set]; exact c, fun y hy => ?_, f⟩
    · rcases List.mem_or_eq_of_mem_set hy with q | q
      · exact b y q
      · omega
    · rcases List.mem_or_eq_of_mem_set hy with q | q
      · exact e y q
      · omega
  · rw [if_neg hc, if_neg hc]; exact ⟨a, b, c, e, f⟩
theorem mok_spx : ∀ r p sg ln, mok sg ln mn → mok (spx l n mn r p sg ln).1 (spx l n mn r p sg ln).2 mn := by
  intro r
  induction r with
  | zero => intro p sg ln ok; exact ok
  | succ r ih => intro p sg ln ok; exact ih _ _ _ (mok_sp ok _)
theorem lp_tm (ok : sok l n) {k e : Nat} (he : e < 900) : ∀ r p h1 sg ln, p + r = e → sat h1 l n → mat h1 sg ln mn → mok sg ln mn → fr 3 5 h h1 → Ev (d + 2) m_X6_tellMessage 7 [some (.ref 1), some (.int (nI k)), some (.int (nI e)), some (.ref 3), some (.int (nI p))] [] h1 (fun v h' => v = none ∧ mat h' (spx l n mn r p sg ln).1 (spx l n mn r p sg ln).2 mn ∧ fr 3 5 h h') := by
  intro r
  induction r with
  | zero =>
    intro p h1 sg ln hp hs hm mo hf
    iterate 3 refine ev_nx rfl ?_
    refine ev_ge (fun _ => ?_) (fun h => absurd h (by omega))
    exact ev_rt rfl ⟨rfl, hm, hf⟩
  | succ r ih =>
    intro p h1 sg ln hp hs hm mo hf
    iterate 3 refine ev_nx rfl ?_
    refine ev_ge (fun h => absurd h (by omega)) (fun _ => ?_)
    iterate 3 refine ev_nx rfl ?_
    refine ev_vi rfl rfl rfl rfl rfl rfl hs.1 rfl (e_letterAt hs ok (by omega)) ?_
    refine ev_v rfl rfl rfl rfl rfl rfl hm.1 rfl (e_spell hm mo.1 mo.2.2.1 mo.2.2.2.2 mo.2.2.2.1 (lt_lt ok p)) (fun rv h2 q => ?_)
    obtain ⟨rfl, q1, q2⟩ := q
    have q2 : fr 3 5 h1 h2 := q2
    iterate 2 refine ev_nx rfl ?_
    rw [nI_add]
    exact ih (p + 1) h2 _ _ (by omega) (sat_fr hs q2 (by decide)) q1 (mok_sp mo _) (fr_tr hf q2)
theorem e_tellMessage (hs : sat h l n) (ok : sok l n) (hm : mat h sg ln mn) (mo : mok sg ln mn) {k e : Nat} (hk : k ≤ e) (he : e < 900) : Ec (d + 2) m_X6_tellMessage [.ref 1, .int (nI k), .int (nI e), .ref 3] h (fun v h' => v = none ∧ mat h' (spx l n (bgm mn) (e - k) k sg (bgl ln mn)).1 (spx l n (bgm mn) (e - k) k sg (bgl ln mn)).2 (bgm mn) ∧ fr 3 5 h h') := by
  refine ec_in [some (.ref 1), some (.int (nI k)), some (.int (nI e)), some (.ref 3), none] rfl rfl ?_
  refine ev_nx rfl ?_
  refine ev_v rfl rfl rfl rfl rfl rfl hm.1 rfl (e_begin hm mo.2.2.1 mo.2.2.2.2) (fun rv h2 q => ?_)
  obtain ⟨rfl, q1, q2⟩ := q
  have q2 : fr 3 5 h h2 := q2
  iterate 2 refine ev_nx rfl ?_
  exact lp_tm ok he (e - k) k h2 _ _ (by omega) (sat_fr hs q2 (by decide)) q1 (mok_bg mo) q2
theorem lk4 {v : Nat} (h1 : ¬ v = 110) (h2 : ¬ v = 99) (h3 : ¬ v = 116) (h4 : ¬ v = 106) : Op.lookupswitch.offset [(99, 59), (106, 91), (110, 42), (116, 75)] 107 (v : Int) = 107 := by
  simp only [Op.lookupswitch.offset]
  rw [if_neg (by omega), if_neg (by omega), if_neg (by omega), if_neg (by omega)]
theorem fg_in {x : Nat} (hx : 48 ≤ x ∧ x ≤ 57) : fg x = nI (x - 48) := by rw [fg, if_pos hx]
theorem iE_1 {k e m : Nat} (he : wE l n k m = some e) : 48 ≤ lt_ l n (k + 1) ∧ lt_ l n (k + 1) ≤ 48 + m := by
  unfold wE at he
  split at he
  · rename_i q; exact q.1
  · cases he
theorem iE_n {k e : Nat} (he : nE l n k = some e) : (48 ≤ lt_ l n (k + 1) ∧ lt_ l n (k + 1) ≤ 52) ∧ (48 ≤ lt_ l n (k + 3) ∧ lt_ l n (k + 3) ≤ 53) := by
  unfold nE at he
  split at he
  · rename_i q; exact ⟨q.1, q.2.2.1⟩
  · cases he
theorem sat_lh {K S G C : List Nat} {c t j : Nat} (hs : sat h l n) (hi : 2 < i) : sat (lh h i K S G C c t j) l n := ⟨by rw [lh_o (by omega)]; exact hs.1, by rw [lh_o (by omega)]; exact hs.2⟩
/-- a line's cells anew -/
theorem tat_lh {K S G C : List Nat} {c t j : Nat} (hz : tat h i z) (hi : 5 < i) (hl : i + 4 < h.length) (hC : C.length = 5) : tat (lh h i K S G C c t j) i ((K, S, G, c, t, j), z.2) ∧ tj i h (lh h i K S G C c t j) :=
  ⟨⟨mat_lh hz.1 hi, C, hC, lat_of hl⟩, lh_len, fun q _ hq => lh_o (by omega)⟩
theorem e_tellItem (hs : sat h l n) (ok : sok l n) (hz : tat h i z) (mo : mok z.2.1 z.2.2.1 z.2.2.2) (hK : z.1.1.length = 5) (hi : 5 < i) (hh : h.length ≤ 100000) {k e : Nat} (hk : k < 800) (he : iE l n k = some e) : Ec (d + 3) m_X6_tellItem [.ref 1, .int (nI k), .int (nI e), .ref i, .ref 3] h (fun v h' => v = none ∧ tat h' i (tI1 l n k e z) ∧ tj i h h') := by
  have hc := lt_lt ok k
  have hle := iE_le he
  obtain ⟨⟨K, S, G, c, t, j⟩, sg, ln, mn⟩ := z
  obtain ⟨C, hC, hL⟩ := hz.2
  have hlt := lat_lt hL
  have hI : lI h i := ⟨hlt, hh⟩
  have hself := lat_self hL
  have hK : K.length = 5 := hK
  refine ec_in [some (.ref 1), some (.int (nI k)), some (.int (nI e)), some (.ref i), some (.ref 3), none] rfl rfl ?_
  iterate 4 refine ev_nx rfl ?_
  rw [nI_add]
  refine ev_vi rfl rfl rfl rfl rfl rfl hs.1 rfl (e_figureAt hs ok (by omega)) ?_
  iterate 3 refine ev_nx rfl ?_
  refine ev_vi rfl rfl rfl rfl rfl rfl hs.1 rfl (e_letterAt hs ok (by omega)) ?_
  unfold iE at he
  unfold tI1
  have put : ∀ {K2 : List Nat} {c2 t2 j2 : Nat}, tat (lh h i K2 S G C c2 t2 j2) i ((K2, S, G, c2, t2, j2), sg, ln, mn) ∧ tj i h (lh h i K2 S G C c2 t2 j2) := fun {K2 c2 t2 j2} => tat_lh hz hi hlt hC
  by_cases e1 : lt_ l n k = 110
  · rw [if_pos e1] at he ⊢
    obtain ⟨f1, f3⟩ := iE_n he
    rw [fg_in ⟨f1.1, by omega⟩]
    refine ev_lk (p := 56) hc rfl (by decide) (by rw [e1]; decide) ?_
    rw [← hself]
    refine ev_nx rfl ?_
    refine ev_lf hI rfl rfl rfl rfl ?_
    iterate 5 refine ev_nx rfl ?_
    rw [nI_add]
    refine ev_vi rfl rfl rfl rfl rfl rfl (sat_lh hs (by omega)).1 rfl (e_figureAt (sat_lh hs (by omega)) ok (by omega)) ?_
    rw [fg_in ⟨f3.1, by omega⟩]
    refine ev_sK hI rfl (by omega) ?_
    refine ev_nx rfl ?_
    rw [hself]
    exact ev_rt rfl ⟨rfl, put⟩
  rw [if_neg e1] at he ⊢
  by_cases e2 : lt_ l n k = 99
  · rw [if_pos e2] at he ⊢
    have f1 := iE_1 he
    have f2 : lt_ l n (k + 1) - 48 < 5 := by omega
    have f3 : 1 * 2 ^ (lt_ l n (k + 1) - 48) < 4294967296 := by
      have := Nat.pow_lt_pow_right (a := 2) (by decide) f2; omega
    rw [fg_in ⟨f1.1, by omega⟩]
    refine ev_lk (p := 73) hc rfl (by decide) (by rw [e2]; decide) ?_
    rw [← hself]
    iterate 2 refine ev_nx rfl ?_
    refine ev_lf hI rfl rfl rfl rfl ?_
    iterate 4 refine ev_nx rfl ?_
    rw [n_shl (by omega) f3, n_or]
    refine ev_lp (c' := c ||| 1 * 2 ^ (lt_ l n (k + 1) - 48)) (t' := t) (j' := j) hI rfl rfl (by decide) (by decide) rfl ?_
    refine ev_nx rfl ?_
    rw [hself]
    exact ev_rt rfl ⟨rfl, put⟩
  rw [if_neg e2] at he ⊢
  by_cases e3 : lt_ l n k = 116
  · rw [if_pos e3] at he ⊢
    have f1 := iE_1 he
    have f2 : lt_ l n (k + 1) - 48 < 5 := by omega
    have f3 : 1 * 2 ^ (lt_ l n (k + 1) - 48) < 4294967296 := by
      have := Nat.pow_lt_pow_right (a := 2) (by decide) f2; omega
    rw [fg_in ⟨f1.1, by omega⟩]
    refine ev_lk (p := 89) hc rfl (by decide) (by rw [e3]; decide) ?_
    rw [← hself]
    iterate 2 refine ev_nx rfl ?_
    refine ev_lf hI rfl rfl rfl rfl ?_
    iterate 4 refine ev_nx rfl ?_
    rw [n_shl (by omega) f3, n_or]
    refine ev_lp (c' := c) (t' := t ||| 1 * 2 ^ (lt_ l n (k + 1) - 48)) (j' := j) hI rfl rfl (by decide) (by decide) rfl ?_
    refine ev_nx rfl ?_
    rw [hself]
    exact ev_rt rfl ⟨rfl, put⟩
  rw [if_neg e3] at he ⊢
  by_cases e4 : lt_ l n k = 106
  · rw [if_pos e4] at he ⊢
    have f1 := iE_1 he
    have f2 : lt_ l n (k + 1) - 48 < 5 := by omega
    have f3 : 1 * 2 ^ (lt_ l n (k + 1) - 48) < 4294967296 := by
      have := Nat.pow_lt_pow_right (a := 2) (by decide) f2; omega
    rw [fg_in ⟨f1.1, by omega⟩]
    refine ev_lk (p := 105) hc rfl (by decide) (by rw [e4]; decide) ?_
    rw [← hself]
    iterate 2 refine ev_nx rfl ?_
    refine ev_lf hI rfl rfl rfl rfl ?_
    iterate 4 refine ev_nx rfl ?_
    rw [n_shl (by omega) f3, n_or]
    refine ev_lp (c' := c) (t' := t) (j' := j ||| 1 * 2 ^ (lt_ l n (k + 1) - 48)) hI rfl rfl (by decide) (by decide) rfl ?_
    refine ev_nx rfl ?_
    rw [hself]
    exact ev_rt rfl ⟨rfl, put⟩
  rw [if_neg e4] at he ⊢
  refine ev_lk (p := 121) hc rfl (by decide) (by rw [show (#[((99 : Int), (59 : Int)), (106, 91), (110, 42), (116, 75)]).toList = [(99, 59), (106, 91), (110, 42), (116, 75)] from rfl, lk4 e1 e2 e3 e4]; decide) ?_
  iterate 8 refine ev_nx rfl ?_
  rw [nI_add, pk_sub (by omega)]
  refine ev_v rfl rfl rfl rfl rfl rfl hs.1 rfl (e_tellMessage hs ok hz.1 mo (by omega) (by omega)) (fun rv h2 q => ?_)
  obtain ⟨rfl, q1, q2⟩ := q
  exact ev_rt rfl ⟨rfl, ⟨q1, ltx_fr hz.2 (fun q h1 h2 => q2.2 q (by omega))⟩, q2.1, fun q hq _ => q2.2 q hq⟩
/-- the text told from a place, item by item -/
def tll (l : List Nat) (n : Nat) : Nat → Nat → aT → aT
  | 0, _, z => z
  | f + 1, k, z => if k < n then (match iE l n k with
    | none => z
    | some e => tll l n f e (tI1 l n k e z)) else z
theorem tj_tr {h1 h2 : aH} (x : tj i h h1) (y : tj i h1 h2) : tj i h h2 := ⟨y.1.trans x.1, fun q a b => (y.2 q a b).trans (x.2 q a b)⟩
theorem sat_tj {h1 : aH} (hs : sat h l n) (x : tj i h h1) (hi : 2 < i) : sat h1 l n := ⟨by rw [x.2 _ (by omega) (by omega)]; exact hs.1, by rw [x.2 _ (by omega) (by omega)]; exact hs.2⟩
theorem tI1_ok {k e : Nat} (mo : mok z.2.1 z.2.2.1 z.2.2.2) (hK : z.1.1.length = 5) : mok (tI1 l n k e z).2.1 (tI1 l n k e z).2.2.1 (tI1 l n k e z).2.2.2 ∧ (tI1 l n k e z).1.1.length = 5 := by
  unfold tI1
  split
  · exact ⟨mo, by show (List.set _ _ _).length = 5; rw [List.length_set]; exact hK⟩
  · split
    · exact ⟨mo, hK⟩
    · split
      · exact ⟨mo, hK⟩
      · split
        · exact ⟨mo, hK⟩
        · exact ⟨mok_spx _ _ _ _ (mok_bg mo), hK⟩
theorem lp_tell (ok : sok l n) (hi : 5 < i) : ∀ f a k h1 z l5, a + f = 200 → k < 800 → sat h1 l n → tat h1 i z → mok z.2.1 z.2.2.1 z.2.2.2 → z.1.1.length = 5 → h1.length ≤ 100000 → tj i h h1 → Ev (d + 4) m_X6_tell 5 [some (.ref 1), some (.ref i), some (.ref 3), some (.int (nI k)), some (.int (nI a)), l5] [] h1 (fun v h' => v = none ∧ tat h' i (tll l n f k z) ∧ tj i h h') := by
  intro f
  have hn := ok.2.1
  induction f with
  | zero =>
    intro a k h1 z l5 ha hk hs hz mo hK hh hj
    iterate 3 refine ev_nx rfl ?_
    refine ev_ge (fun _ => ?_) (fun h => absurd h (by omega))
    exact ev_rt rfl ⟨rfl, hz, hj⟩
  | succ f ih =>
    intro a k h1 z l5 ha hk hs hz mo hK hh hj
    rw [tll]
    iterate 3 refine ev_nx rfl ?_
    refine ev_ge (fun h => absurd h (by omega)) (fun _ => ?_)
    iterate 2 refine ev_nx rfl ?_
    refine ev_gf rfl rfl hs.1 rfl ?_
    refine ev_nx rfl ?_
    refine ev_ge (fun hc => ?_) (fun hkn => ?_)
    · rw [if_neg (by omega)]
      exact ev_rt rfl ⟨rfl, hz, hj⟩
    · rw [if_pos hkn]
      iterate 2 refine ev_nx rfl ?_
      refine ev_vi rfl rfl rfl rfl rfl rfl hs.1 rfl (e_itemEnd hs ok (by omega)) ?_
      cases hE : iE l n k with
      | none =>
        iterate 4 refine ev_nx rfl ?_
        refine ev_f (by decide) ?_
        exact ev_rt rfl ⟨rfl, hz, hj⟩
      | some e =>
        have he := iE_le hE
        iterate 4 refine ev_nx rfl ?_
        refine ev_t (by show (!(nI e == -(nI 4))) = true; rw [beq_eq_false_iff_ne.mpr (eo_c (e := e) (by omega))]; rfl) ?_
        iterate 5 refine ev_nx rfl ?_
        refine ev_v rfl rfl rfl rfl rfl rfl hs.1 rfl (e_tellItem hs ok hz mo hK hi hh (by omega) hE) (fun rv h2 q => ?_)
        obtain ⟨rfl, q1, q2⟩ := q
        iterate 4 refine ev_nx rfl ?_
        rw [nI_add]
        obtain ⟨m2, K2⟩ := tI1_ok (l := l) (n := n) (k := k) (e := e) mo hK
        exact ih (a + 1) e h2 _ _ (by omega) (by omega) (sat_tj hs q2 (by omega)) q1 m2 K2 (by rw [q2.1]; exact hh) (tj_tr hj q2)
theorem e_tell (hs : sat h l n) (ok : sok l n) (hz : tat h i z) (mo : mok z.2.1 z.2.2.1 z.2.2.2) (hK : z.1.1.length = 5) (hi : 5 < i) (hh : h.length ≤ 100000) : Ec (d + 4) m_X6_tell [.ref 1, .ref i, .ref 3] h (fun v h' => v = none ∧ tat h' i (tll l n 200 0 z) ∧ tj i h h') := by
  refine ec_in [some (.ref 1), some (.ref i), some (.ref 3), none, none, none] rfl rfl ?_
  iterate 4 refine ev_nx rfl ?_
  exact lp_tell ok hi 200 0 0 h z none rfl (by decide) hs hz mo hK hh ⟨rfl, fun _ _ _ => rfl⟩
end TL
end
section
/-! Arrays.fill; the suspects -/
def uo (hr n : Nat) : aC := .inr (.inr (7, [.ref 70, .ref 71, .ref 72, .int (nI hr), .ref 73, .int (nI n)]))
def uat (h : aH) (ss sr R : List Nat) (hr : Nat) (P : List Nat) (n : Nat) : Prop := h[69]? = some (uo hr n) ∧ h[70]? = some (ar ss) ∧ h[71]? = some (ar sr) ∧ h[72]? = some (.inl (2, R.map nI)) ∧ h[73]? = some (ar P)
def uok (ss sr R P : List Nat) (n : Nat) : Prop := (ss.length = 8 ∧ ∀ s ∈ ss, s < 30) ∧ (sr.length = 8 ∧ ∀ s ∈ sr, s < 32) ∧ (R.length = 750 ∧ ∀ s ∈ R, s < 32) ∧ P.length = 32 ∧ n ≤ 8
section SU
variable {h : aH} {ss sr R P : List Nat} {hr n d : Nat} {Q : Option Value → aH → Prop}
theorem set_set {h : aH} {a : Nat} {x y : aC} : (h.set a x).set a y = h.set a y := List.set_set ..
theorem set_id {h : aH} {a : Nat} {x : aC} (hh : h[a]? = some x) : h.set a x = h := by
  refine List.ext_getElem? (fun k => ?_)
  by_cases e : a = k
  · subst e; rw [gset_s hh, hh]
  · rw [gset_n e]
theorem rep_set {l : List Int32} {v : Int32} {k : Nat} (hk : k < l.length) : (List.replicate k v ++ l.drop k).set k v = List.replicate (k + 1) v ++ l.drop (k + 1) := by
  rw [List.set_append_right _ _ (by rw [List.length_replicate]; exact Nat.le_refl _), List.length_replicate, Nat.sub_self, List.drop_eq_getElem_cons hk, List.set_cons_zero, List.replicate_succ', List.append_assoc]
  rfl
theorem lp_fill {a : Nat} {l : List Int32} {v : Int32} (ha : a < 100000) (hh : a < h.length) (hl : l.length < 100000) : ∀ r k, k + r = l.length → Ev d m_J7_fill 5 [some (.ref a), some (.int v), some (.int (nI k)), some (.int (nI l.length))] [] (h.set a (.inl (0, List.replicate k v ++ l.drop k))) (rtv (h.set a (.inl (0, List.replicate l.length v)))) := by
  intro r
  induction r with
  | zero =>
    intro k hk
    iterate 3 refine ev_nx rfl ?_
    refine ev_ge (fun _ => ?_) (fun h => absurd h (by omega))
    refine ev_rt rfl ⟨rfl, ?_⟩
    rw [List.drop_eq_nil_of_le (by omega), List.append_nil, show k = l.length by omega]
  | succ r ih =>
    intro k hk
    iterate 3 refine ev_nx rfl ?_
    refine ev_ge (fun h => absurd h (by omega)) (fun _ => ?_)
    iterate 3 refine ev_nx rfl ?_
    refine ev_is rfl (List.getElem?_set_self hh) (by rw [List.length_append, List.length_replicate, List.length_drop]; omega) ?_
    rw [set_set, rep_set (by omega)]
    iterate 2 refine ev_nx rfl ?_
    rw [nI_add]
    exact ih (k + 1) (by omega)
theorem e_fill {a : Nat} {l : List Int32} {v : Int32} (ha : a < 100000) (hh : h[a]? = some (.inl (0, l))) (hl : l.length < 100000) : Ec d m_J7_fill [.ref a, .int v] h (rtv (h.set a (.inl (0, List.replicate l.length v)))) := by
  have hlt : a < h.length := (List.getElem?_eq_some_iff.mp hh).1
  refine ec_in [some (.ref a), some (.int v), none, none] rfl rfl ?_
  iterate 3 refine ev_nx rfl ?_
  refine ev_al rfl (am_arr_h ha hh) (by decide) ?_
  refine ev_nx rfl ?_
  have H := lp_fill (h := h) (d := d) (a := a) (l := l) (v := v) ha hlt hl l.length 0 (by omega)
  rw [List.replicate_zero, List.nil_append, List.drop_zero, set_id hh] at H
  exact H
theorem uat_p (hm : uat h ss sr R hr P n) {P' : List Nat} : uat (h.set 73 (ar P')) ss sr R hr P' n :=
  ⟨by rw [gset_n (by decide)]; exact hm.1, by rw [gset_n (by decide)]; exact hm.2.1, by rw [gset_n (by decide)]; exact hm.2.2.1, by rw [gset_n (by decide)]; exact hm.2.2.2.1, gset_s hm.2.2.2.2⟩
theorem e_uadd (hm : uat h ss sr R hr P n) (ok : uok ss sr R P n) {s r : Nat} : Ec d m_X7_add [.ref 69, .int (nI s), .int (nI r)] h (fun v h' => v = none ∧ uat h' (if n < 8 then ss.set n s else ss) (if n < 8 then sr.set n r else sr) R hr P (if n < 8 then n + 1 else n) ∧ fr 69 73 h h') := by
  obtain ⟨⟨a1, a2⟩, ⟨b1, b2⟩, _, _, hn⟩ := ok
  refine ec_in [some (.ref 69), some (.int (nI s)), some (.int (nI r))] rfl rfl ?_
  refine ev_nx rfl ?_
  refine ev_gf rfl rfl hm.1 rfl ?_
  iterate 2 refine ev_nx rfl ?_
  refine ev_ge (fun hc => ?_) (fun hc => ?_)
  · rw [if_neg (by omega), if_neg (by omega), if_neg (by omega)]
    exact ev_rt rfl ⟨rfl, hm, rfl, fun _ _ => rfl⟩
  · rw [if_pos (by omega), if_pos (by omega), if_pos (by omega)]
    refine ev_nx rfl ?_
    refine ev_gf rfl rfl hm.1 rfl ?_
    refine ev_nx rfl ?_
    refine ev_gf rfl rfl hm.1 rfl ?_
    refine ev_nx rfl ?_
    refine ev_is rfl hm.2.1 (by rw [List.length_map]; omega) ?_
    have m1 : ∀ y, (h.set 70 y)[69]? = some (uo hr n) := fun y => by rw [gset_n (by decide)]; exact hm.1
    have m2 : ∀ y, (h.set 70 y)[71]? = some (ar sr) := fun y => by rw [gset_n (by decide)]; exact hm.2.2.1
    refine ev_nx rfl ?_
    refine ev_gf rfl rfl (m1 _) rfl ?_
    refine ev_nx rfl ?_
    refine ev_gf rfl rfl (m1 _) rfl ?_
    refine ev_nx rfl ?_
    refine ev_is rfl (m2 _) (by rw [List.length_map]; omega) ?_
    have m3 : ∀ y z, ((h.set 70 y).set 71 z)[69]? = some (uo hr n) := fun y z => by rw [gset_n (by decide)]; exact m1 _
    iterate 2 refine ev_nx rfl ?_
    refine ev_gf rfl rfl (m3 _ _) rfl ?_
    iterate 2 refine ev_nx rfl ?_
    rw [nI_add]
    refine ev_pf rfl rfl (m3 _ _) (by show 5 < 6; decide) rfl rfl rfl ?_
    refine ev_rt rfl ⟨rfl, ⟨?_, ?_, ?_, ?_, ?_⟩, by simp, fun q hq => ?_⟩
    · rw [gset_s (m3 _ _)]; rfl
    · rw [gset_n (by decide), gset_n (by decide), gset_s hm.2.1, ms_]; rfl
    · rw [gset_n (by decide), gset_s (m2 _), ms_]; rfl
    · rw [gset_n (by decide), gset_n (by decide), gset_n (by decide)]; exact hm.2.2.2.1
    · rw [gset_n (by decide), gset_n (by decide), gset_n (by decide)]; exact hm.2.2.2.2
    · rw [gset_n (by omega), gset_n (by omega), gset_n (by omega)]
theorem e_uempty (hm : uat h ss sr R hr P n) : Ec d m_X7_empty [.ref 69] h (fun v h' => v = some (.int (nI n)) ∧ uat h' ss sr R hr P 0 ∧ fr 69 73 h h') := by
  refine ec_in [some (.ref 69), none] rfl rfl ?_
  refine ev_nx rfl ?_
  refine ev_gf rfl rfl hm.1 rfl ?_
  iterate 3 refine ev_nx rfl ?_
  refine ev_pf rfl rfl hm.1 (by show 5 < 6; decide) rfl rfl rfl ?_
  refine ev_nx rfl ?_
  refine ev_ri rfl rfl rfl ⟨rfl, ⟨?_, ?_, ?_, ?_, ?_⟩, by simp, fun q hq => ?_⟩
  · rw [gset_s hm.1]; rfl
  · rw [gset_n (by decide)]; exact hm.2.1
  · rw [gset_n (by decide)]; exact hm.2.2.1
  · rw [gset_n (by decide)]; exact hm.2.2.2.1
  · rw [gset_n (by decide)]; exact hm.2.2.2.2
  · rw [gset_n (by omega)]
/-- what was seen agrees with a wrong -/
def agr (ss sr R : List Nat) (k : Nat) : Nat → Nat → Bool
  | 0, _ => true
  | r + 1, p => if R.getD (k * 30 + ss.getD p 0) 0 = sr.getD p 0 then agr ss sr R k r (p + 1) else false
theorem lp_agr (hm : uat h ss sr R hr P n) (ok : uok ss sr R P n) {k : Nat} (hk : k < 25) : ∀ r p, p + r = n → Ev d m_X7_agrees 2 [some (.ref 69), some (.int (nI k)), some (.int (nI p))] [] h (rt (.int (nI (b2n (agr ss sr R k r p)))) h) := by
  obtain ⟨⟨a1, a2⟩, ⟨b1, b2⟩, ⟨c1, c2⟩, _, hn⟩ := ok
  intro r
  induction r with
  | zero =>
    intro p hp
    iterate 2 refine ev_nx rfl ?_
    refine ev_gf rfl rfl hm.1 rfl ?_
    refine ev_nx rfl ?_
    refine ev_ge (fun _ => ?_) (fun h => absurd h (by omega))
    refine ev_nx rfl ?_
    exact ev_ri rfl rfl rfl ⟨rfl, rfl⟩
  | succ r ih =>
    intro p hp
    have g1 : ss.getD p 0 < 30 := gd3 a2 (by omega)
    have g2 : sr.getD p 0 < 32 := gd3 b2 (by omega)
    have g3 : R.getD (k * 30 + ss.getD p 0) 0 < 32 := gd3 c2 (by omega)
    rw [agr]
    iterate 2 refine ev_nx rfl ?_
    refine ev_gf rfl rfl hm.1 rfl ?_
    refine ev_nx rfl ?_
    refine ev_ge (fun h => absurd h (by omega)) (fun _ => ?_)
    refine ev_nx rfl ?_
    refine ev_gf rfl rfl hm.1 rfl ?_
    iterate 4 refine ev_nx rfl ?_
    refine ev_gf rfl rfl hm.1 rfl ?_
    refine ev_nx rfl ?_
    refine ev_ia rfl (am_arr_h (by decide) hm.2.1) (mg (by omega)) ?_
    refine ev_nx rfl ?_
    rw [pk_mul, nI_add]
    refine ev_ba rfl (am_arr_h (by decide) hm.2.2.2.1) (mg (by omega)) ?_
    refine ev_nx rfl ?_
    refine ev_gf rfl rfl hm.1 rfl ?_
    refine ev_nx rfl ?_
    refine ev_ia rfl (am_arr_h (by decide) hm.2.2.1) (mg (by omega)) ?_
    refine ev_nx rfl ?_
    refine ev_eq (fun hc => ?_) (fun hc => ?_)
    · rw [if_pos hc]
      iterate 2 refine ev_nx rfl ?_
      rw [nI_add]
      exact ih (p + 1) (by omega)
    · rw [if_neg hc]
      refine ev_nx rfl ?_
      exact ev_ri rfl rfl rfl ⟨rfl, rfl⟩
theorem e_agrees (hm : uat h ss sr R hr P n) (ok : uok ss sr R P n) {k : Nat} (hk : k < 25) : Ec d m_X7_agrees [.ref 69, .int (nI k)] h (rt (.int (nI (b2n (agr ss sr R k n 0)))) h) := by
  refine ec_in [some (.ref 69), some (.int (nI k)), none] rfl rfl ?_
  iterate 2 refine ev_nx rfl ?_
  exact lp_agr hm ok hk n 0 (by omega)
/-! the greatest part -/
/-- the parts counted from a wrong on; the greatest of them -/
def gpr (R : List Nat) (w s : Nat) : Nat → Nat → List Nat → Nat → List Nat × Nat
  | 0, _, P, m => (P, m)
  | r + 1, k, P, m => if bt w k = 1 then gpr R w s r (k + 1) (P.set (R.getD (k * 30 + s) 0) (P.getD (R.getD (k * 30 + s) 0) 0 + 1)) (max m (P.getD (R.getD (k * 30 + s) 0) 0 + 1)) else gpr R w s r (k + 1) P m
def z32 : List Nat := List.replicate 32 0
def gpt (R : List Nat) (w s : Nat) : Nat := (gpr R w s 25 0 z32 0).2
theorem n_max {a b : Nat} (ha : a < 2147483648) (hb : b < 2147483648) : (if nI a < nI b then nI b else nI a) = nI (max a b) := by
  by_cases hc : a < b
  · rw [if_pos ((nI_ltI ha hb).mpr hc), Nat.max_eq_right (by omega)]
  · rw [if_neg (fun q => hc ((nI_ltI ha hb).mp q)), Nat.max_eq_left (by omega)]
/-- only the parts have changed -/
def uj (v : Nat) (h : aH) : Option Value → aH → Prop := fun r h' => r = some (.int (nI v)) ∧ ∃ P, P.length = 32 ∧ h' = h.set 73 (ar P)
theorem gpr_len : ∀ r k P m w s, P.length = 32 → (gpr R w s r k P m).1.length = 32 := by
  intro r
  induction r with
  | zero => intro k P m w s hP; exact hP
  | succ r ih =>
    intro k P m w s hP
    rw [gpr]
    split
    · exact ih _ _ _ _ _ (by rw [List.length_set]; exact hP)
    · exact ih _ _ _ _ _ hP
theorem lp_gp (hm : uat h ss sr R hr P n) (ok : uok ss sr R P n) {w s : Nat} (hw : w < 2147483648) (hs : s < 30) : ∀ r k P1 m l5, k + r = 25 → P1.length = 32 → (∀ x ∈ P1, x ≤ k) → m ≤ k → Ev (d + 1) m_X7_greatestPart 13 [some (.ref 69), some (.int (nI w)), some (.int (nI s)), some (.int (nI m)), some (.int (nI k)), l5] [] (h.set 73 (ar P1)) (uj (gpr R w s r k P1 m).2 h) := by
  obtain ⟨_, _, ⟨c1, c2⟩, _, hn⟩ := ok
  intro r
  induction r with
  | zero =>
    intro k P1 m l5 hk hP hx hmk
    iterate 3 refine ev_nx rfl ?_
    refine ev_ge (fun _ => ?_) (fun h => absurd h (by omega))
    refine ev_nx rfl ?_
    exact ev_ri rfl rfl rfl ⟨rfl, P1, hP, rfl⟩
  | succ r ih =>
    intro k P1 m l5 hk hP hx hmk
    have g3 : R.getD (k * 30 + s) 0 < 32 := gd3 c2 (by omega)
    have g4 : P1.getD (R.getD (k * 30 + s) 0) 0 ≤ k := by
      rw [List.getD, List.getElem?_eq_getElem (by omega)]; exact hx _ (List.getElem_mem _)
    have hb := bt_lt w k
    have um := uat_p hm (P' := P1)
    rw [gpr]
    iterate 3 refine ev_nx rfl ?_
    refine ev_ge (fun h => absurd h (by omega)) (fun _ => ?_)
    iterate 2 refine ev_nx rfl ?_
    refine ev_ci rfl rfl (ec_le (Nat.zero_le d) (e_bitAt w k hw (by omega) _)) ?_
    iterate 2 refine ev_nx rfl ?_
    refine ev_ne (fun hc => ?_) (fun hc => ?_)
    · rw [if_neg hc]
      iterate 2 refine ev_nx rfl ?_
      rw [nI_add]
      exact ih (k + 1) P1 m _ (by omega) hP (fun x hxx => by have := hx x hxx; omega) (by omega)
    · rw [if_pos hc]
      refine ev_nx rfl ?_
      refine ev_gf rfl rfl um.1 rfl ?_
      iterate 5 refine ev_nx rfl ?_
      rw [pk_mul, nI_add]
      refine ev_ba rfl (am_arr_h (by decide) um.2.2.2.1) (mg (by omega)) ?_
      iterate 2 refine ev_nx rfl ?_
      refine ev_gf rfl rfl um.1 rfl ?_
      iterate 2 refine ev_nx rfl ?_
      refine ev_ia rfl (am_arr_h (by decide) um.2.2.2.2) (mg (by omega)) ?_
      iterate 2 refine ev_nx rfl ?_
      rw [nI_add]
      refine ev_is rfl um.2.2.2.2 (by rw [List.length_map]; omega) ?_
      rw [set_set, ms_]
      have u2 := uat_p hm (P' := P1.set (R.getD (k * 30 + s) 0) (P1.getD (R.getD (k * 30 + s) 0) 0 + 1))
      iterate 2 refine ev_nx rfl ?_
      refine ev_gf rfl rfl u2.1 rfl ?_
      refine ev_nx rfl ?_
      refine ev_ia rfl (am_arr_h (by decide) u2.2.2.2.2) (mg (by rw [List.length_set]; omega)) ?_
      rw [gd_s (by omega)]
      refine ev_nx rfl ?_
      rw [n_max (by omega) (by omega)]
      iterate 3 refine ev_nx rfl ?_
      rw [nI_add]
      refine ih (k + 1) _ _ _ (by omega) (by rw [List.length_set]; exact hP) (fun x hxx => ?_) (by omega)
      rcases List.mem_or_eq_of_mem_set hxx with q | q
      · have := hx x q; omega
      · omega
theorem e_greatestPart (hm : uat h ss sr R hr P n) (ok : uok ss sr R P n) {w s : Nat} (hw : w < 2147483648) (hs : s < 30) : Ec (d + 1) m_X7_greatestPart [.ref 69, .int (nI w), .int (nI s)] h (uj (gpt R w s) h) := by
  have hP := ok.2.2.2.1
  refine ec_in [some (.ref 69), some (.int (nI w)), some (.int (nI s)), none, none, none] rfl rfl ?_
  refine ev_nx rfl ?_
  refine ev_gf rfl rfl hm.1 rfl ?_
  refine ev_nx rfl ?_
  refine ev_cv rfl rfl (e_fill (v := nI 0) (by decide) hm.2.2.2.2 (by rw [List.length_map]; omega)) ?_
  rw [List.length_map, hP, show (Sum.inl (0, List.replicate 32 (nI 0)) : aC) = ar z32 from rfl]
  iterate 4 refine ev_nx rfl ?_
  exact lp_gp hm ok hw hs 25 0 z32 0 none rfl rfl (fun x hx => by rw [List.eq_of_mem_replicate hx]; exact Nat.le_refl _) (Nat.le_refl _)
theorem uok_p (ok : uok ss sr R P n) {P' : List Nat} (hP : P'.length = 32) : uok ss sr R P' n := ⟨ok.1, ok.2.1, ok.2.2.1, hP, ok.2.2.2.2⟩
/-- the sign with the least greatest part, from a sign on -/
def bsr (R : List Nat) (w : Nat) : Nat → Nat → Nat → Nat → Nat
  | 0, _, b, _ => b
  | r + 1, s, b, m => if m ≤ gpt R w s then bsr R w r (s + 1) b m else bsr R w r (s + 1) s (gpt R w s)
theorem gpr_le : ∀ r k P m w s, k + r ≤ 25 → m ≤ k → (∀ x ∈ P, x ≤ k) → (gpr R w s r k P m).2 ≤ 25 := by
  intro r
  induction r with
  | zero => intro k P m w s h1 h2 h3; show m ≤ 25; omega
  | succ r ih =>
    intro k P m w s h1 h2 h3
    have g4 : ∀ y, P.getD y 0 ≤ k := fun y => by
      rw [List.getD]
      cases hy : P[y]? with
      | none => exact Nat.zero_le _
      | some x => exact h3 x (List.mem_of_getElem? hy)
    rw [gpr]
    split
    · refine ih _ _ _ _ _ (by omega) (by have := g4 (R.getD (k * 30 + s) 0); omega) (fun x hxx => ?_)
      rcases List.mem_or_eq_of_mem_set hxx with q | q
      · have := h3 x q; omega
      · have := g4 (R.getD (k * 30 + s) 0); omega
    · exact ih _ _ _ _ _ (by omega) (by omega) (fun x hxx => by have := h3 x hxx; omega)
theorem gpt_le (w s : Nat) : gpt R w s ≤ 25 := gpr_le 25 0 z32 0 w s (by omega) (by omega) (fun x hx => by rw [List.eq_of_mem_replicate hx]; exact Nat.le_refl _)
theorem lp_bs (hm : uat h ss sr R hr P n) (ok : uok ss sr R P n) {w : Nat} (hw : w < 2147483648) : ∀ r s b m P1 l5, s + r = 30 → b ≤ 30 → m ≤ 26 → P1.length = 32 → Ev (d + 2) m_X7_bestSign 8 [some (.ref 69), some (.int (nI w)), some (.int (nI b)), some (.int (nI m)), some (.int (nI s)), l5] [] (h.set 73 (ar P1)) (uj (bsr R w r s b m) h) := by
  intro r
  induction r with
  | zero =>
    intro s b m P1 l5 hs hb hmm hP
    iterate 3 refine ev_nx rfl ?_
    refine ev_ge (fun _ => ?_) (fun h => absurd h (by omega))
    refine ev_nx rfl ?_
    exact ev_ri rfl rfl rfl ⟨rfl, P1, hP, rfl⟩
  | succ r ih =>
    intro s b m P1 l5 hs hb hmm hP
    have hg := gpt_le (R := R) w s
    rw [bsr]
    iterate 3 refine ev_nx rfl ?_
    refine ev_ge (fun h => absurd h (by omega)) (fun _ => ?_)
    iterate 3 refine ev_nx rfl ?_
    refine ev_v rfl rfl rfl rfl rfl rfl (uat_p hm).1 rfl (e_greatestPart (uat_p hm) (uok_p ok hP) hw (by omega)) (fun rv h2 q => ?_)
    obtain ⟨rfl, P2, hP2, rfl⟩ := q
    rw [set_set]
    iterate 4 refine ev_nx rfl ?_
    refine ev_ge (fun hc => ?_) (fun hc => ?_)
    · rw [if_pos hc]
      iterate 2 refine ev_nx rfl ?_
      rw [nI_add]
      exact ih (s + 1) b m P2 _ (by omega) hb hmm hP2
    · rw [if_neg (by omega)]
      iterate 6 refine ev_nx rfl ?_
      rw [nI_add]
      exact ih (s + 1) s _ P2 _ (by omega) (by omega) (by omega) hP2
theorem e_bestSign (hm : uat h ss sr R hr P n) (ok : uok ss sr R P n) {w : Nat} (hw : w < 2147483648) : Ec (d + 2) m_X7_bestSign [.ref 69, .int (nI w)] h (uj (bsr R w 30 0 0 26) h) := by
  refine ec_in [some (.ref 69), some (.int (nI w)), none, none, none, none] rfl rfl ?_
  iterate 6 refine ev_nx rfl ?_
  have H := lp_bs (d := d) hm ok hw 30 0 0 26 P none rfl (by decide) (by decide) ok.2.2.2.1
  rw [set_id hm.2.2.2.2] at H
  exact H
end SU
end
section
/-! the suspects: the readings of every wrong -/
/-- a line whose moving part is unknown -/
def lnw (h : aH) (i : Nat) (K : List Nat) (c t j : Nat) : Prop := ∃ S G, ltx h i (K, S, G, c, t, j) ∧ lok K S G c t j
def wrK (k : Nat) : List Nat := if k < 14 then z5 else if k < 19 then z5.set (k - 14) 1 else if k < 24 then z5.set (k - 19) 3 else z5
def wrC (k : Nat) : Nat := if k < 5 then 1 * 2 ^ k else 0
def wrT (k : Nat) : Nat := if 5 ≤ k ∧ k < 10 then 1 * 2 ^ (k - 5) else 0
def wrJ (k : Nat) : Nat := if 10 ≤ k ∧ k < 14 then 1 * 2 ^ (k - 10) else 0
/-- what a whole line with one wrong lets be read -/
def rdw (k s : Nat) : Nat := rdS (btn (wrK k) (cry s (wrC k) (wrT k) (wrJ k)) 1 z5 z5)
section SV
variable {h : aH} {ss sr R P K : List Nat} {i c t j hr n d : Nat} {Q : Option Value → aH → Prop}
theorem lnw_o (hx : lnw h i K c t j) : h[i]? = some (lo i c t j) := by
  obtain ⟨S, G, ⟨C, hC, a⟩, ok⟩ := hx
  exact a.1
theorem lnw_fr {h' : aH} {a b : Nat} (hx : lnw h i K c t j) (hf : fr a b h h') (hd : i + 4 < a ∨ b < i) : lnw h' i K c t j := by
  obtain ⟨S, G, hl, ok⟩ := hx
  exact ⟨S, G, ltx_fr hl (fun q h1 h2 => hf.2 q (by omega)), ok⟩
theorem e_sfr (hx : lnw h i K c t j) (hh : h.length ≤ 100000) {s m : Nat} (hs : s < 31) (hm : m < 1000) : Ec (d + 3) m_X3_sendFromRest [.ref i, .int (nI s), .int (nI m)] h (fun r h' => r = some (.int (nI (rdS (btn K (cry s c t j) m z5 z5)))) ∧ lnw h' i K c t j ∧ fr i (i + 4) h h') := by
  obtain ⟨S, G, ⟨C, hC, a⟩, ok⟩ := hx
  have hl := lat_lt a
  have H := e_sendFromRest (d := d) (h := h) (i := i) (C := C) ⟨hl, hh⟩ ok hC hs hm
  rw [lat_self a] at H
  refine ec_mono H (fun r h' q => ?_)
  obtain ⟨rfl, rfl⟩ := q
  exact ⟨rfl, ⟨_, _, ⟨_, cry_len, lat_of hl⟩, sd_ok (x := z55) (n := m) (lok_rest ok) hs⟩, lh_len, fun q hq => lh_o (by omega)⟩
theorem e_mw (hx : lnw h i K c t j) (hh : h.length ≤ 100000) : Ec d m_X3_makeWhole [.ref i] h (fun r h' => r = none ∧ lnw h' i z5 0 0 0 ∧ fr i (i + 4) h h') := by
  obtain ⟨S, G, ⟨C, hC, a⟩, ok⟩ := hx
  have hl := lat_lt a
  have H := e_makeWhole (S := S) (G := G) (C := C) (c := c) (t := t) (j := j) (d := d) (h := h) (i := i) ⟨hl, hh⟩ ok.1.1
  rw [lat_self a] at H
  refine ec_mono H (fun r h' q => ?_)
  obtain ⟨rfl, rfl⟩ := q
  exact ⟨rfl, ⟨S, G, ⟨C, hC, lat_of hl⟩, ⟨rfl, by decide⟩, ok.2.1, ok.2.2.1, by decide, by decide, by decide⟩, lh_len, fun q hq => lh_o (by omega)⟩
theorem wr_ok : ∀ k : Fin 25, ((wrK k.val).length = 5 ∧ ∀ s ∈ wrK k.val, s < 6) ∧ wrC k.val < 32 ∧ wrT k.val < 32 ∧ wrJ k.val < 16 := by decide
theorem p2_lt {p : Nat} (hp : p < 5) : 1 * 2 ^ p < 4294967296 := by
  have := Nat.pow_lt_pow_right (a := 2) (by decide) hp; omega
theorem e_makeWrong (hx : lnw h i z5 0 0 0) (hh : h.length ≤ 100000) {k : Nat} (hk : k < 25) : Ec d m_X7_makeWrong [.ref i, .int (nI k)] h (fun r h' => r = none ∧ lnw h' i (wrK k) (wrC k) (wrT k) (wrJ k) ∧ fr i (i + 4) h h') := by
  obtain ⟨S, G, ⟨C, hC, a⟩, ok⟩ := hx
  have hl := lat_lt a
  have hI : lI h i := ⟨hl, hh⟩
  have hself := lat_self a
  obtain ⟨o1, o2, o3, o4⟩ := wr_ok ⟨k, hk⟩
  have put : lnw (lh h i (wrK k) S G C (wrC k) (wrT k) (wrJ k)) i (wrK k) (wrC k) (wrT k) (wrJ k) ∧ fr i (i + 4) h (lh h i (wrK k) S G C (wrC k) (wrT k) (wrJ k)) := ⟨⟨S, G, ⟨C, hC, lat_of hl⟩, o1, ok.2.1, ok.2.2.1, o2, o3, o4⟩, lh_len, fun q hq => lh_o (by omega)⟩
  simp only at hself
  refine ec_in [some (.ref i), some (.int (nI k))] rfl rfl ?_
  rw [← hself]
  unfold wrK wrC wrT wrJ at put ⊢
  iterate 3 refine ev_nx rfl ?_
  refine ev_ge (fun k5 => ?_) (fun k5 => ?_)
  · rw [if_neg (show ¬ k < 5 by omega)] at put ⊢
    iterate 3 refine ev_nx rfl ?_
    refine ev_ge (fun k10 => ?_) (fun k10 => ?_)
    · rw [if_neg (show ¬ (5 ≤ k ∧ k < 10) by omega)] at put ⊢
      iterate 3 refine ev_nx rfl ?_
      refine ev_ge (fun k14 => ?_) (fun k14 => ?_)
      · rw [if_neg (show ¬ (10 ≤ k ∧ k < 14) by omega), if_neg (show ¬ k < 14 by omega)] at put ⊢
        iterate 3 refine ev_nx rfl ?_
        refine ev_ge (fun k19 => ?_) (fun k19 => ?_)
        · rw [if_neg (show ¬ k < 19 by omega)] at put ⊢
          iterate 3 refine ev_nx rfl ?_
          refine ev_ge (fun k24 => ?_) (fun k24 => ?_)
          · rw [if_neg (show ¬ k < 24 by omega)] at put ⊢
            rw [hself]
            rw [hself] at put
            exact ev_rt rfl ⟨rfl, put⟩
          · rw [if_pos (show k < 24 by omega)] at put ⊢
            refine ev_nx rfl ?_
            refine ev_lf hI rfl rfl rfl rfl ?_
            iterate 4 refine ev_nx rfl ?_
            rw [pk_sub (by omega)]
            refine ev_sK hI rfl (by show k - 19 < 5 ∧ _; omega) ?_
            rw [hself]
            exact ev_rt rfl ⟨rfl, put⟩
        · rw [if_pos (show k < 19 by omega)] at put ⊢
          refine ev_nx rfl ?_
          refine ev_lf hI rfl rfl rfl rfl ?_
          iterate 4 refine ev_nx rfl ?_
          rw [pk_sub (by omega)]
          refine ev_sK hI rfl (by show k - 14 < 5 ∧ _; omega) ?_
          refine ev_nx rfl ?_
          rw [hself]
          exact ev_rt rfl ⟨rfl, put⟩
      · rw [if_pos (show (10 ≤ k ∧ k < 14) by omega), if_pos (show k < 14 by omega)] at put ⊢
        iterate 5 refine ev_nx rfl ?_
        rw [pk_sub (by omega)]
        refine ev_nx rfl ?_
        rw [n_shl (by omega) (p2_lt (by omega))]
        refine ev_lp (c' := 0) (t' := 0) (j' := 1 * 2 ^ (k - 10)) hI rfl rfl (by decide) (by decide) rfl ?_
        refine ev_nx rfl ?_
        rw [hself]
        exact ev_rt rfl ⟨rfl, put⟩
    · rw [if_pos (show (5 ≤ k ∧ k < 10) by omega), if_neg (show ¬ (10 ≤ k ∧ k < 14) by omega), if_pos (show k < 14 by omega)] at put ⊢
      iterate 5 refine ev_nx rfl ?_
      rw [pk_sub (by omega)]
      refine ev_nx rfl ?_
      rw [n_shl (by omega) (p2_lt (by omega))]
      refine ev_lp (c' := 0) (t' := 1 * 2 ^ (k - 5)) (j' := 0) hI rfl rfl (by decide) (by decide) rfl ?_
      refine ev_nx rfl ?_
      rw [hself]
      exact ev_rt rfl ⟨rfl, put⟩
  · rw [if_pos (show k < 5 by omega), if_neg (show ¬ (5 ≤ k ∧ k < 10) by omega), if_neg (show ¬ (10 ≤ k ∧ k < 14) by omega), if_pos (show k < 14 by omega)] at put ⊢
    iterate 4 refine ev_nx rfl ?_
    rw [n_shl (by omega) (p2_lt (by omega))]
    refine ev_lp (c' := 1 * 2 ^ k) (t' := 0) (j' := 0) hI rfl rfl (by decide) (by decide) rfl ?_
    refine ev_nx rfl ?_
    rw [hself]
    exact ev_rt rfl ⟨rfl, put⟩
end SV
end
section
/-! the suspects: workOutReadings, possible -/
def RT : List Nat := (List.range 750).map (fun p => rdw (p / 30) (p % 30))
/-- only a line and the suspects have changed -/
def fw (i : Nat) (h h' : aH) : Prop := h'.length = h.length ∧ ∀ p, p < i ∨ i + 4 < p → p < 69 ∨ 73 < p → h'[p]? = h[p]?
def wki (ss sr P : List Nat) (n i : Nat) (h0 h1 : aH) (q : Nat) : Prop := ∃ R1, uat h1 ss sr R1 0 P n ∧ R1.length = 750 ∧ (∀ p, p < q → R1.getD p 0 = rdw (p / 30) (p % 30)) ∧ fw i h0 h1
section SW
variable {h : aH} {ss sr R P K : List Nat} {i c t j hr n d : Nat} {Q : Option Value → aH → Prop}
theorem i2b_n : ∀ v : Fin 32, (nI v.val).toInt8.toInt32 = nI v.val ∧ vp_nar .byte (nI v.val) = nI v.val := by decide +kernel
theorem fw_fr {h1 h2 : aH} (x : fw i h h1) (y : fr i (i + 4) h1 h2) : fw i h h2 := ⟨y.1.trans x.1, fun p a b => (y.2 p a).trans (x.2 p a b)⟩
theorem uat_fr {h1 : aH} {a b : Nat} (hm : uat h ss sr R hr P n) (hf : fr a b h h1) (hb : b < 69 ∨ 73 < a) : uat h1 ss sr R hr P n :=
  ⟨by rw [hf.2 _ (by omega)]; exact hm.1, by rw [hf.2 _ (by omega)]; exact hm.2.1, by rw [hf.2 _ (by omega)]; exact hm.2.2.1, by rw [hf.2 _ (by omega)]; exact hm.2.2.2.1, by rw [hf.2 _ (by omega)]; exact hm.2.2.2.2⟩
theorem wki_fr {h1 h2 : aH} {q : Nat} (x : wki ss sr P n i h h1 q) (y : fr i (i + 4) h1 h2) (hi : i + 4 < 69) : wki ss sr P n i h h2 q := by
  obtain ⟨R1, a, b, c, e⟩ := x
  exact ⟨R1, uat_fr a y (by omega), b, c, fw_fr e y⟩
theorem rdw_lt {k s : Nat} (hk : k < 25) (hs : s < 31) : rdw k s < 32 := by
  obtain ⟨o1, o2, o3, o4⟩ := wr_ok ⟨k, hk⟩
  have ok : lok (wrK k) z5 z5 (wrC k) (wrT k) (wrJ k) := ⟨o1, ⟨rfl, by decide⟩, ⟨rfl, by decide⟩, o2, o3, o4⟩
  exact rdS_lt (sd_ok (x := z55) (n := 1) ok hs).2.1.1
theorem lp_rd {h0 : aH} (hi : i + 4 < 69) (h0l : h0.length ≤ 100000) {k : Nat} (hk : k < 25) (KK : ∀ h2, wki ss sr P n i h0 h2 ((k + 1) * 30) → lnw h2 i (wrK k) (wrC k) (wrT k) (wrJ k) → Ev (d + 4) m_X7_workOutReadings 57 [some (.ref 69), some (.ref i), some (.int (nI k)), some (.int (nI 30))] [] h2 Q) : ∀ r s h1, s + r = 30 → wki ss sr P n i h0 h1 (k * 30 + s) → lnw h1 i (wrK k) (wrC k) (wrT k) (wrJ k) → Ev (d + 4) m_X7_workOutReadings 27 [some (.ref 69), some (.ref i), some (.int (nI k)), some (.int (nI s))] [] h1 Q := by
  intro r
  induction r with
  | zero =>
    intro s h1 hs hw hx
    have e : s = 30 := by omega
    subst e
    iterate 3 refine ev_nx rfl ?_
    refine ev_ge (fun _ => ?_) (fun h => absurd h (by omega))
    exact KK h1 (by rw [show (k + 1) * 30 = k * 30 + 30 by omega]; exact hw) hx
  | succ r ih =>
    intro s h1 hs hw hx
    obtain ⟨R1, a1, a2, a3, a4⟩ := hw
    have hv := rdw_lt (s := s) hk (by omega)
    have hl1 : h1.length ≤ 100000 := by rw [a4.1]; exact h0l
    iterate 3 refine ev_nx rfl ?_
    refine ev_ge (fun h => absurd h (by omega)) (fun _ => ?_)
    refine ev_nx rfl ?_
    refine ev_gf rfl rfl a1.1 rfl ?_
    iterate 8 refine ev_nx rfl ?_
    refine ev_v rfl rfl rfl rfl rfl rfl (lnw_o hx) rfl (e_sfr hx hl1 (by omega) (by decide)) (fun rv h2 q => ?_)
    obtain ⟨rfl, q1, q2⟩ := q
    have u2 := uat_fr a1 q2 (by omega)
    have hb := i2b_n ⟨rdw k s, hv⟩
    refine ev_nx rfl ?_
    rw [pk_mul, nI_add, show (nI (rdS (btn (wrK k) (cry s (wrC k) (wrT k) (wrJ k)) 1 z5 z5))).toInt8.toInt32 = nI (rdw k s) from hb.1]
    refine ev_bs rfl u2.2.2.2.1 (by rw [List.length_map]; omega) ?_
    rw [show vp_nar .byte (nI (rdw k s)) = nI (rdw k s) from hb.2, ms_]
    have hf : fr 72 72 h2 (h2.set 72 (.inl (2, (R1.set (k * 30 + s) (rdw k s)).map nI))) := ⟨by rw [List.length_set], fun p hp => gset_n (by omega)⟩
    iterate 2 refine ev_nx rfl ?_
    rw [nI_add]
    refine ih (s + 1) _ (by omega) ⟨R1.set (k * 30 + s) (rdw k s), ⟨?_, ?_, ?_, ?_, ?_⟩, by rw [List.length_set]; exact a2, fun p hp => ?_, ?_, fun p h1 h2 => ?_⟩ (lnw_fr q1 hf (by omega))
    · rw [gset_n (by decide)]; exact u2.1
    · rw [gset_n (by decide)]; exact u2.2.1
    · rw [gset_n (by decide)]; exact u2.2.2.1
    · exact gset_s u2.2.2.2.1
    · rw [gset_n (by decide)]; exact u2.2.2.2.2
    · by_cases e : k * 30 + s = p
      · subst e
        rw [gd_s (by omega), show (k * 30 + s) / 30 = k by omega, show (k * 30 + s) % 30 = s by omega]
      · rw [gd_n e]; exact a3 p (by omega)
    · rw [List.length_set, q2.1, a4.1]
    · rw [gset_n (by omega), q2.2 p h1]; exact a4.2 p h1 h2
theorem lp_wk {h0 : aH} (hi : i + 4 < 69) (h0l : h0.length ≤ 100000) (KK : ∀ h2 l3 K c t j, wki ss sr P n i h0 h2 750 → lnw h2 i K c t j → Ev (d + 4) m_X7_workOutReadings 63 [some (.ref 69), some (.ref i), some (.int (nI 25)), l3] [] h2 Q) : ∀ r k h1 l3 K c t j, k + r = 25 → wki ss sr P n i h0 h1 (k * 30) → lnw h1 i K c t j → Ev (d + 4) m_X7_workOutReadings 10 [some (.ref 69), some (.ref i), some (.int (nI k)), l3] [] h1 Q := by
  intro r
  induction r with
  | zero =>
    intro k h1 l3 K c t j hk hw hx
    have e : k = 25 := by omega
    subst e
    iterate 3 refine ev_nx rfl ?_
    refine ev_ge (fun _ => ?_) (fun h => absurd h (by omega))
    exact KK h1 _ K c t j hw hx
  | succ r ih =>
    intro k h1 l3 K c t j hk hw hx
    have hl1 : h1.length ≤ 100000 := by obtain ⟨_, _, _, _, a4⟩ := hw; rw [a4.1]; exact h0l
    iterate 3 refine ev_nx rfl ?_
    refine ev_ge (fun h => absurd h (by omega)) (fun _ => ?_)
    refine ev_nx rfl ?_
    refine ev_v rfl rfl rfl rfl rfl rfl (lnw_o hx) rfl (e_mw hx hl1) (fun rv h2 q => ?_)
    obtain ⟨rfl, q1, q2⟩ := q
    iterate 2 refine ev_nx rfl ?_
    refine ev_call rfl rfl (e_makeWrong q1 (by rw [q2.1]; exact hl1) (k := k) (by omega)) (fun rv h3 q => ?_)
    obtain ⟨rfl, q3, q4⟩ := q
    iterate 2 refine ev_nx rfl ?_
    refine lp_rd hi h0l (k := k) (by omega) (fun h4 w4 x4 => ?_) 30 0 h3 rfl (wki_fr (wki_fr hw q2 hi) q4 hi) q3
    iterate 2 refine ev_nx rfl ?_
    rw [nI_add]
    exact ih (k + 1) h4 _ _ _ _ _ (by omega) w4 x4
theorem e_workOut (hm : uat h ss sr R hr P n) (hR : hr = 0 ∧ R.length = 750 ∨ hr = 1 ∧ R = RT) (hx : lnw h i K c t j) (hi : i + 4 < 69) (hh : h.length ≤ 100000) : Ec (d + 4) m_X7_workOutReadings [.ref 69, .ref i] h (fun r h' => r = none ∧ uat h' ss sr RT 1 P n ∧ (∃ K c t j, lnw h' i K c t j) ∧ fw i h h') := by
  refine ec_in [some (.ref 69), some (.ref i), none, none] rfl rfl ?_
  refine ev_nx rfl ?_
  refine ev_gf rfl rfl hm.1 rfl ?_
  refine ev_nx rfl ?_
  rcases hR with ⟨e, e2⟩ | ⟨e, e2⟩
  · subst e
    refine ev_t (by decide) ?_
    iterate 2 refine ev_nx rfl ?_
    refine lp_wk hi hh (fun h2 l3 K c t j w x => ?_) 25 0 h none K c t j rfl ⟨R, hm, e2, fun p hp => absurd hp (by omega), rfl, fun _ _ _ => rfl⟩ hx
    obtain ⟨R1, a1, a2, a3, a4⟩ := w
    have e : R1 = RT := by
      refine List.ext_getElem? (fun p => ?_)
      by_cases hp : p < 750
      · have := a3 p hp
        rw [RT, List.getElem?_map, List.getElem?_range hp, Option.map_some, ← this, List.getD, List.getElem?_eq_getElem (by omega)]
        rfl
      · rw [List.getElem?_eq_none (by omega), List.getElem?_eq_none (by rw [RT, List.length_map, List.length_range]; omega)]
    rw [e] at a1
    iterate 2 refine ev_nx rfl ?_
    refine ev_pf rfl rfl a1.1 (by show 3 < 6; decide) rfl rfl rfl ?_
    refine ev_rt rfl ⟨rfl, ⟨?_, ?_, ?_, ?_, ?_⟩, ⟨K, c, t, j, lnw_fr (a := 69) (b := 69) x ⟨by rw [List.length_set], fun p hp => gset_n (by omega)⟩ (by omega)⟩, ?_, fun p h1 h2 => ?_⟩
    · rw [gset_s a1.1]; rfl
    · rw [gset_n (by decide)]; exact a1.2.1
    · rw [gset_n (by decide)]; exact a1.2.2.1
    · rw [gset_n (by decide)]; exact a1.2.2.2.1
    · rw [gset_n (by decide)]; exact a1.2.2.2.2
    · rw [List.length_set, a4.1]
    · rw [gset_n (by omega)]; exact a4.2 p h1 h2
  · subst e
    rw [e2] at hm
    refine ev_f (by decide) ?_
    exact ev_rt rfl ⟨rfl, hm, ⟨_, _, _, _, hx⟩, rfl, fun _ _ _ => rfl⟩
/-- the wrongs that agree, from a wrong on -/
def psr (ss sr : List Nat) (n : Nat) : Nat → Nat → Nat → Nat
  | 0, _, w => w
  | r + 1, k, w => psr ss sr n r (k + 1) (if agr ss sr RT k n 0 then w ||| 1 * 2 ^ k else w)
theorem lp_ps (hm : uat h ss sr RT hr P n) (ok : uok ss sr RT P n) : ∀ r k w, k + r = 25 → Ev (d + 1) m_X7_possible 9 [some (.ref 69), some (.ref i), some (.int (nI w)), some (.int (nI k))] [] h (rt (.int (nI (psr ss sr n r k w))) h) := by
  intro r
  induction r with
  | zero =>
    intro k w hk
    iterate 3 refine ev_nx rfl ?_
    refine ev_ge (fun _ => ?_) (fun h => absurd h (by omega))
    refine ev_nx rfl ?_
    exact ev_ri rfl rfl rfl ⟨rfl, rfl⟩
  | succ r ih =>
    intro k w hk
    have hp : 1 * 2 ^ k < 4294967296 := by
      have := Nat.pow_lt_pow_right (a := 2) (by decide) (show k < 25 by omega); omega
    rw [psr]
    iterate 3 refine ev_nx rfl ?_
    refine ev_ge (fun h => absurd h (by omega)) (fun _ => ?_)
    iterate 2 refine ev_nx rfl ?_
    refine ev_vi rfl rfl rfl rfl rfl rfl hm.1 rfl (e_agrees hm ok (by omega)) ?_
    cases hA : agr ss sr RT k n 0 with
    | false =>
      refine ev_nx rfl ?_
      refine ev_t (by decide) ?_
      iterate 2 refine ev_nx rfl ?_
      rw [nI_add, if_neg (by decide)]
      exact ih (k + 1) w (by omega)
    | true =>
      refine ev_nx rfl ?_
      refine ev_f (by decide) ?_
      iterate 4 refine ev_nx rfl ?_
      rw [n_shl (by omega) hp]
      iterate 2 refine ev_nx rfl ?_
      rw [n_or]
      iterate 2 refine ev_nx rfl ?_
      rw [nI_add, if_pos rfl]
      exact ih (k + 1) _ (by omega)
theorem RT_len : RT.length = 750 := by rw [RT, List.length_map, List.length_range]
theorem RT_lt : ∀ s ∈ RT, s < 32 := by
  intro s hs
  rw [RT, List.mem_map] at hs
  obtain ⟨p, hp, e⟩ := hs
  rw [List.mem_range] at hp
  rw [← e]
  exact rdw_lt (by omega) (by omega)
theorem e_possible (hm : uat h ss sr R hr P n) (ok : uok ss sr R P n) (hR : hr = 0 ∨ hr = 1 ∧ R = RT) (hx : lnw h i K c t j) (hi : i + 4 < 69) (hh : h.length ≤ 100000) : Ec (d + 5) m_X7_possible [.ref 69, .ref i] h (fun r h' => r = some (.int (nI (psr ss sr n 25 0 0))) ∧ uat h' ss sr RT 1 P n ∧ (∃ K c t j, lnw h' i K c t j) ∧ fw i h h') := by
  refine ec_in [some (.ref 69), some (.ref i), none, none] rfl rfl ?_
  iterate 2 refine ev_nx rfl ?_
  refine ev_v rfl rfl rfl rfl rfl rfl hm.1 rfl (e_workOut hm (hR.imp (fun e => ⟨e, ok.2.2.1.1⟩) id) hx hi hh) (fun rv h2 q => ?_)
  obtain ⟨rfl, q1, q2, q3⟩ := q
  iterate 4 refine ev_nx rfl ?_
  refine ev_mono (ev_le (d := d + 1) (by omega) (lp_ps q1 ⟨ok.1, ok.2.1, ⟨RT_len, RT_lt⟩, ok.2.2.2⟩ 25 0 0 rfl)) (fun r h' q => ?_)
  obtain ⟨rfl, rfl⟩ := q
  exact ⟨rfl, q1, q2, q3⟩
end SW
end
section
/-! the contest: laying out, ends -/
def co (m : Nat) : aC := .inr (.inr (1, [.ref 6, .ref 11, .ref 3, .ref 77, .int (nI m)]))
def eo1 : Option Nat → Int32
  | some n => nI n
  | none => -(nI 1)
def cat (h : aH) (em : List (Option Nat)) (m : Nat) : Prop := h[76]? = some (co m) ∧ h[77]? = some (.inl (0, em.map eo1))
/-- how many are right at the end: w mended, cc cut -/
def env (K : List Nat) (t j : Nat) (l : List Nat) (w cc : Nat) : Nat := rgt K cc (clr t w) (clr j (mdj w)) 1 1 l z55
def mem (K : List Nat) (t j : Nat) (l : List Nat) (em : List (Option Nat)) : Prop := em.length = 1024 ∧ ∀ w cc, w < 32 → cc < 32 → em.getD (w * 32 + cc) none = none ∨ em.getD (w * 32 + cc) none = some (env K t j l w cc)
/-- only the trial line and the ends have changed -/
def fe (h h' : aH) : Prop := h'.length = h.length ∧ ∀ q, q < 11 ∨ 15 < q → ¬ q = 77 → h'[q]? = h[q]?
section CO
variable {h : aH} {K K' S G sg ln : List Nat} {em : List (Option Nat)} {c t j c' t' j' m mn d : Nat} {Q : Option Value → aH → Prop}
theorem fe_tr {h1 h2 : aH} (x : fe h h1) (y : fe h1 h2) : fe h h2 := ⟨y.1.trans x.1, fun q a b => (y.2 q a b).trans (x.2 q a b)⟩
theorem fe_fr {h1 : aH} (x : fr 11 15 h h1) : fe h h1 := ⟨x.1, fun q a _ => x.2 q a⟩
theorem cat_fr {h1 : aH} (hm : cat h em m) (x : fr 11 15 h h1) : cat h1 em m := ⟨by rw [x.2 _ (by omega)]; exact hm.1, by rw [x.2 _ (by omega)]; exact hm.2⟩
theorem mat_fr {h1 : aH} {a b : Nat} (hm : mat h sg ln mn) (x : fr a b h h1) (ha : 5 < a) : mat h1 sg ln mn := ⟨by rw [x.2 _ (by omega)]; exact hm.1, by rw [x.2 _ (by omega)]; exact hm.2.1, by rw [x.2 _ (by omega)]; exact hm.2.2⟩
theorem clr32 {c w : Nat} (hc : c < 32) : clr c w < 32 := Nat.lt_of_le_of_lt clr_lt hc
theorem e_right (hx : lnw h 11 K c t j) (hm : mat h sg ln mn) (mo : mok sg ln mn) (hh : h.length ≤ 100000) {x r g : Nat} (hx6 : x < 6) (hr : r < 1000) (hg : g < 1000) : Ec (d + 3) m_X4_rightOn [.ref 3, .ref 11, .int (nI x), .int (nI r), .int (nI g)] h (fun v h' => v = some (.int (nI (rgt K c t j r g (msg sg ln x) z55))) ∧ lnw h' 11 K c t j ∧ fr 11 15 h h') := by
  obtain ⟨S, G, ⟨C, hC, a⟩, ok⟩ := hx
  have hl := lat_lt a
  have h8 : ln.getD x 0 ≤ 8 := by
    have := mo.2.2.1
    rw [List.getD, List.getElem?_eq_getElem (by omega)]; exact mo.2.2.2.1 _ (List.getElem_mem _)
  have H := e_rightOn (d := d) (h := h) (i := 11) (C := C) ⟨hl, hh⟩ (by decide) hm mo.1 mo.2.2.1 mo.2.1 hx6 h8 hr hg ok hC
  rw [lat_self a] at H
  refine ec_mono H (fun r h' q => ?_)
  obtain ⟨rfl, S2, G2, C2, rfl, ok2, hC2⟩ := q
  exact ⟨rfl, ⟨S2, G2, ⟨C2, hC2, lat_of hl⟩, ok2⟩, lh_len, fun q hq => lh_o (by omega)⟩
theorem e_layOut (hc : cat h em m) (hx : ltx h 6 (K, S, G, c, t, j)) (ok : lok K S G c t j) (hs : lnw h 11 K' c' t' j') (hh : h.length ≤ 100000) {w cc : Nat} (hw : w < 32) (hcc : cc < 32) : Ec (d + 1) m_X1_layOut [.ref 76, .int (nI w), .int (nI cc)] h (fun r h' => r = none ∧ lnw h' 11 K cc (clr t w) (clr j (mdj w)) ∧ fr 11 15 h h') := by
  obtain ⟨S', G', hs1, ok'⟩ := hs
  refine ec_in [some (.ref 76), some (.int (nI w)), some (.int (nI cc))] rfl rfl ?_
  refine ev_nx rfl ?_
  refine ev_gf rfl rfl hc.1 rfl ?_
  refine ev_nx rfl ?_
  refine ev_gf rfl rfl hc.1 rfl ?_
  obtain ⟨c1, t1, j1, ho⟩ := ltx_o hs1
  refine ev_v rfl rfl rfl rfl rfl rfl ho rfl (e_copy hs1 hx ⟨ok'.1.1, ok'.2.1.1, ok'.2.2.1.1⟩ ⟨ok.1.1, ok.2.1.1, ok.2.2.1.1⟩ (by decide) hh) (fun rv h2 q => ?_)
  obtain ⟨rfl, q1, q2⟩ := q
  have hc2 := cat_fr hc q2
  obtain ⟨C, hC, a⟩ := q1
  have hl := lat_lt a
  have hI : lI h2 11 := ⟨hl, by rw [q2.1]; exact hh⟩
  have hself := lat_self a
  have H := e_mendAll (d := d) (S := S) (G := G) (C := C) (K := K) hI ok.2.2.2.1 ok.2.2.2.2.1 (show j < 32 by have := ok.2.2.2.2.2; omega) hw
  simp only at hself
  rw [hself] at H
  refine ev_nx rfl ?_
  refine ev_gf rfl rfl hc2.1 rfl ?_
  refine ev_nx rfl ?_
  refine ev_vv rfl rfl rfl rfl rfl rfl a.1 rfl H ?_
  refine ev_nx rfl ?_
  refine ev_gf rfl rfl (show (lh h2 11 K S G C (clr c w) (clr t w) (clr j (mdj w)))[76]? = some (co m) by rw [lh_o (by omega)]; exact hc2.1) rfl ?_
  refine ev_nx rfl ?_
  refine ev_lp (c' := cc) (t' := clr t w) (j' := clr j (mdj w)) hI rfl rfl (by decide) (by decide) rfl ?_
  refine ev_rt rfl ⟨rfl, ⟨S, G, ⟨C, hC, lat_of hl⟩, ok.1, ok.2.1, ok.2.2.1, hcc, clr32 ok.2.2.2.2.1, Nat.lt_of_le_of_lt clr_lt ok.2.2.2.2.2⟩, by rw [lh_len]; exact q2.1, fun q hq => by rw [lh_o (by omega)]; exact q2.2 q hq⟩
theorem e_mendableBehind (hc : cat h em m) (hx : ltx h 6 (K, S, G, c, t, j)) (ok : lok K S G c t j) (hs : lnw h 11 K' c' t' j') (hh : h.length ≤ 100000) {w cc : Nat} (hw : w < 32) (hcc : cc < 32) : Ec (d + 2) m_X1_mendableBehind [.ref 76, .int (nI w), .int (nI cc)] h (fun r h' => r = some (.int (nI (mdw cc (clr t w) (clr j (mdj w))))) ∧ lnw h' 11 K cc (clr t w) (clr j (mdj w)) ∧ fr 11 15 h h') := by
  refine ec_in [some (.ref 76), some (.int (nI w)), some (.int (nI cc))] rfl rfl ?_
  iterate 3 refine ev_nx rfl ?_
  refine ev_v rfl rfl rfl rfl rfl rfl hc.1 rfl (e_layOut hc hx ok hs hh hw hcc) (fun rv h2 q => ?_)
  obtain ⟨rfl, q1, q2⟩ := q
  have q1' := q1
  obtain ⟨S2, G2, ⟨C, hC, a⟩, ok2⟩ := q1
  have hl := lat_lt a
  have H := e_mendableWires (d := d + 1) (h := h2) (i := 11) (K := K) (S := S2) (G := G2) (C := C) (c := cc) (t := clr t w) ⟨hl, by rw [q2.1]; exact hh⟩ (show clr j (mdj w) < 32 by have := ok2.2.2.2.2.2; omega)
  have hself := lat_self a
  simp only at hself
  rw [hself] at H
  refine ev_nx rfl ?_
  refine ev_gf rfl rfl (cat_fr hc q2).1 rfl ?_
  refine ev_vi rfl rfl rfl rfl rfl rfl a.1 rfl H ?_
  exact ev_ri rfl rfl rfl ⟨rfl, q1', q2⟩
theorem q_ix : ∀ w cc : Fin 32, w.val * 2 ^ 5 ||| cc.val = w.val * 32 + cc.val := by decide +kernel
theorem rgt_le {r g : Nat} : ∀ l x, rgt K c t j r g l x ≤ l.length := by
  intro l
  induction l with
  | nil => intro x; exact Nat.le_refl _
  | cons s l ih =>
    intro x
    rw [rgt, List.length_cons]
    have := ih (sy K c t j r g s x)
    split <;> omega
theorem mgo {q : Nat} (hq : q < em.length) : (em.map eo1)[q]? = some (eo1 (em.getD q none)) := by
  rw [List.getElem?_map, List.getD, List.getElem?_eq_getElem hq]; rfl
end CO
end
section
/-! the contest: ends, outcome -/
section CE
variable {h : aH} {K K' S G sg ln : List Nat} {em : List (Option Nat)} {c t j c' t' j' m mn d : Nat} {Q : Option Value → aH → Prop}
/-- the trial line is a line, the ends are right -/
def cin (K : List Nat) (t j : Nat) (l : List Nat) (m : Nat) (h : aH) : Prop := (∃ em, cat h em m ∧ mem K t j l em) ∧ ∃ K' c' t' j', lnw h 11 K' c' t' j'
theorem e_endOf (hci : cin K t j (msg sg ln m) m h) (hx : ltx h 6 (K, S, G, c, t, j)) (ok : lok K S G c t j) (hM : mat h sg ln mn) (mo : mok sg ln mn) (hm6 : m < 6) (hh : h.length ≤ 100000) {w cc : Nat} (hw : w < 32) (hcc : cc < 32) : Ec (d + 4) m_X1_endOf [.ref 76, .int (nI w), .int (nI cc)] h (fun r h' => r = some (.int (nI (env K t j (msg sg ln m) w cc))) ∧ cin K t j (msg sg ln m) m h' ∧ fe h h') := by
  obtain ⟨⟨em, hc, me⟩, K', c', t', j', hs⟩ := hci
  have hlen := me.1
  have hq := q_ix ⟨w, hw⟩ ⟨cc, hcc⟩
  simp only at hq
  refine ec_in [some (.ref 76), some (.int (nI w)), some (.int (nI cc)), none] rfl rfl ?_
  iterate 3 refine ev_nx rfl ?_
  rw [n_shl (by decide) (by omega)]
  iterate 2 refine ev_nx rfl ?_
  rw [n_or, hq]
  iterate 3 refine ev_nx rfl ?_
  refine ev_lt0 ?_
  iterate 2 refine ev_nx rfl ?_
  refine ev_gf rfl rfl hc.1 rfl ?_
  refine ev_al rfl (am_arr_h (by decide) hc.2) (by decide) ?_
  rw [List.length_map]
  refine ev_nx rfl ?_
  refine ev_lt (fun _ => ?_) (fun h => absurd h (by omega))
  refine ev_nx rfl ?_
  refine ev_gf rfl rfl hc.1 rfl ?_
  refine ev_nx rfl ?_
  refine ev_ia rfl (am_arr_h (by decide) hc.2) (mgo (by omega)) ?_
  rcases me.2 w cc hw hcc with e | e
  · rw [e]
    iterate 2 refine ev_nx rfl ?_
    refine ev_f (by decide) ?_
    iterate 3 refine ev_nx rfl ?_
    refine ev_v rfl rfl rfl rfl rfl rfl hc.1 rfl (e_layOut hc hx ok hs hh hw hcc) (fun rv h2 q => ?_)
    obtain ⟨rfl, q1, q2⟩ := q
    have hc2 := cat_fr hc q2
    have hM2 := mat_fr hM q2 (by decide)
    refine ev_nx rfl ?_
    refine ev_gf rfl rfl hc2.1 rfl ?_
    iterate 2 refine ev_nx rfl ?_
    refine ev_gf rfl rfl hc2.1 rfl ?_
    refine ev_nx rfl ?_
    refine ev_gf rfl rfl hc2.1 rfl ?_
    refine ev_nx rfl ?_
    refine ev_gf rfl rfl hc2.1 rfl ?_
    iterate 2 refine ev_nx rfl ?_
    refine ev_v rfl rfl rfl rfl rfl rfl hM2.1 rfl (e_right q1 hM2 mo (by rw [q2.1]; exact hh) hm6 (by decide) (by decide)) (fun rv h3 q => ?_)
    obtain ⟨rfl, q3, q4⟩ := q
    have hc3 := cat_fr hc2 q4
    refine ev_is rfl hc3.2 (by rw [List.length_map]; omega) ?_
    rw [show nI (rgt K cc (clr t w) (clr j (mdj w)) 1 1 (msg sg ln m) z55) = eo1 (some (env K t j (msg sg ln m) w cc)) from rfl, ← List.map_set]
    have hc4 : cat (h3.set 77 (.inl (0, (em.set (w * 32 + cc) (some (env K t j (msg sg ln m) w cc))).map eo1))) (em.set (w * 32 + cc) (some (env K t j (msg sg ln m) w cc))) m := ⟨by rw [gset_n (by decide)]; exact hc3.1, gset_s hc3.2⟩
    refine ev_nx rfl ?_
    refine ev_gf rfl rfl hc4.1 rfl ?_
    refine ev_nx rfl ?_
    refine ev_ia rfl (am_arr_h (by decide) hc4.2) (mgo (by rw [List.length_set]; omega)) ?_
    have g1 : (em.set (w * 32 + cc) (some (env K t j (msg sg ln m) w cc))).getD (w * 32 + cc) none = some (env K t j (msg sg ln m) w cc) := by
      rw [List.getD, List.getElem?_set_self (by omega)]; rfl
    rw [g1]
    refine ev_ri rfl rfl rfl ⟨rfl, ⟨⟨_, hc4, by rw [List.length_set]; exact hlen, fun w1 c1 h1 h2 => ?_⟩, _, _, _, _, lnw_fr (a := 77) (b := 77) q3 ⟨by rw [List.length_set], fun p hp => gset_n (by omega)⟩ (by decide)⟩, by rw [List.length_set, q4.1, q2.1], fun q h1 h2 => by rw [gset_n (by omega), q4.2 q h1, q2.2 q h1]⟩
    by_cases e : w * 32 + cc = w1 * 32 + c1
    · have e1 : w = w1 := by omega
      have e2 : cc = c1 := by omega
      subst e1
      subst e2
      exact .inr g1
    · have : (em.set (w * 32 + cc) (some (env K t j (msg sg ln m) w cc))).getD (w1 * 32 + c1) none = em.getD (w1 * 32 + c1) none := by
        rw [List.getD, List.getElem?_set_ne e]; rfl
      rw [this]
      exact me.2 w1 c1 h1 h2
  · rw [e]
    have hle := rgt_le (K := K) (c := cc) (t := clr t w) (j := clr j (mdj w)) (r := 1) (g := 1) (msg sg ln m) z55
    have hml : (msg sg ln m).length ≤ 48 := by
      unfold msg; rw [List.length_take, List.length_drop, mo.1]; omega
    have hne : ¬ nI (env K t j (msg sg ln m) w cc) = -(nI 1) := by
      intro q
      have := congrArg Int32.toInt q
      rw [nI_toInt (by show rgt _ _ _ _ _ _ _ _ < _; omega)] at this
      have h2 : (-(nI 1)).toInt = -1 := by decide
      omega
    iterate 2 refine ev_nx rfl ?_
    refine ev_t (by show (!(nI (env K t j (msg sg ln m) w cc) == -(nI 1))) = true; rw [beq_eq_false_iff_ne.mpr hne]; rfl) ?_
    refine ev_nx rfl ?_
    refine ev_gf rfl rfl hc.1 rfl ?_
    refine ev_nx rfl ?_
    refine ev_ia rfl (am_arr_h (by decide) hc.2) (mgo (by omega)) ?_
    rw [e]
    exact ev_ri rfl rfl rfl ⟨rfl, ⟨⟨em, hc, me⟩, K', c', t', j', hs⟩, rfl, fun _ _ _ => rfl⟩
theorem e_beginFor (hc : cat h em c) (hl : em.length = 1024) : Ec (d + 1) m_X1_beginFor [.ref 76, .int (nI m)] h (fun r h' => r = none ∧ cat h' (List.replicate 1024 none) m ∧ fr 76 77 h h') := by
  refine ec_in [some (.ref 76), some (.int (nI m))] rfl rfl ?_
  refine ev_nx rfl ?_
  refine ev_gf rfl rfl hc.1 rfl ?_
  refine ev_nx rfl ?_
  refine ev_cv rfl rfl (e_fill (v := -(nI 1)) (by decide) hc.2 (by rw [List.length_map]; omega)) ?_
  rw [List.length_map, hl]
  have m1 : ∀ y, (h.set 77 y)[76]? = some (co c) := fun y => by rw [gset_n (by decide)]; exact hc.1
  iterate 2 refine ev_nx rfl ?_
  refine ev_pf rfl rfl (m1 _) (by show 4 < 5; decide) rfl rfl rfl ?_
  refine ev_rt rfl ⟨rfl, ⟨?_, ?_⟩, by rw [List.length_set, List.length_set], fun q hq => ?_⟩
  · rw [gset_s (m1 _)]; rfl
  · rw [gset_n (by decide), gset_s hc.2, List.map_replicate]; rfl
  · rw [gset_n (by omega), gset_n (by omega)]
theorem mem_new {l : List Nat} : mem K t j l (List.replicate 1024 none) := ⟨List.length_replicate, fun w cc h1 h2 => .inl (by
  rw [List.getD, List.getElem?_replicate]; split <;> rfl)⟩
end CE
end
section
/-! the contest: outcome -/
def fo (a : Nat) (g : Nat → Nat → Nat) : Nat → Nat → Nat → Nat
  | 0, _, v => v
  | r + 1, p, v => fo a g r (p + 1) (if a &&& 1 * 2 ^ p = 0 then v else g p v)
/-- the wires that may be cut, or mended -/
def och (t j : Nat) (b : Bool) (w cc : Nat) : Nat := if b then 31 ^^^ cc else mdw cc (clr t w) (clr j (mdj w))
/-- how many are right when both do their best, n deeds to come; b: the next one cuts -/
def outc (K : List Nat) (t j : Nat) (l : List Nat) : Nat → Bool → Nat → Nat → Nat
  | 0, _, w, cc => env K t j l w cc
  | n + 1, b, w, cc => fo (och t j b w cc) (fun p v => if b then min v (outc K t j l n false w (cc ||| 1 * 2 ^ p)) else max v (outc K t j l n true (w ||| 1 * 2 ^ p) (clr cc (1 * 2 ^ p)))) 5 0 (outc K t j l n (!b) w cc)
section CU
variable {h : aH} {K S G sg ln l : List Nat} {c t j m mn d : Nat} {Q : Option Value → aH → Prop}
theorem fo_le {a B : Nat} {g : Nat → Nat → Nat} (hg : ∀ p v, v ≤ B → g p v ≤ B) : ∀ r p v, v ≤ B → fo a g r p v ≤ B := by
  intro r
  induction r with
  | zero => intro p v hv; exact hv
  | succ r ih =>
    intro p v hv
    rw [fo]
    refine ih _ _ ?_
    split
    · exact hv
    · exact hg p v hv
theorem outc_le : ∀ n b w cc, outc K t j l n b w cc ≤ l.length := by
  intro n
  induction n with
  | zero => intro b w cc; exact rgt_le _ _
  | succ n ih =>
    intro b w cc
    rw [outc]
    refine fo_le (fun p v hv => ?_) _ _ _ (ih _ _ _)
    have h1 := ih false w (cc ||| 1 * 2 ^ p)
    have h2 := ih true (w ||| 1 * 2 ^ p) (clr cc (1 * 2 ^ p))
    split <;> omega
theorem nt_and : ∀ cc : Fin 32, ∀ p : Fin 5, (nI cc.val ^^^ -(nI 1)) &&& nI (1 * 2 ^ p.val) = nI ((31 ^^^ cc.val) &&& 1 * 2 ^ p.val) := by decide +kernel
theorem or32 {a b : Nat} (ha : a < 32) (hb : b < 32) : a ||| b < 32 := Nat.or_lt_two_pow (n := 5) ha hb
theorem p2_32 {p : Nat} (hp : p < 5) : 1 * 2 ^ p < 32 := by
  have := Nat.pow_lt_pow_right (a := 2) (by decide) hp; omega
def b01 (b : Bool) : Nat := if b then 1 else 0
theorem cin_x {h1 : aH} {x : aN} (hx : ltx h 6 x) (hf : fe h h1) : ltx h1 6 x := ltx_fr hx (fun q h1 h2 => hf.2 q (by omega) (by omega))
theorem mat_fe {h1 : aH} (hm : mat h sg ln mn) (x : fe h h1) : mat h1 sg ln mn := ⟨by rw [x.2 _ (by omega) (by omega)]; exact hm.1, by rw [x.2 _ (by omega) (by omega)]; exact hm.2.1, by rw [x.2 _ (by omega) (by omega)]; exact hm.2.2⟩
theorem e_outcome (ok : lok K S G c t j) (mo : mok sg ln mn) (hm6 : m < 6) : ∀ n b w cc h, n < 1000 → w < 32 → cc < 32 → cin K t j (msg sg ln m) m h → ltx h 6 (K, S, G, c, t, j) → mat h sg ln mn → h.length ≤ 100000 → Ec (d + 5 + n) m_X1_outcome [.ref 76, .int (nI n), .int (nI (b01 b)), .int (nI w), .int (nI cc)] h (fun r h' => r = some (.int (nI (outc K t j (msg sg ln m) n b w cc))) ∧ cin K t j (msg sg ln m) m h' ∧ fe h h') := by
  have hml : (msg sg ln m).length ≤ 48 := by
    unfold msg; rw [List.length_take, List.length_drop, mo.1]; omega
  have hj := ok.2.2.2.2.2
  have ht := ok.2.2.2.2.1
  intro n
  induction n with
  | zero =>
    intro b w cc h hn hw hcc hci hx hM hh
    refine ec_in [some (.ref 76), some (.int (nI 0)), some (.int (nI (b01 b))), some (.int (nI w)), some (.int (nI cc)), none, none, none, none] rfl rfl ?_
    iterate 2 refine ev_nx rfl ?_
    refine ev_f (by decide) ?_
    iterate 3 refine ev_nx rfl ?_
    have hci' := hci
    obtain ⟨⟨em, hc, me⟩, _⟩ := hci
    refine ev_v rfl rfl rfl rfl rfl rfl hc.1 rfl (e_endOf hci' hx ok hM mo hm6 hh hw hcc) (fun rv h2 q => ?_)
    obtain ⟨rfl, q1, q2⟩ := q
    exact ev_ri rfl rfl rfl ⟨rfl, q1, q2⟩
  | succ n ih =>
    intro b w cc h hn hw hcc hci hx hM hh
    have LP : ∀ (X : Int32), (∀ p, p < 5 → X &&& nI (1 * 2 ^ p) = nI (och t j b w cc &&& 1 * 2 ^ p)) → ∀ r p v h1 l8, p + r = 5 → v ≤ 48 → cin K t j (msg sg ln m) m h1 → fe h h1 → Ev (d + 5 + n + 1) m_X1_outcome 56 [some (.ref 76), some (.int (nI (n + 1))), some (.int (nI (b01 b))), some (.int (nI w)), some (.int (nI cc)), some (.int (nI v)), some (.int X), some (.int (nI p)), l8] [] h1 (fun r' h' => r' = some (.int (nI (fo (och t j b w cc) (fun p v => if b then min v (outc K t j (msg sg ln m) n false w (cc ||| 1 * 2 ^ p)) else max v (outc K t j (msg sg ln m) n true (w ||| 1 * 2 ^ p) (clr cc (1 * 2 ^ p)))) r p v))) ∧ cin K t j (msg sg ln m) m h' ∧ fe h h') := by
      intro X hX r
      induction r with
      | zero =>
        intro p v h1 l8 hp hv hc1 hf
        iterate 3 refine ev_nx rfl ?_
        refine ev_ge (fun _ => ?_) (fun h => absurd h (by omega))
        refine ev_nx rfl ?_
        exact ev_ri rfl rfl rfl ⟨rfl, hc1, hf⟩
      | succ r ihr =>
        intro p v h1 l8 hp hv hc1 hf
        have hp5 : p < 5 := by omega
        have h32 := p2_32 hp5
        have hl1 : h1.length ≤ 100000 := by rw [hf.1]; exact hh
        have hc1' := hc1
        obtain ⟨⟨em, hc, me⟩, _⟩ := hc1
        rw [fo]
        iterate 3 refine ev_nx rfl ?_
        refine ev_ge (fun h => absurd h (by omega)) (fun _ => ?_)
        iterate 3 refine ev_nx rfl ?_
        rw [n_shl (by omega) (p2_lt hp5)]
        iterate 4 refine ev_nx rfl ?_
        rw [hX p hp5]
        have ha : och t j b w cc &&& 1 * 2 ^ p ≤ 1 * 2 ^ p := Nat.and_le_right
        refine ev_nx rfl ?_
        refine ev_ne0 (fun h0 => ?_) (fun h0 => ?_)
        · rw [if_neg h0]
          cases b with
          | true =>
            iterate 2 refine ev_nx rfl ?_
            refine ev_f (by decide) ?_
            iterate 5 refine ev_nx rfl ?_
            rw [pk_sub (by omega), Nat.add_sub_cancel]
            iterate 5 refine ev_nx rfl ?_
            rw [n_or]
            refine ev_v rfl rfl rfl rfl rfl rfl hc.1 rfl (ih false w (cc ||| 1 * 2 ^ p) h1 (by omega) hw (or32 hcc h32) hc1' (cin_x hx hf) (mat_fe hM hf) hl1) (fun rv h2 q => ?_)
            obtain ⟨rfl, q1, q2⟩ := q
            have ho := outc_le (K := K) (t := t) (j := j) (l := msg sg ln m) n false w (cc ||| 1 * 2 ^ p)
            refine ev_nx rfl ?_
            rw [n_min (by omega) (by omega)]
            iterate 4 refine ev_nx rfl ?_
            rw [nI_add]
            exact ihr (p + 1) _ h2 _ (by omega) (by first | omega | (simp only [if_true]; omega)) q1 (fe_tr hf q2)
          | false =>
            have hcl := clr_n ⟨cc, hcc⟩ ⟨1 * 2 ^ p, h32⟩
            simp only at hcl
            iterate 2 refine ev_nx rfl ?_
            refine ev_t (by decide) ?_
            iterate 5 refine ev_nx rfl ?_
            rw [pk_sub (by omega), Nat.add_sub_cancel]
            iterate 4 refine ev_nx rfl ?_
            rw [n_or]
            iterate 5 refine ev_nx rfl ?_
            rw [hcl]
            refine ev_v rfl rfl rfl rfl rfl rfl hc.1 rfl (ih true (w ||| 1 * 2 ^ p) (clr cc (1 * 2 ^ p)) h1 (by omega) (or32 hw h32) (clr32 hcc) hc1' (cin_x hx hf) (mat_fe hM hf) hl1) (fun rv h2 q => ?_)
            obtain ⟨rfl, q1, q2⟩ := q
            have ho := outc_le (K := K) (t := t) (j := j) (l := msg sg ln m) n true (w ||| 1 * 2 ^ p) (clr cc (1 * 2 ^ p))
            refine ev_nx rfl ?_
            rw [n_max (by omega) (by omega)]
            iterate 3 refine ev_nx rfl ?_
            rw [nI_add]
            exact ihr (p + 1) _ h2 _ (by omega) (by first | omega | (simp only [Bool.false_eq_true, if_false]; omega)) q1 (fe_tr hf q2)
        · rw [if_pos h0]
          iterate 3 refine ev_nx rfl ?_
          rw [nI_add]
          exact ihr (p + 1) v h1 _ (by omega) hv hc1' hf
    have hci' := hci
    obtain ⟨⟨em, hc, me⟩, K', c', t', j', hs⟩ := hci
    refine ec_in [some (.ref 76), some (.int (nI (n + 1))), some (.int (nI (b01 b))), some (.int (nI w)), some (.int (nI cc)), none, none, none, none] rfl rfl ?_
    rw [outc]
    iterate 2 refine ev_nx rfl ?_
    refine ev_gt0 (fun _ => ?_) (fun h => absurd h (by omega))
    iterate 4 refine ev_nx rfl ?_
    rw [pk_sub (by omega), Nat.add_sub_cancel]
    have ho := outc_le (K := K) (t := t) (j := j) (l := msg sg ln m) n (!b) w cc
    cases b with
    | true =>
      iterate 2 refine ev_nx rfl ?_
      refine ev_t (by decide) ?_
      iterate 3 refine ev_nx rfl ?_
      refine ev_v rfl rfl rfl rfl rfl rfl hc.1 rfl (ih false w cc h (by omega) hw hcc hci' hx hM hh) (fun rv h2 q => ?_)
      obtain ⟨rfl, q1, q2⟩ := q
      iterate 3 refine ev_nx rfl ?_
      refine ev_f (by decide) ?_
      iterate 7 refine ev_nx rfl ?_
      exact LP _ (fun p hp => nt_and ⟨cc, hcc⟩ ⟨p, hp⟩) 5 0 _ h2 none rfl (by simp only [Bool.not_true] at ho; omega) q1 q2
    | false =>
      iterate 2 refine ev_nx rfl ?_
      refine ev_f (by decide) ?_
      iterate 4 refine ev_nx rfl ?_
      refine ev_v rfl rfl rfl rfl rfl rfl hc.1 rfl (ih true w cc h (by omega) hw hcc hci' hx hM hh) (fun rv h2 q => ?_)
      obtain ⟨rfl, q1, q2⟩ := q
      have q1' := q1
      obtain ⟨⟨em2, hc2, me2⟩, K2, c2, t2, j2, hs2⟩ := q1
      iterate 3 refine ev_nx rfl ?_
      refine ev_t (by decide) ?_
      iterate 3 refine ev_nx rfl ?_
      refine ev_v rfl rfl rfl rfl rfl rfl hc2.1 rfl (ec_le (d := d + 2) (d' := d + 5 + n) (by omega) (e_mendableBehind hc2 (cin_x hx q2) ok hs2 (by rw [q2.1]; exact hh) hw hcc)) (fun rv h3 q => ?_)
      obtain ⟨rfl, q3, q4⟩ := q
      iterate 3 refine ev_nx rfl ?_
      exact LP _ (fun p hp => n_and _ _) 5 0 _ h3 none rfl (by simp only [Bool.not_false] at ho; omega) ⟨⟨em2, cat_fr hc2 q4, me2⟩, _, _, _, _, q3⟩ (fe_tr q2 (fe_fr q4))
end CU
end
section
/-! the arrangement: standsBehind -/
/-- how a needle stands behind some beats of one carrying -/
def sbh (k g a : Nat) : Nat → Nat → Nat → Nat
  | 0, _, s => s
  | r + 1, o, s => sbh k g a r g (stn k g a o s)
section AR
variable {h : aH} {i : Nat} {K S G C : List Nat} {c t j d : Nat} {Q : Option Value → aH → Prop}
theorem lp_sb (hi : lI h i) (hC : C.length = 5) (hC3 : ∀ s ∈ C, s < 3) {k p n : Nat} (hk : k < 6) (hp : p < 5) (hn : n < 1000) : ∀ r a o s, a + r = n → o < 3 → s < 3 → Ev (d + 2) m_X0_standsBehind 9 [some (.ref i), some (.int (nI k)), some (.int (nI p)), some (.int (nI n)), some (.int (nI s)), some (.int (nI o)), some (.int (nI a))] [] (lh h i K S G C c t j) (rt (.int (nI (sbh k (C.getD p 0) (ahd C p) r o s))) (lh h i K S G C c t j)) := by
  have hg : C.getD p 0 < 3 := gd3 hC3 (by omega)
  have ha3 : ahd C p < 3 := by
    unfold ahd
    split
    · decide
    · exact gd3 hC3 (by omega)
  intro r
  induction r with
  | zero =>
    intro a o s ha ho hs
    iterate 3 refine ev_nx rfl ?_
    refine ev_ge (fun _ => ?_) (fun h => absurd h (by omega))
    refine ev_nx rfl ?_
    exact ev_ri rfl rfl rfl ⟨rfl, rfl⟩
  | succ r ih =>
    intro a o s ha ho hs
    rw [sbh]
    iterate 3 refine ev_nx rfl ?_
    refine ev_ge (fun h => absurd h (by omega)) (fun _ => ?_)
    iterate 2 refine ev_nx rfl ?_
    refine ev_lf hi rfl rfl rfl rfl ?_
    refine ev_nx rfl ?_
    refine ev_ia rfl (am_arr_h (by have := hi.1; have := hi.2; omega) (lh_4 hi.1)) (mg (by omega)) ?_
    iterate 2 refine ev_nx rfl ?_
    refine ev_vi rfl rfl rfl rfl rfl rfl (lh_0 hi.1) rfl (ec_le (Nat.zero_le (d + 1)) (e_aheadOf hi hC hp)) ?_ (by have := hi.1; have := hi.2; omega)
    iterate 2 refine ev_nx rfl ?_
    refine ev_ci rfl rfl (ec_le (show 1 ≤ d + 1 by omega) (e_standing k (C.getD p 0) (ahd C p) o s hk hg ha3 ho hs _)) ?_
    iterate 2 refine ev_nx rfl ?_
    refine ev_lf hi rfl rfl rfl rfl ?_
    refine ev_nx rfl ?_
    refine ev_ia rfl (am_arr_h (by have := hi.1; have := hi.2; omega) (lh_4 hi.1)) (mg (by omega)) ?_
    iterate 3 refine ev_nx rfl ?_
    rw [nI_add]
    exact ih (a + 1) (C.getD p 0) (stn k (C.getD p 0) (ahd C p) o s) (by omega) hg (stn_lt hg ha3 ho hs)
theorem e_standsBehind (hi : lI h i) (hC : C.length = 5) (hC3 : ∀ s ∈ C, s < 3) {k p n : Nat} (hk : k < 6) (hp : p < 5) (hn : n < 1000) : Ec (d + 2) m_X0_standsBehind [.ref i, .int (nI k), .int (nI p), .int (nI n)] (lh h i K S G C c t j) (rt (.int (nI (sbh k (C.getD p 0) (ahd C p) n 0 0))) (lh h i K S G C c t j)) := by
  refine ec_in [some (.ref i), some (.int (nI k)), some (.int (nI p)), some (.int (nI n)), none, none, none] rfl rfl ?_
  iterate 6 refine ev_nx rfl ?_
  exact lp_sb hi hC hC3 hk hp hn n 0 0 0 (by omega) (by decide) (by decide)
theorem lh_set {q : Nat} {x : aC} (hi : i + 4 < h.length) (hq : q < i ∨ i + 4 < q) : (lh h i K S G C c t j).set q x = lh (h.set q x) i K S G C c t j :=
  lh_ext (by rw [List.length_set]; exact hi) (by rw [List.length_set, List.length_set, lh_len]) (by rw [gset_n (by omega)]; exact lh_0 hi) (by rw [gset_n (by omega)]; exact lh_1 hi) (by rw [gset_n (by omega)]; exact lh_2 hi) (by rw [gset_n (by omega)]; exact lh_3 hi) (by rw [gset_n (by omega)]; exact lh_4 hi) (fun k hk => by rw [List.getElem?_set, List.getElem?_set, lh_len, lh_o hk])
end AR
end
section
/-! the arrangement: noteShown, keepIfBetter -/
def ao (mo : Int32) : aC := .inr (.inr (0, [.ref 79, .ref 80, .ref 81, .int mo]))
/-- the places of a needle where it shows its part of a sign, from a place on -/
def shp (K C : List Nat) (s n a : Nat) : Nat → Nat → List Nat → List Nat
  | 0, _, sh => sh
  | r + 1, p, sh => shp K C s n a r (p + 1) (if sbh (K.getD a 0) (C.getD p 0) (ahd C p) n 0 0 = pt s p then sh.set (a * 5 + p) (sh.getD (a * 5 + p) 0 ||| 1 * 2 ^ s) else sh)
def sha (K C : List Nat) (s n : Nat) : Nat → Nat → List Nat → List Nat
  | 0, _, sh => sh
  | r + 1, a, sh => sha K C s n r (a + 1) (shp K C s n a 5 0 sh)
theorem shp_len {K C : List Nat} {s n a : Nat} : ∀ r p sh, (shp K C s n a r p sh).length = sh.length := by
  intro r
  induction r with
  | zero => intro p sh; rfl
  | succ r ih =>
    intro p sh
    rw [shp, ih]
    split
    · rw [List.length_set]
    · rfl
theorem sbh_lt {k g a : Nat} (hg : g < 3) (ha : a < 3) : ∀ r o s, o < 3 → s < 3 → sbh k g a r o s < 3 := by
  intro r
  induction r with
  | zero => intro o s _ hs; exact hs
  | succ r ih => intro o s ho hs; exact ih g _ hg (stn_lt hg ha ho hs)
section AS
variable {h : aH} {i : Nat} {K S G C : List Nat} {c t j d : Nat} {mo : Int32} {Q : Option Value → aH → Prop}
theorem lp_nsp (hi : lI h i) (hi2 : i + 4 < 78) (ha : h[78]? = some (ao mo)) (h79 : 79 < h.length) (hK : K.length = 5 ∧ ∀ s ∈ K, s < 6) (hC : C.length = 5) (hC3 : ∀ s ∈ C, s < 3) {s n a : Nat} (hs : s < 20) (hn : n < 1000) (ha5 : a < 5) {T : List Nat} (KK : ∀ l6, Ev (d + 3) m_X0_noteShown 73 [some (.ref 78), some (.ref i), some (.int (nI s)), some (.int (nI n)), some (.int (nI a)), some (.int (nI 5)), l6] [] (lh (h.set 79 (ar T)) i K S G C c t j) Q) : ∀ r p sh l6, p + r = 5 → sh.length = 25 → T = shp K C s n a r p sh → Ev (d + 3) m_X0_noteShown 12 [some (.ref 78), some (.ref i), some (.int (nI s)), some (.int (nI n)), some (.int (nI a)), some (.int (nI p)), l6] [] (lh (h.set 79 (ar sh)) i K S G C c t j) Q := by
  have hk : K.getD a 0 < 6 := gd3 hK.2 (by omega)
  intro r
  induction r with
  | zero =>
    intro p sh l6 hp hl hT
    have e : p = 5 := by omega
    subst e
    iterate 3 refine ev_nx rfl ?_
    refine ev_ge (fun _ => ?_) (fun h => absurd h (by omega))
    have := KK l6
    rw [hT] at this
    exact this
  | succ r ih =>
    intro p sh l6 hp hl hT
    rw [shp] at hT
    have hI : lI (h.set 79 (ar sh)) i := ⟨by rw [List.length_set]; exact hi.1, by rw [List.length_set]; exact hi.2⟩
    have hg : C.getD p 0 < 3 := gd3 hC3 (by omega)
    have ha3 : ahd C p < 3 := by
      unfold ahd
      split
      · decide
      · exact gd3 hC3 (by omega)
    have hv := sbh_lt (k := K.getD a 0) hg ha3 n 0 0 (by decide) (by decide)
    obtain ⟨t1, t2⟩ := t0_at (x := s * 5 + p) (by omega)
    have f78 : (lh (h.set 79 (ar sh)) i K S G C c t j)[78]? = some (ao mo) := by rw [lh_o (by omega), gset_n (by decide)]; exact ha
    have f79 : (lh (h.set 79 (ar sh)) i K S G C c t j)[79]? = some (ar sh) := by rw [lh_o (by omega)]; exact List.getElem?_set_self h79
    iterate 3 refine ev_nx rfl ?_
    refine ev_ge (fun h => absurd h (by omega)) (fun _ => ?_)
    iterate 2 refine ev_nx rfl ?_
    refine ev_lf hI rfl rfl rfl rfl ?_
    refine ev_nx rfl ?_
    refine ev_lK hI rfl (by omega) ?_
    iterate 2 refine ev_nx rfl ?_
    refine ev_ci rfl rfl (e_standsBehind hI hC hC3 hk (by omega) hn) ?_
    iterate 8 refine ev_nx rfl ?_
    rw [pk_mul, nI_add]
    refine ev_ia (a := 100000) rfl rfl t1 ?_
    refine ev_nx rfl ?_
    refine ev_ne (fun hc => ?_) (fun hc => ?_)
    · rw [if_neg (show ¬ _ = pt s p from hc)] at hT
      iterate 2 refine ev_nx rfl ?_
      rw [nI_add]
      exact ih (p + 1) sh _ (by omega) hl hT
    · rw [if_pos (show _ = pt s p from hc)] at hT
      refine ev_nx rfl ?_
      refine ev_gf rfl rfl f78 rfl ?_
      iterate 6 refine ev_nx rfl ?_
      rw [pk_mul, nI_add]
      refine ev_ia rfl (am_arr_h (by decide) f79) (mg (by omega)) ?_
      iterate 3 refine ev_nx rfl ?_
      rw [n_shl (by omega) (by have := Nat.pow_lt_pow_right (a := 2) (by decide) hs; omega)]
      refine ev_nx rfl ?_
      rw [n_or]
      refine ev_is rfl f79 (by rw [List.length_map]; omega) ?_
      rw [ms_, lh_set hI.1 (by omega), set_set]
      iterate 2 refine ev_nx rfl ?_
      rw [nI_add]
      exact ih (p + 1) _ _ (by omega) (by rw [List.length_set]; exact hl) hT
theorem lp_nsa (hi : lI h i) (hi2 : i + 4 < 78) (ha : h[78]? = some (ao mo)) (h79 : 79 < h.length) (hK : K.length = 5 ∧ ∀ s ∈ K, s < 6) (hC : C.length = 5) (hC3 : ∀ s ∈ C, s < 3) {s n : Nat} (hs : s < 20) (hn : n < 1000) : ∀ r a sh l5 l6, a + r = 5 → sh.length = 25 → Ev (d + 3) m_X0_noteShown 3 [some (.ref 78), some (.ref i), some (.int (nI s)), some (.int (nI n)), some (.int (nI a)), l5, l6] [] (lh (h.set 79 (ar sh)) i K S G C c t j) (rtv (lh (h.set 79 (ar (sha K C s n r a sh))) i K S G C c t j)) := by
  intro r
  induction r with
  | zero =>
    intro a sh l5 l6 hp hl
    iterate 3 refine ev_nx rfl ?_
    refine ev_ge (fun _ => ?_) (fun h => absurd h (by omega))
    exact ev_rt rfl ⟨rfl, rfl⟩
  | succ r ih =>
    intro a sh l5 l6 hp hl
    rw [sha]
    iterate 3 refine ev_nx rfl ?_
    refine ev_ge (fun h => absurd h (by omega)) (fun _ => ?_)
    iterate 2 refine ev_nx rfl ?_
    refine lp_nsp hi hi2 ha h79 hK hC hC3 hs hn (a := a) (by omega) (T := shp K C s n a 5 0 sh) (fun l6 => ?_) 5 0 sh _ rfl hl rfl
    iterate 2 refine ev_nx rfl ?_
    rw [nI_add]
    exact ih (a + 1) _ _ _ (by omega) (by rw [shp_len]; exact hl)
theorem e_noteShown (hi : lI h i) (hi2 : i + 4 < 78) (ha : h[78]? = some (ao mo)) {sh : List Nat} (hsh : h[79]? = some (ar sh)) (hl : sh.length = 25) (hK : K.length = 5 ∧ ∀ s ∈ K, s < 6) (hC : C.length = 5) (hC3 : ∀ s ∈ C, s < 3) {s n : Nat} (hs : s < 20) (hn : n < 1000) : Ec (d + 3) m_X0_noteShown [.ref 78, .ref i, .int (nI s), .int (nI n)] (lh h i K S G C c t j) (rtv (lh (h.set 79 (ar (sha K C s n 5 0 sh))) i K S G C c t j)) := by
  refine ec_in [some (.ref 78), some (.ref i), some (.int (nI s)), some (.int (nI n)), none, none, none] rfl rfl ?_
  iterate 2 refine ev_nx rfl ?_
  have H := lp_nsa (d := d) (S := S) (G := G) (c := c) (t := t) (j := j) hi hi2 ha (List.getElem?_eq_some_iff.mp hsh).1 hK hC hC3 hs hn 5 0 sh none none rfl hl
  rw [set_id hsh] at H
  exact H
end AS
end
section
/-! the arrangement: keepIfBetter -/
def aat (h : aH) (sh ch be : List Nat) (mo : Option Nat) : Prop := h[78]? = some (ao (eo1 mo)) ∧ h[79]? = some (ar sh) ∧ h[80]? = some (ar ch) ∧ h[81]? = some (ar be)
def btr (b : Nat) : Option Nat → Bool
  | none => true
  | some x => decide (x < b)
section AK
variable {h : aH} {sh ch be : List Nat} {mo : Option Nat} {d : Nat} {Q : Option Value → aH → Prop}
theorem it_kb {b p : Nat} (h78 : h[78]? = some (ao (nI b))) (h80 : h[80]? = some (ar ch)) (h81 : 81 < h.length) (hc : ch.length = 5) (hb : be.length = 5) (hp : p < 5) (k : Ev d m_X0_keepIfBetter 15 [some (.ref 78), some (.int (nI b)), some (.int (nI (p + 1)))] [] (h.set 81 (ar (be.set p (ch.getD p 0)))) Q) : Ev d m_X0_keepIfBetter 15 [some (.ref 78), some (.int (nI b)), some (.int (nI p))] [] (h.set 81 (ar be)) Q := by
  have g78 : (h.set 81 (ar be))[78]? = some (ao (nI b)) := by rw [gset_n (by decide)]; exact h78
  have g80 : (h.set 81 (ar be))[80]? = some (ar ch) := by rw [gset_n (by decide)]; exact h80
  iterate 3 refine ev_nx rfl ?_
  refine ev_ge (fun h => absurd h (by omega)) (fun _ => ?_)
  refine ev_nx rfl ?_
  refine ev_gf rfl rfl g78 rfl ?_
  iterate 2 refine ev_nx rfl ?_
  refine ev_gf rfl rfl g78 rfl ?_
  refine ev_nx rfl ?_
  refine ev_ia rfl (am_arr_h (by decide) g80) (mg (by omega)) ?_
  refine ev_is rfl (List.getElem?_set_self h81) (by rw [List.length_map]; omega) ?_
  rw [set_set, ms_]
  iterate 2 refine ev_nx rfl ?_
  rw [nI_add]
  exact k
theorem e_keepIfBetter (hm : aat h sh ch be mo) (hc : ch.length = 5) (hb : be.length = 5) {b : Nat} (hb1 : b < 1000) (hmo : ∀ x, mo = some x → x < 1000) : Ec d m_X0_keepIfBetter [.ref 78, .int (nI b)] h (fun r h' => r = none ∧ aat h' sh ch (if btr b mo then ch else be) (if btr b mo then some b else mo) ∧ fr 78 81 h h') := by
  refine ec_in [some (.ref 78), some (.int (nI b)), none] rfl rfl ?_
  iterate 2 refine ev_nx rfl ?_
  refine ev_gf rfl rfl hm.1 rfl ?_
  have go : btr b mo = true → Ev d m_X0_keepIfBetter 8 [some (.ref 78), some (.int (nI b)), none] [] h (fun r h' => r = none ∧ aat h' sh ch (if btr b mo then ch else be) (if btr b mo then some b else mo) ∧ fr 78 81 h h') := by
    intro e
    rw [e]
    iterate 2 refine ev_nx rfl ?_
    refine ev_pf rfl rfl hm.1 (by show 3 < 4; decide) rfl rfl rfl ?_
    have k78 : (h.set 78 (ao (nI b)))[78]? = some (ao (nI b)) := gset_s hm.1
    have k80 : (h.set 78 (ao (nI b)))[80]? = some (ar ch) := by rw [gset_n (by decide)]; exact hm.2.2.1
    have k81 : (h.set 78 (ao (nI b)))[81]? = some (ar be) := by rw [gset_n (by decide)]; exact hm.2.2.2
    have l81 := (List.getElem?_eq_some_iff.mp k81).1
    show Ev d _ _ _ _ (h.set 78 (ao (nI b))) _
    rw [← set_id k81]
    obtain ⟨c0, c1, c2, c3, c4, rfl⟩ := l5 hc
    obtain ⟨b0, b1, b2, b3, b4, rfl⟩ := l5 hb
    iterate 2 refine ev_nx rfl ?_
    refine it_kb (p := 0) k78 k80 l81 rfl rfl (by decide) ?_
    refine it_kb (p := 1) k78 k80 l81 rfl rfl (by decide) ?_
    refine it_kb (p := 2) k78 k80 l81 rfl rfl (by decide) ?_
    refine it_kb (p := 3) k78 k80 l81 rfl rfl (by decide) ?_
    refine it_kb (p := 4) k78 k80 l81 rfl rfl (by decide) ?_
    iterate 3 refine ev_nx rfl ?_
    refine ev_ge (fun _ => ?_) (fun h => absurd h (by decide))
    refine ev_rt rfl ⟨rfl, ⟨?_, ?_, ?_, ?_⟩, by rw [List.length_set, List.length_set], fun q hq => ?_⟩
    · rw [gset_n (by decide)]; exact k78
    · rw [gset_n (by decide), gset_n (by decide)]; exact hm.2.1
    · rw [gset_n (by decide)]; exact k80
    · exact List.getElem?_set_self l81
    · rw [gset_n (by omega), gset_n (by omega)]
  cases hE : mo with
  | none =>
    subst hE
    refine ev_nx rfl ?_
    refine ev_f ?_ (go rfl)
    show decide (nI b ≤ -(nI 1)) = false
    rw [decide_eq_false_iff_not]
    intro q
    have := Int32.le_iff_toInt_le.mp q
    rw [nI_toInt (by omega)] at this
    have h2 : (-(nI 1)).toInt = -1 := by decide
    omega
  | some x =>
    subst hE
    have hx := hmo x rfl
    refine ev_nx rfl ?_
    refine ev_leq (b := x) (fun hc => ?_) (fun hc => ?_)
    · have e : btr b (some x) = false := by show decide (x < b) = false; rw [decide_eq_false_iff_not]; omega
      rw [e]
      exact ev_rt rfl ⟨rfl, hm, rfl, fun _ _ => rfl⟩
    · exact go (by show decide (x < b) = true; rw [decide_eq_true_eq]; exact hc)
end AK
end
section
/-! the class itself: wipe, fault, undo, keep -/
def ob : aC := .inr (.inr (8, [.ref 1, .ref 3, .ref 6, .ref 11, .ref 16, .ref 69, .ref 74, .ref 76, .ref 78]))
section PU
variable {h : aH} {l : List Nat} {n d nx dd kp : Nat} {x : aN} {L : List aN} {Q : Option Value → aH → Prop}
theorem e_wipe (ho : h[0]? = some ob) (hm : sat h l n) : Ec (d + 1) m_X8_wipe [.ref 0] h (fun r h' => r = some (.int (nI n)) ∧ sat h' l 0 ∧ fr 1 2 h h') := by
  refine ec_in [some (.ref 0)] rfl rfl ?_
  refine ev_nx rfl ?_
  refine ev_gf rfl rfl ho rfl ?_
  refine ev_v rfl rfl rfl rfl rfl rfl hm.1 rfl (e_sempty hm) (fun rv h2 q => ?_)
  obtain ⟨rfl, q1, q2⟩ := q
  exact ev_ri rfl rfl rfl ⟨rfl, q1, q2⟩
theorem e_fault (ho : h[0]? = some ob) (hm : sat h l n) (ok : sok l n) : Ec (d + 5) m_X8_fault [.ref 0] h (rt (.int (eo (ffr l n 200 0 0))) h) := by
  refine ec_in [some (.ref 0)] rfl rfl ?_
  refine ev_nx rfl ?_
  refine ev_gf rfl rfl ho rfl ?_
  refine ev_vi rfl rfl rfl rfl rfl rfl hm.1 rfl (e_firstFault hm ok) ?_
  exact ev_ri rfl rfl rfl ⟨rfl, rfl⟩
theorem e_undo (ho : h[0]? = some ob) (hp : pat h nx dd kp L) (hn : nx < 8) (hdd : dd ≤ 8) (hx : ltx h 6 x) (okx : nok x) (hh : h.length ≤ 100000) : Ec (d + 2) m_X8_undo [.ref 0] h (fun r h' => r = some (.int (if dd = 0 then -(nI 2) else nI (dd - 1))) ∧ pat h' (if 0 < dd then (nx + 7) % 8 else nx) (dd - 1) kp L ∧ ltx h' 6 (if 0 < dd then L.getD ((nx + 7) % 8) zN else x) ∧ h'.length = h.length ∧ ∀ q, q < 6 ∨ 6 + 4 < q → ¬ q = 16 → h'[q]? = h[q]?) := by
  refine ec_in [some (.ref 0)] rfl rfl ?_
  refine ev_nx rfl ?_
  refine ev_gf rfl rfl ho rfl ?_
  refine ev_gf rfl rfl hp.1 rfl ?_
  refine ev_nx rfl ?_
  refine ev_ne0 (fun hc => ?_) (fun hc => ?_)
  · rw [if_neg hc]
    refine ev_nx rfl ?_
    refine ev_gf rfl rfl ho rfl ?_
    refine ev_nx rfl ?_
    refine ev_gf rfl rfl ho rfl ?_
    refine ev_v rfl rfl rfl rfl rfl rfl hp.1 rfl (e_undoOn hp hn hdd hx okx (by decide) hh) (fun rv h2 q => ?_)
    obtain ⟨rfl, q1, q2, q3, q4⟩ := q
    refine ev_nx rfl ?_
    refine ev_gf rfl rfl (show h2[0]? = some ob by rw [q4 0 (by decide) (by decide)]; exact ho) rfl ?_
    refine ev_gf rfl rfl q1.1 rfl ?_
    exact ev_ri rfl rfl rfl ⟨rfl, q1, q2, q3, q4⟩
  · subst hc
    refine ev_nx rfl ?_
    exact ev_ri rfl rfl rfl ⟨rfl, hp, hx, rfl, fun _ _ _ => rfl⟩
theorem e_keep (ho : h[0]? = some ob) (hp : pat h nx dd kp L) (hk : kp ≤ 2) (hx : ltx h 6 x) (okx : nok x) (hh : h.length ≤ 100000) : Ec (d + 2) m_X8_keep [.ref 0] h (fun r h' => r = some (.int (if kp < 2 then nI (kp + 1) else -(nI 3))) ∧ pat h' nx dd (if kp < 2 then kp + 1 else kp) (if kp < 2 then L.set (8 + kp) x else L) ∧ fr 16 68 h h') := by
  refine ec_in [some (.ref 0)] rfl rfl ?_
  refine ev_nx rfl ?_
  refine ev_gf rfl rfl ho rfl ?_
  refine ev_gf rfl rfl hp.1 rfl ?_
  iterate 2 refine ev_nx rfl ?_
  refine ev_lt (fun hc => ?_) (fun hc => ?_)
  · have H := e_keepLine (d := d) hp hk hx okx (by decide) hh
    simp only [if_pos hc] at H ⊢
    refine ev_nx rfl ?_
    refine ev_gf rfl rfl ho rfl ?_
    refine ev_nx rfl ?_
    refine ev_gf rfl rfl ho rfl ?_
    refine ev_v rfl rfl rfl rfl rfl rfl hp.1 rfl H (fun rv h2 q => ?_)
    obtain ⟨rfl, q1, q2⟩ := q
    refine ev_nx rfl ?_
    refine ev_gf rfl rfl (show h2[0]? = some ob by rw [q2.2 0 (by decide)]; exact ho) rfl ?_
    refine ev_gf rfl rfl q1.1 rfl ?_
    exact ev_ri rfl rfl rfl ⟨rfl, q1, q2⟩
  · simp only [if_neg (show ¬ kp < 2 by omega)]
    refine ev_nx rfl ?_
    exact ev_ri rfl rfl rfl ⟨rfl, hp, rfl, fun _ _ => rfl⟩
end PU
end
section
/-! the class itself: back, fits -/
section PV
variable {h : aH} {l sg ln : List Nat} {n mn d nx dd kp : Nat} {x : aN} {L : List aN} {Q : Option Value → aH → Prop}
theorem e_back (ho : h[0]? = some ob) (hp : pat h nx dd kp L) (hk : kp ≤ 2) (hx : ltx h 6 x) (okx : nok x) (hh : h.length ≤ 100000) : Ec (d + 2) m_X8_back [.ref 0] h (fun r h' => r = some (.int (if kp = 0 then -(nI 2) else nI (kp - 1))) ∧ pat h' nx (if 0 < kp then 0 else dd) (kp - 1) L ∧ ltx h' 6 (if 0 < kp then L.getD (8 + (kp - 1)) zN else x) ∧ h'.length = h.length ∧ ∀ q, q < 6 ∨ 6 + 4 < q → ¬ q = 16 → h'[q]? = h[q]?) := by
  refine ec_in [some (.ref 0)] rfl rfl ?_
  refine ev_nx rfl ?_
  refine ev_gf rfl rfl ho rfl ?_
  refine ev_gf rfl rfl hp.1 rfl ?_
  refine ev_nx rfl ?_
  refine ev_ne0 (fun hc => ?_) (fun hc => ?_)
  · rw [if_neg hc]
    refine ev_nx rfl ?_
    refine ev_gf rfl rfl ho rfl ?_
    refine ev_nx rfl ?_
    refine ev_gf rfl rfl ho rfl ?_
    refine ev_v rfl rfl rfl rfl rfl rfl hp.1 rfl (e_backOn hp hk hx okx (by decide) hh) (fun rv h2 q => ?_)
    obtain ⟨rfl, q1, q2, q3, q4⟩ := q
    refine ev_nx rfl ?_
    refine ev_gf rfl rfl (show h2[0]? = some ob by rw [q4 0 (by decide) (by decide)]; exact ho) rfl ?_
    refine ev_gf rfl rfl q1.1 rfl ?_
    exact ev_ri rfl rfl rfl ⟨rfl, q1, q2, q3, q4⟩
  · subst hc
    refine ev_nx rfl ?_
    exact ev_ri rfl rfl rfl ⟨rfl, hp, hx, rfl, fun _ _ _ => rfl⟩
/-- the messages that what was heard is like, from one on -/
def fts (hd sg ln : List Nat) : Nat → Nat → Nat → Nat
  | 0, _, w => w
  | r + 1, k, w => fts hd sg ln r (k + 1) (if lik hd (msg sg ln k) then w ||| 1 * 2 ^ k else w)
theorem lp_fits (ho : h[0]? = some ob) (hm : hat h l n) (hl : l.length = 8) (hn : n ≤ 8) (hl32 : ∀ s ∈ l, s < 32) (hM : mat h sg ln mn) (mo : mok sg ln mn) : ∀ r k w, k + r = mn → Ev (d + 2) m_X8_fits 4 [some (.ref 0), some (.int (nI w)), some (.int (nI k))] [] h (rt (.int (nI (fts (l.take n) sg ln r k w))) h) := by
  have h6 := mo.2.2.2.2
  intro r
  induction r with
  | zero =>
    intro k w hk
    iterate 2 refine ev_nx rfl ?_
    refine ev_gf rfl rfl ho rfl ?_
    refine ev_gf rfl rfl hM.1 rfl ?_
    refine ev_nx rfl ?_
    refine ev_ge (fun _ => ?_) (fun h => absurd h (by omega))
    refine ev_nx rfl ?_
    exact ev_ri rfl rfl rfl ⟨rfl, rfl⟩
  | succ r ih =>
    intro k w hk
    have hp : 1 * 2 ^ k < 4294967296 := by
      have := Nat.pow_lt_pow_right (a := 2) (by decide) (show k < 6 by omega); omega
    have h8 : ln.getD k 0 ≤ 8 := by
      have := mo.2.2.1
      rw [List.getD, List.getElem?_eq_getElem (by omega)]; exact mo.2.2.2.1 _ (List.getElem_mem _)
    rw [fts]
    iterate 2 refine ev_nx rfl ?_
    refine ev_gf rfl rfl ho rfl ?_
    refine ev_gf rfl rfl hM.1 rfl ?_
    refine ev_nx rfl ?_
    refine ev_ge (fun h => absurd h (by omega)) (fun _ => ?_)
    refine ev_nx rfl ?_
    refine ev_gf rfl rfl ho rfl ?_
    refine ev_nx rfl ?_
    refine ev_gf rfl rfl ho rfl ?_
    refine ev_nx rfl ?_
    refine ev_vi rfl rfl rfl rfl rfl rfl hm.1 rfl (e_isLike hm hl hn hl32 hM mo.1 mo.2.2.1 mo.2.1 (by omega) h8) ?_
    cases hA : lik (l.take n) (msg sg ln k) with
    | false =>
      refine ev_nx rfl ?_
      refine ev_t (by decide) ?_
      iterate 2 refine ev_nx rfl ?_
      rw [nI_add, if_neg (by decide)]
      exact ih (k + 1) w (by omega)
    | true =>
      refine ev_nx rfl ?_
      refine ev_f (by decide) ?_
      iterate 4 refine ev_nx rfl ?_
      rw [n_shl (by omega) hp]
      iterate 2 refine ev_nx rfl ?_
      rw [n_or]
      iterate 2 refine ev_nx rfl ?_
      rw [nI_add, if_pos rfl]
      exact ih (k + 1) _ (by omega)
theorem e_fits (ho : h[0]? = some ob) (hm : hat h l n) (hl : l.length = 8) (hn : n ≤ 8) (hl32 : ∀ s ∈ l, s < 32) (hM : mat h sg ln mn) (mo : mok sg ln mn) : Ec (d + 2) m_X8_fits [.ref 0] h (rt (.int (nI (fts (l.take n) sg ln mn 0 0))) h) := by
  refine ec_in [some (.ref 0), none, none] rfl rfl ?_
  iterate 4 refine ev_nx rfl ?_
  exact lp_fits ho hm hl hn hl32 hM mo mn 0 0 (by omega)
end PV
end
section
/-! the class itself: hear -/
section PW
variable {h : aH} {l : List Nat} {n d : Nat} {Q : Option Value → aH → Prop}
/-- a sign that may be heard, taken -/
theorem hear_in (ho : h[0]? = some ob) (hm : hat h l n) (hl : l.length = 8) (hn : n ≤ 8) (s : Nat) : Ev (d + 1) m_X8_hear 18 [some (.ref 0), some (.int (nI s))] [] h (fun r h' => r = some (.int (if n < 8 then nI (n + 1) else -(nI 3))) ∧ hat h' (if n < 8 then l.set n s else l) (if n < 8 then n + 1 else n) ∧ fr 74 75 h h') := by
  refine ev_nx rfl ?_
  refine ev_gf rfl rfl ho rfl ?_
  refine ev_gf rfl rfl hm.1 rfl ?_
  iterate 2 refine ev_nx rfl ?_
  refine ev_lt (fun hc => ?_) (fun hc => ?_)
  · have H := e_hadd (d := d) (s := s) hm hl hn
    simp only [if_pos hc] at H ⊢
    refine ev_nx rfl ?_
    refine ev_gf rfl rfl ho rfl ?_
    refine ev_nx rfl ?_
    refine ev_v rfl rfl rfl rfl rfl rfl hm.1 rfl H (fun rv h2 q => ?_)
    obtain ⟨rfl, q1, q2⟩ := q
    refine ev_nx rfl ?_
    refine ev_gf rfl rfl (show h2[0]? = some ob by rw [q2.2 0 (by decide)]; exact ho) rfl ?_
    refine ev_gf rfl rfl q1.1 rfl ?_
    exact ev_ri rfl rfl rfl ⟨rfl, q1, q2⟩
  · simp only [if_neg (show ¬ n < 8 by omega)]
    refine ev_nx rfl ?_
    exact ev_ri rfl rfl rfl ⟨rfl, hm, rfl, fun _ _ => rfl⟩
end PW
end
section
/-! rows: numbers on the stack, cells of an explicit heap -/
section EVS
variable {d : Nat} {m : aM} {pc np r x p q : Nat} {L : aL} {S : List Value} {h : aH} {Q : Option Value → aH → Prop} {a b : Nat}
theorem ev_add (hc : am_cd m pc = some (.iadd, np, r)) (k : Ev d m np L (.int (nI (a + b)) :: S) h Q) : Ev d m pc L (.int (nI b) :: .int (nI a) :: S) h Q := by
  refine ev_nx (pc' := np) (L' := L) (S' := .int (nI a + nI b) :: S) (h' := h) ?_ (by rw [nI_add]; exact k)
  simp only [am_go, hc, am_op, am_bin, am_b2, am_nx]
theorem ev_sub (hc : am_cd m pc = some (.isub, np, r)) (hab : b ≤ a) (k : Ev d m np L (.int (nI (a - b)) :: S) h Q) : Ev d m pc L (.int (nI b) :: .int (nI a) :: S) h Q := by
  refine ev_nx (pc' := np) (L' := L) (S' := .int (nI a - nI b) :: S) (h' := h) ?_ (by rw [pk_sub hab]; exact k)
  simp only [am_go, hc, am_op, am_bin, am_b2, am_nx]
theorem ev_mul (hc : am_cd m pc = some (.imul, np, r)) (k : Ev d m np L (.int (nI (a * b)) :: S) h Q) : Ev d m pc L (.int (nI b) :: .int (nI a) :: S) h Q := by
  refine ev_nx (pc' := np) (L' := L) (S' := .int (nI a * nI b) :: S) (h' := h) ?_ (by rw [pk_mul]; exact k)
  simp only [am_go, hc, am_op, am_bin, am_b2, am_nx]
theorem nI_nz (hb : 0 < b) (hb2 : b < 2147483648) : ¬ nI b = 0 := fun e => by
  have := (nI_eq (a := b) (b := 0) hb2 (by decide)).mp e
  omega
theorem ev_div (hc : am_cd m pc = some (.idiv, np, r)) (ha : a < 2147483648) (hb : 0 < b ∧ b < 2147483648) (k : Ev d m np L (.int (nI (a / b)) :: S) h Q) : Ev d m pc L (.int (nI b) :: .int (nI a) :: S) h Q := by
  refine ev_nx (pc' := np) (L' := L) (S' := .int (nI a / nI b) :: S) (h' := h) ?_ (by rw [pk_div ha hb.1 hb.2]; exact k)
  simp only [am_go, hc, am_op, am_bin, am_b2, am_nx, if_neg (nI_nz hb.1 hb.2)]
theorem ev_rem (hc : am_cd m pc = some (.irem, np, r)) (ha : a < 2147483648) (hb : 0 < b ∧ b < 2147483648) (k : Ev d m np L (.int (nI (a % b)) :: S) h Q) : Ev d m pc L (.int (nI b) :: .int (nI a) :: S) h Q := by
  refine ev_nx (pc' := np) (L' := L) (S' := .int (nI a - nI a / nI b * nI b) :: S) (h' := h) ?_ (by rw [pk_rem ha hb.1 hb.2]; exact k)
  simp only [am_go, hc, am_op, am_bin, am_b2, am_nx, if_neg (nI_nz hb.1 hb.2)]
theorem ev_or (hc : am_cd m pc = some (.ior, np, r)) (k : Ev d m np L (.int (nI (a ||| b)) :: S) h Q) : Ev d m pc L (.int (nI b) :: .int (nI a) :: S) h Q := by
  refine ev_nx (pc' := np) (L' := L) (S' := .int (nI a ||| nI b) :: S) (h' := h) ?_ (by rw [n_or]; exact k)
  simp only [am_go, hc, am_op, am_bin, am_b2, am_nx]
theorem ev_shr (hc : am_cd m pc = some (.ishr, np, r)) (ha : a < 2147483648) (hb : b < 32) (k : Ev d m np L (.int (nI (a / 2 ^ b)) :: S) h Q) : Ev d m pc L (.int (nI b) :: .int (nI a) :: S) h Q := by
  refine ev_nx (pc' := np) (L' := L) (S' := .int (nI a >>> (nI b &&& 31)) :: S) (h' := h) ?_ (by rw [n_shr ha hb]; exact k)
  simp only [am_go, hc, am_op, am_bin, am_b2, am_nx]
/-- 1, shifted -/
theorem ev_sh1 (hc : am_cd m pc = some (.ishl, np, r)) (hb : b < 31) (k : Ev d m np L (.int (nI (1 * 2 ^ b)) :: S) h Q) : Ev d m pc L (.int (nI b) :: .int (nI 1) :: S) h Q := by
  have hp : 1 * 2 ^ b < 4294967296 := by
    have := Nat.pow_lt_pow_right (a := 2) (by decide) (show b < 32 by omega); omega
  refine ev_nx (pc' := np) (L' := L) (S' := .int (nI 1 <<< (nI b &&& 31)) :: S) (h' := h) ?_ (by rw [n_shl (by omega) hp]; exact k)
  simp only [am_go, hc, am_op, am_bin, am_b2, am_nx]
/-- the bit at a place: shifted, and 1 -/
theorem ev_bit (hc : am_cd m pc = some (.iand, np, r)) (ha : a < 2147483648) (k : Ev d m np L (.int (nI (bt a b)) :: S) h Q) : Ev d m pc L (.int (nI 1) :: .int (nI (a / 2 ^ b)) :: S) h Q := by
  refine ev_nx (pc' := np) (L' := L) (S' := .int (nI (a / 2 ^ b) &&& nI 1) :: S) (h' := h) ?_ (by rw [n_and1 (Nat.lt_of_le_of_lt (Nat.div_le_self _ _) (by omega))]; exact k)
  simp only [am_go, hc, am_op, am_bin, am_b2, am_nx]
theorem ev_inc {i : Nat} {n : Int} (hc : am_cd m pc = some (.iinc i n, np, r)) (hn : n = Int.ofNat r ∧ r < 128) (hl : am_ld L i = some (.int (nI a))) (hnl : am_nl L i = true) (k : Ev d m np (L.set i (some (.int (nI (a + r))))) S h Q) : Ev d m pc L S h Q := by
  obtain ⟨rfl, hr⟩ := hn
  refine ev_nx (pc' := np) (L' := L.set i (some (.int (nI a + nI r)))) (S' := S) (h' := h) ?_ (by rw [nI_add]; exact k)
  simp only [am_go, hc, am_op, am_iinc, hl, hnl, if_true, am_nx, hr, and_self]
theorem ev_lN {l : List Nat} {j : Nat} (hc : am_cd m pc = some (.iaload, np, r)) (hh : h[a]? = some (ar l)) (hj : j < l.length ∧ j < 2147483648 ∧ a < 100000) (k : Ev d m np L (.int (nI (l.getD j 0)) :: S) h Q) : Ev d m pc L (.int (nI j) :: .ref a :: S) h Q :=
  ev_ia hc (am_arr_h hj.2.2 hh) (mg hj.1) k hj.2.1
theorem ev_sN {l : List Nat} {j v : Nat} (hc : am_cd m pc = some (.iastore, np, r)) (hh : h[a]? = some (ar l)) (hj : j < l.length ∧ j < 2147483648 ∧ a < 100000) (k : Ev d m np L S (h.set a (ar (l.set j v))) Q) : Ev d m pc L (.int (nI v) :: .int (nI j) :: .ref a :: S) h Q := by
  refine ev_is hc hh (by rw [List.length_map]; exact hj.1) ?_ hj.2.1 hj.2.2
  rw [ms_]
  exact k
end EVS
end
section
/-! the reference: its heap; a line in one row of numbers -/
/-- length, messages, undos, keeps, seenMany, heardMany; text, sizes, spelt, book, kept, seen, heard -/
abbrev aZ : Type := (Nat × Nat × Nat × Nat × Nat × Nat) × (List Nat × List Nat × List Nat × List Nat × List Nat × List Nat × List Nat)
/-- place, isWrong, readMany; read, readSizes, readSpelt -/
abbrev aY : Type := Nat × Nat × Nat × List Nat × List Nat × List Nat
def xo (le me un ke sm hm pl wr rm : Nat) : aC := .inr (.inr (9, [.ref 1, .int (nI le), .ref 2, .int (nI me), .ref 3, .ref 4, .ref 5, .ref 6, .ref 7, .int (nI un), .ref 8, .int (nI ke), .ref 9, .int (nI sm), .ref 10, .int (nI hm), .int (nI pl), .int (nI wr), .int (nI rm), .ref 11, .ref 12, .ref 13, .ref 14, .ref 15, .ref 16, .ref 17, .ref 18, .ref 19, .ref 20]))
def XM (z : aZ) (y : aY) (st nw be ge re rk br pt : List Nat) (wo : List Int32) : aH :=
  [xo z.1.1 z.1.2.1 z.1.2.2.1 z.1.2.2.2.1 z.1.2.2.2.2.1 z.1.2.2.2.2.2 y.1 y.2.1 y.2.2.1, ar z.2.1, ar ptT, ar z.2.2.1, ar z.2.2.2.1, ar st, ar nw, ar z.2.2.2.2.1, ar z.2.2.2.2.2.1, ar z.2.2.2.2.2.2.1, ar z.2.2.2.2.2.2.2, ar y.2.2.2.1, ar y.2.2.2.2.1, ar y.2.2.2.2.2, ar be, ar ge, ar re, ar rk, ar br, ar pt, .inl (0, wo)]
/-- bits of a mask, in a row -/
def b5 (c : Nat) : List Nat := [bt c 0, bt c 1, bt c 2, bt c 3, bt c 4]
def b4 (c : Nat) : List Nat := [bt c 0, bt c 1, bt c 2, bt c 3]
def ll (K S G : List Nat) (c t j : Nat) : List Nat := b5 c ++ (b5 t ++ (b4 j ++ (K ++ (S ++ G))))
section LL
variable {K S G : List Nat} {c t j : Nat}
theorem c5 {p : Nat} (hp : p < 5) : p = 0 ∨ p = 1 ∨ p = 2 ∨ p = 3 ∨ p = 4 := by omega
theorem c4 {p : Nat} (hp : p < 4) : p = 0 ∨ p = 1 ∨ p = 2 ∨ p = 3 := by omega
theorem ll_len (ok : lok K S G c t j) : (ll K S G c t j).length = 29 := by
  obtain ⟨⟨h1, _⟩, ⟨h2, _⟩, ⟨h3, _⟩, _⟩ := ok
  simp [ll, b5, b4, h1, h2, h3]
theorem ll_c (p : Nat) (hp : p < 5) : (ll K S G c t j).getD (0 + p) 0 = bt c p := by
  rcases c5 hp with rfl | rfl | rfl | rfl | rfl <;> rfl
theorem ll_t (p : Nat) (hp : p < 5) : (ll K S G c t j).getD (5 + p) 0 = bt t p := by
  rcases c5 hp with rfl | rfl | rfl | rfl | rfl <;> rfl
theorem ll_j (p : Nat) (hp : p < 4) : (ll K S G c t j).getD (10 + p) 0 = bt j p := by
  rcases c4 hp with rfl | rfl | rfl | rfl <;> rfl
theorem ll_K (ok : lok K S G c t j) (p : Nat) (hp : p < 5) : (ll K S G c t j).getD (14 + p) 0 = K.getD p 0 := by
  obtain ⟨k0, k1, k2, k3, k4, rfl⟩ := l5 ok.1.1
  rcases c5 hp with rfl | rfl | rfl | rfl | rfl <;> rfl
theorem ll_S (ok : lok K S G c t j) (p : Nat) (hp : p < 5) : (ll K S G c t j).getD (19 + p) 0 = S.getD p 0 := by
  obtain ⟨k0, k1, k2, k3, k4, rfl⟩ := l5 ok.1.1
  obtain ⟨s0, s1, s2, s3, s4, rfl⟩ := l5 ok.2.1.1
  rcases c5 hp with rfl | rfl | rfl | rfl | rfl <;> rfl
theorem ll_G (ok : lok K S G c t j) (p : Nat) (hp : p < 5) : (ll K S G c t j).getD (24 + p) 0 = G.getD p 0 := by
  obtain ⟨k0, k1, k2, k3, k4, rfl⟩ := l5 ok.1.1
  obtain ⟨s0, s1, s2, s3, s4, rfl⟩ := l5 ok.2.1.1
  obtain ⟨g0, g1, g2, g3, g4, rfl⟩ := l5 ok.2.2.1.1
  rcases c5 hp with rfl | rfl | rfl | rfl | rfl <;> rfl
theorem ll_sK (hK : K.length = 5) (p v : Nat) (hp : p < 5) : (ll K S G c t j).set (14 + p) v = ll (K.set p v) S G c t j := by
  obtain ⟨k0, k1, k2, k3, k4, rfl⟩ := l5 hK
  rcases c5 hp with rfl | rfl | rfl | rfl | rfl <;> rfl
theorem ll_sS (hK : K.length = 5) (hS : S.length = 5) (p v : Nat) (hp : p < 5) : (ll K S G c t j).set (19 + p) v = ll K (S.set p v) G c t j := by
  obtain ⟨k0, k1, k2, k3, k4, rfl⟩ := l5 hK
  obtain ⟨s0, s1, s2, s3, s4, rfl⟩ := l5 hS
  rcases c5 hp with rfl | rfl | rfl | rfl | rfl <;> rfl
theorem ll_sG (hK : K.length = 5) (hS : S.length = 5) (hG : G.length = 5) (p v : Nat) (hp : p < 5) : (ll K S G c t j).set (24 + p) v = ll K S (G.set p v) c t j := by
  obtain ⟨k0, k1, k2, k3, k4, rfl⟩ := l5 hK
  obtain ⟨s0, s1, s2, s3, s4, rfl⟩ := l5 hS
  obtain ⟨g0, g1, g2, g3, g4, rfl⟩ := l5 hG
  rcases c5 hp with rfl | rfl | rfl | rfl | rfl <;> rfl
theorem b5_s1 : ∀ c : Fin 32, ∀ p : Fin 5, (b5 c.val).set p.val 1 = b5 (c.val ||| 1 * 2 ^ p.val) := by decide +kernel
theorem b5_s0 : ∀ c : Fin 32, ∀ p : Fin 5, (b5 c.val).set p.val 0 = b5 (clr c.val (1 * 2 ^ p.val)) := by decide +kernel
theorem b5_sx : ∀ c : Fin 32, ∀ p : Fin 5, (b5 c.val).set p.val (1 - bt c.val p.val) = b5 (c.val ^^^ 1 * 2 ^ p.val) := by decide +kernel
theorem b4_s1 : ∀ c : Fin 16, ∀ p : Fin 4, (b4 c.val).set p.val 1 = b4 (c.val ||| 1 * 2 ^ p.val) := by decide +kernel
theorem b4_s0 : ∀ c : Fin 16, ∀ p : Fin 4, (b4 c.val).set p.val 0 = b4 (clr c.val (1 * 2 ^ p.val)) := by decide +kernel
theorem ll_sc (p v : Nat) (hp : p < 5) : (ll K S G c t j).set (0 + p) v = (b5 c).set p v ++ (b5 t ++ (b4 j ++ (K ++ (S ++ G)))) := by
  rcases c5 hp with rfl | rfl | rfl | rfl | rfl <;> rfl
theorem ll_st (p v : Nat) (hp : p < 5) : (ll K S G c t j).set (5 + p) v = b5 c ++ ((b5 t).set p v ++ (b4 j ++ (K ++ (S ++ G)))) := by
  rcases c5 hp with rfl | rfl | rfl | rfl | rfl <;> rfl
theorem ll_sj (p v : Nat) (hp : p < 4) : (ll K S G c t j).set (10 + p) v = b5 c ++ (b5 t ++ ((b4 j).set p v ++ (K ++ (S ++ G)))) := by
  rcases c4 hp with rfl | rfl | rfl | rfl <;> rfl
theorem ll_c1 (p : Nat) (hp : p < 5) (hc : c < 32) : (ll K S G c t j).set (0 + p) 1 = ll K S G (c ||| 1 * 2 ^ p) t j := by rw [ll_sc p 1 hp, b5_s1 ⟨c, hc⟩ ⟨p, hp⟩]; rfl
theorem ll_c0 (p : Nat) (hp : p < 5) (hc : c < 32) : (ll K S G c t j).set (0 + p) 0 = ll K S G (clr c (1 * 2 ^ p)) t j := by rw [ll_sc p 0 hp, b5_s0 ⟨c, hc⟩ ⟨p, hp⟩]; rfl
theorem ll_t0 (p : Nat) (hp : p < 5) (ht : t < 32) : (ll K S G c t j).set (5 + p) 0 = ll K S G c (clr t (1 * 2 ^ p)) j := by rw [ll_st p 0 hp, b5_s0 ⟨t, ht⟩ ⟨p, hp⟩]; rfl
theorem ll_t1 (p : Nat) (hp : p < 5) (ht : t < 32) : (ll K S G c t j).set (5 + p) 1 = ll K S G c (t ||| 1 * 2 ^ p) j := by rw [ll_st p 1 hp, b5_s1 ⟨t, ht⟩ ⟨p, hp⟩]; rfl
theorem ll_tx (p : Nat) (hp : p < 5) (ht : t < 32) : (ll K S G c t j).set (5 + p) (1 - bt t p) = ll K S G c (t ^^^ 1 * 2 ^ p) j := by rw [ll_st p _ hp, b5_sx ⟨t, ht⟩ ⟨p, hp⟩]; rfl
theorem ll_j1 (p : Nat) (hp : p < 4) (hj : j < 16) : (ll K S G c t j).set (10 + p) 1 = ll K S G c t (j ||| 1 * 2 ^ p) := by rw [ll_sj p 1 hp, b4_s1 ⟨j, hj⟩ ⟨p, hp⟩]; rfl
theorem ll_j0 (p : Nat) (hp : p < 4) (hj : j < 16) : (ll K S G c t j).set (10 + p) 0 = ll K S G c t (clr j (1 * 2 ^ p)) := by rw [ll_sj p 0 hp, b4_s0 ⟨j, hj⟩ ⟨p, hp⟩]; rfl
end LL
/-! small methods of the reference -/
section XA
variable {d : Nat} {h : aH} {Q : Option Value → aH → Prop}
theorem f_in (x a b : Int32) (h : aH) : Ec d m_X9_in [.int x, .int a, .int b] h (rt (.int (nI (wi x a b))) h) := by
  refine ec_in [some (.int x), some (.int a), some (.int b)] rfl rfl ?_
  iterate 3 refine ev_nx rfl ?_
  refine ev_c (P := x < a) (by simp [am_c2]) (fun hc => ?_) (fun hc => ?_)
  · refine ev_nx rfl ?_
    exact ev_ri rfl rfl rfl ⟨by rw [wi, if_neg (fun q => Int32.not_le.mpr hc q.1)], rfl⟩
  · iterate 3 refine ev_nx rfl ?_
    refine ev_c (P := b < x) (by simp [am_c2]) (fun hd => ?_) (fun hd => ?_)
    · refine ev_nx rfl ?_
      exact ev_ri rfl rfl rfl ⟨by rw [wi, if_neg (fun q => Int32.not_le.mpr hd q.2)], rfl⟩
    · iterate 2 refine ev_nx rfl ?_
      exact ev_ri rfl rfl rfl ⟨by rw [wi, if_pos ⟨Int32.not_lt.mp hc, Int32.not_lt.mp hd⟩], rfl⟩
theorem wi_nr {x a b : Int32} : narrow .boolean (.int (nI (wi x a b))) = .int (nI (wi x a b)) := by
  rcases (show wi x a b = 0 ∨ wi x a b = 1 by have := wi_lt x a b; omega) with e | e <;> rw [e] <;> rfl
theorem f_isPlace (x : Int32) (h : aH) : Ec (d + 1) m_X9_isPlace [.int x] h (rt (.int (nI (wi x (nI 0) (nI 4)))) h) := by
  refine ec_in [some (.int x)] rfl rfl ?_
  iterate 3 refine ev_nx rfl ?_
  refine ev_ci rfl rfl (f_in x (nI 0) (nI 4) h) ?_
  exact ev_ri rfl rfl wi_nr ⟨rfl, rfl⟩
theorem f_other (w : Nat) (hw : w ≤ 3) (h : aH) : Ec d m_X9_other [.int (nI w)] h (rt (.int (nI (oth w))) h) := by
  refine ec_in [some (.int (nI w))] rfl rfl ?_
  iterate 2 refine ev_nx rfl ?_
  refine ev_ne0 (fun b1 => ?_) (fun b1 => ?_)
  · iterate 2 refine ev_nx rfl ?_
    refine ev_sub rfl (by omega) ?_
    exact ev_ri rfl rfl rfl ⟨by simp [oth, b1], rfl⟩
  · iterate 2 refine ev_nx rfl ?_
    exact ev_ri rfl rfl rfl ⟨by simp [oth, b1], rfl⟩
/-- some numbers of a row are brought into another one -/
def brg (A B : List Nat) (i j : Nat) : Nat → Nat → List Nat
  | 0, _ => B
  | n + 1, k => brg A (B.set (j + k) (A.getD (i + k) 0)) i j n (k + 1)
theorem brg_len {A : List Nat} {i j : Nat} : ∀ (n k : Nat) (B : List Nat), (brg A B i j n k).length = B.length
  | 0, k, B => rfl
  | n + 1, k, B => by rw [brg, brg_len n, List.length_set]
/-- how many bits are set -/
def pc_ (w : Nat) : Nat → Nat → Nat
  | 0, _ => 0
  | n + 1, k => bt w k + pc_ w n (k + 1)
def pcn (w : Nat) : Nat := pc_ w 30 0
theorem f_bits {w : Nat} (hw : w < 2147483648) : Ec d m_X9_bits [.int (nI w)] h (rt (.int (nI (pcn w))) h) := by
  refine ec_in [some (.int (nI w)), none, none] rfl rfl ?_
  have H : ∀ r k a, k + r = 30 → Ev d m_X9_bits 4 [some (.int (nI w)), some (.int (nI a)), some (.int (nI k))] [] h (rt (.int (nI (a + pc_ w r k))) h) := by
    intro r
    induction r with
    | zero =>
      intro k a hk
      iterate 3 refine ev_nx rfl ?_
      refine ev_ge (fun b7 => ?_) (fun b7 => absurd b7 (by omega))
      refine ev_nx rfl ?_
      exact ev_ri rfl rfl rfl ⟨rfl, rfl⟩
    | succ r ih =>
      intro k a hk
      iterate 3 refine ev_nx rfl ?_
      refine ev_ge (fun b7 => absurd b7 (by omega)) (fun b7 => ?_)
      iterate 3 refine ev_nx rfl ?_
      refine ev_shr rfl (by omega) (by omega) ?_
      refine ev_nx rfl ?_
      refine ev_bit rfl hw ?_
      refine ev_add rfl ?_
      refine ev_nx rfl ?_
      refine ev_inc rfl ⟨rfl, by decide⟩ rfl rfl ?_
      refine ev_nx rfl ?_
      rw [pc_, ← Nat.add_assoc]
      exact ih (k + 1) (a + bt w k) (by omega)
  iterate 4 refine ev_nx rfl ?_
  have := H 30 0 0 rfl
  rw [Nat.zero_add] at this
  exact this
/-- the sum of some numbers of a row -/
def smr (A : List Nat) (i : Nat) : Nat → Nat → Nat
  | 0, _ => 0
  | n + 1, k => A.getD (i + k) 0 + smr A i n (k + 1)
theorem f_sum {A : List Nat} {a i n : Nat} (hA : h[a]? = some (ar A)) (ha : a < 100000) (hn : i + n ≤ A.length) (hl : A.length < 10000) : Ec d m_X9_sum [.ref a, .int (nI i), .int (nI n)] h (rt (.int (nI (smr A i n 0))) h) := by
  refine ec_in [some (.ref a), some (.int (nI i)), some (.int (nI n)), none, none] rfl rfl ?_
  have H : ∀ r k s, k + r = n → Ev d m_X9_sum 5 [some (.ref a), some (.int (nI i)), some (.int (nI n)), some (.int (nI s)), some (.int (nI k))] [] h (rt (.int (nI (s + smr A i r k))) h) := by
    intro r
    induction r with
    | zero =>
      intro k s hk
      iterate 3 refine ev_nx rfl ?_
      refine ev_ge (fun b8 => ?_) (fun b8 => absurd b8 (by omega))
      refine ev_nx rfl ?_
      exact ev_ri rfl rfl rfl ⟨rfl, rfl⟩
    | succ r ih =>
      intro k s hk
      iterate 3 refine ev_nx rfl ?_
      refine ev_ge (fun b8 => absurd b8 (by omega)) (fun b8 => ?_)
      iterate 4 refine ev_nx rfl ?_
      refine ev_add rfl ?_
      refine ev_lN rfl hA (by omega) ?_
      refine ev_add rfl ?_
      refine ev_nx rfl ?_
      refine ev_inc rfl ⟨rfl, by decide⟩ rfl rfl ?_
      refine ev_nx rfl ?_
      rw [smr, ← Nat.add_assoc]
      exact ih (k + 1) _ (by omega)
  iterate 4 refine ev_nx rfl ?_
  have := H n 0 0 (by omega)
  rw [Nat.zero_add] at this
  exact this
end XA
end
section
/-! the reference: bring, carries -/
section XB
variable {d : Nat} {h : aH} {Q : Option Value → aH → Prop} {z : aZ} {y : aY} {st nw be ge re rk br pt_ : List Nat} {wo : List Int32} {K S G : List Nat} {c t j : Nat}
theorem f_bring {A B : List Nat} {a b i k n : Nat} (hA : h[a]? = some (ar A)) (hB : h[b]? = some (ar B)) (hab : a ≠ b) (ha : a < 100000 ∧ b < 100000) (h1 : i + n ≤ A.length ∧ A.length < 10000) (h2 : k + n ≤ B.length ∧ B.length < 10000) : Ec d m_X9_bring [.ref a, .int (nI i), .ref b, .int (nI k), .int (nI n)] h (rtv (h.set b (ar (brg A B i k n 0)))) := by
  refine ec_in [some (.ref a), some (.int (nI i)), some (.ref b), some (.int (nI k)), some (.int (nI n)), none] rfl rfl ?_
  have hbl : b < h.length := (List.getElem?_eq_some_iff.mp hB).1
  have H : ∀ r q B1, q + r = n → B1.length = B.length → Ev d m_X9_bring 3 [some (.ref a), some (.int (nI i)), some (.ref b), some (.int (nI k)), some (.int (nI n)), some (.int (nI q))] [] (h.set b (ar B1)) (rtv (h.set b (ar (brg A B1 i k r q)))) := by
    intro r
    induction r with
    | zero =>
      intro q B1 hq hl
      iterate 3 refine ev_nx rfl ?_
      refine ev_ge (fun b7 => ?_) (fun b7 => absurd b7 (by omega))
      exact ev_rt rfl ⟨rfl, rfl⟩
    | succ r ih =>
      intro q B1 hq hl
      iterate 3 refine ev_nx rfl ?_
      refine ev_ge (fun b7 => absurd b7 (by omega)) (fun b7 => ?_)
      iterate 3 refine ev_nx rfl ?_
      refine ev_add rfl ?_
      iterate 3 refine ev_nx rfl ?_
      refine ev_add rfl ?_
      refine ev_lN rfl (by rw [gset_n hab.symm]; exact hA) (by omega) ?_
      refine ev_sN rfl (List.getElem?_set_self hbl) (by omega) ?_
      rw [set_set]
      refine ev_inc rfl ⟨rfl, by decide⟩ rfl rfl ?_
      refine ev_nx rfl ?_
      exact ih (q + 1) _ (by omega) (by rw [List.length_set, hl])
  iterate 2 refine ev_nx rfl ?_
  have := H n 0 B (by omega) rfl
  rw [set_id hB] at this
  exact this
/-- within one row -/
def bsg (i j : Nat) : Nat → Nat → List Nat → List Nat
  | 0, _, B => B
  | n + 1, k, B => bsg i j n (k + 1) (B.set (j + k) (B.getD (i + k) 0))
theorem f_bringS {B : List Nat} {b i k n : Nat} (hB : h[b]? = some (ar B)) (hb : b < 100000) (h1 : i + n ≤ B.length ∧ B.length < 10000) (h2 : k + n ≤ B.length) : Ec d m_X9_bring [.ref b, .int (nI i), .ref b, .int (nI k), .int (nI n)] h (rtv (h.set b (ar (bsg i k n 0 B)))) := by
  refine ec_in [some (.ref b), some (.int (nI i)), some (.ref b), some (.int (nI k)), some (.int (nI n)), none] rfl rfl ?_
  have hbl : b < h.length := (List.getElem?_eq_some_iff.mp hB).1
  have H : ∀ r q B1, q + r = n → B1.length = B.length → Ev d m_X9_bring 3 [some (.ref b), some (.int (nI i)), some (.ref b), some (.int (nI k)), some (.int (nI n)), some (.int (nI q))] [] (h.set b (ar B1)) (rtv (h.set b (ar (bsg i k r q B1)))) := by
    intro r
    induction r with
    | zero =>
      intro q B1 hq hl
      iterate 3 refine ev_nx rfl ?_
      refine ev_ge (fun b7 => ?_) (fun b7 => absurd b7 (by omega))
      exact ev_rt rfl ⟨rfl, rfl⟩
    | succ r ih =>
      intro q B1 hq hl
      iterate 3 refine ev_nx rfl ?_
      refine ev_ge (fun b7 => absurd b7 (by omega)) (fun b7 => ?_)
      iterate 3 refine ev_nx rfl ?_
      refine ev_add rfl ?_
      iterate 3 refine ev_nx rfl ?_
      refine ev_add rfl ?_
      refine ev_lN rfl (List.getElem?_set_self hbl) (by omega) ?_
      refine ev_sN rfl (List.getElem?_set_self hbl) (by omega) ?_
      rw [set_set]
      refine ev_inc rfl ⟨rfl, by decide⟩ rfl rfl ?_
      refine ev_nx rfl ?_
      exact ih (q + 1) _ (by omega) (by rw [List.length_set, hl])
  iterate 2 refine ev_nx rfl ?_
  have := H n 0 B (by omega) rfl
  rw [set_id hB] at this
  exact this
/-! what the wires carry -/
theorem n_p1 (a b : Nat) : nI a - nI b + nI 1 = nI (a + 1) - nI b := by
  rw [← nI_add]; apply Int32.toBitVec_inj.mp; show BitVec.ofNat 32 a - BitVec.ofNat 32 b + BitVec.ofNat 32 1 = BitVec.ofNat 32 a + BitVec.ofNat 32 1 - BitVec.ofNat 32 b; grind
theorem n_m1 (a b : Nat) : nI a - nI b + -(nI 1) = nI a - nI (b + 1) := by
  rw [← nI_add]; apply Int32.toBitVec_inj.mp; show BitVec.ofNat 32 a - BitVec.ofNat 32 b + -(BitVec.ofNat 32 1) = BitVec.ofNat 32 a - (BitVec.ofNat 32 b + BitVec.ofNat 32 1); grind
theorem n_p0 (a b : Nat) : nI a - nI b + nI 0 = nI a - nI b := by
  apply Int32.toBitVec_inj.mp; show BitVec.ofNat 32 a - BitVec.ofNat 32 b + BitVec.ofNat 32 0 = BitVec.ofNat 32 a - BitVec.ofNat 32 b; grind
theorem n_eq0 {a b : Nat} (ha : a < 100) (hb : b < 100) : am_c2 .ne (nI a - nI b) 0 = true ↔ ¬ a = b := by
  have h1 := n_le0 ha hb
  have h2 : nI a - nI b = 0 ↔ a = b := by
    constructor
    · intro e
      rw [e] at h1
      have q1 := h1.1.mp (by decide)
      have q2 := h1.2.mp (by decide)
      omega
    · rintro rfl
      rw [pk_sub (Nat.le_refl _), Nat.sub_self]; rfl
  simp [am_c2, h2]
/-- the reference's groups of wires, one behind the other -/
def mgr (c j : Nat) (B : List Nat) : Nat → Nat → List Nat → List Nat
  | 0, _, G => G
  | n + 1, f, G => if f < 5 then mgr c j B n (gE j f (4 - f) + 1) (shs c (maj (sgc B 1 f (gE j f (4 - f) + 1 - f)) (sgc B 2 f (gE j f (4 - f) + 1 - f))) f (gE j f (4 - f) + 1 - f) G) else G
theorem it_crA5 (ok : lok K S G c t j) {s p : Nat} (hs : s < 31) (hp : p < 5) (hbe : be.length = 5) {l4 : Option Value} (k : ∀ v, v = bcu c t (pt s p) p → Ev (d + 1) m_X9_carries 2 [some (.ref 0), some (.ref 5), some (.int (nI s)), some (.int (nI (p + 1))), some (.int (nI (pt s p))), none, none] [] (XM z y (ll K S G c t j) nw (be.set p v) ge re rk br pt_ wo) Q) : Ev (d + 1) m_X9_carries 2 [some (.ref 0), some (.ref 5), some (.int (nI s)), some (.int (nI p)), l4, none, none] [] (XM z y (ll K S G c t j) nw be ge re rk br pt_ wo) Q := by
  have hl := ll_len ok
  have hb1 := bt_lt c p
  have hb2 := bt_lt t p
  have hpt := pt_lt hs hp
  iterate 3 refine ev_nx rfl ?_
  refine ev_ge (fun b4 => absurd b4 (by omega)) (fun b4 => ?_)
  iterate 4 refine ev_nx rfl ?_
  refine ev_mul rfl ?_
  refine ev_nx rfl ?_
  refine ev_add rfl ?_
  rw [show 5 * s + p = s * 5 + p by omega]
  refine ev_lN rfl rfl ⟨show s * 5 + p < 155 by omega, by omega, by decide⟩ ?_
  show Ev _ _ _ _ (.int (nI (pt s p)) :: _) _ _
  iterate 7 refine ev_nx rfl ?_
  refine ev_add rfl ?_
  refine ev_lN rfl rfl (by omega) ?_
  rw [ll_c p hp]
  iterate 2 refine ev_nx rfl ?_
  refine ev_ne (fun b30 => ?_) (fun b30 => ?_)
  · iterate 3 refine ev_nx rfl ?_
    refine ev_add rfl ?_
    refine ev_lN rfl rfl (by omega) ?_
    rw [ll_t p hp]
    iterate 2 refine ev_nx rfl ?_
    refine ev_ne (fun b43 => ?_) (fun b43 => ?_)
    · refine ev_nx rfl ?_
      refine ev_sN rfl rfl (by omega) ?_
      refine ev_inc rfl ⟨rfl, by decide⟩ rfl rfl ?_
      refine ev_nx rfl ?_
      exact k _ (by unfold bcu brn; (repeat' split) <;> omega)
    · refine ev_nx rfl ?_
      refine ev_ci rfl rfl (f_other (pt s p) (by omega) _) ?_
      refine ev_nx rfl ?_
      refine ev_sN rfl rfl (by omega) ?_
      refine ev_inc rfl ⟨rfl, by decide⟩ rfl rfl ?_
      refine ev_nx rfl ?_
      exact k _ (by unfold bcu brn; (repeat' split) <;> omega)
  · iterate 2 refine ev_nx rfl ?_
    refine ev_sN rfl rfl (by omega) ?_
    refine ev_inc rfl ⟨rfl, by decide⟩ rfl rfl ?_
    refine ev_nx rfl ?_
    exact k _ (by unfold bcu brn; (repeat' split) <;> omega)
theorem lp_crT5 (ok : lok K S G c t j) {s f : Nat} {l5 l6 : Option Value} {T : Nat} (k : Ev (d + 1) m_X9_carries 96 [some (.ref 0), some (.ref 5), some (.int (nI s)), some (.int (nI f)), some (.int (nI T)), l5, l6] [] (XM z y (ll K S G c t j) nw be ge re rk br pt_ wo) Q) : ∀ (n q : Nat), q + n = 4 → T = gE j q n → Ev (d + 1) m_X9_carries 73 [some (.ref 0), some (.ref 5), some (.int (nI s)), some (.int (nI f)), some (.int (nI q)), l5, l6] [] (XM z y (ll K S G c t j) nw be ge re rk br pt_ wo) Q := by
  have hl := ll_len ok
  intro n
  induction n with
  | zero =>
    intro q hq hT
    rw [gE] at hT
    subst hT
    iterate 3 refine ev_nx rfl ?_
    refine ev_ge (fun b76 => ?_) (fun b76 => absurd b76 (by omega))
    exact k
  | succ n ih =>
    intro q hq hT
    rw [gE] at hT
    have hb := bt_lt j q
    iterate 3 refine ev_nx rfl ?_
    refine ev_ge (fun b76 => absurd b76 (by omega)) (fun b76 => ?_)
    iterate 3 refine ev_nx rfl ?_
    refine ev_add rfl ?_
    refine ev_lN rfl rfl (by omega) ?_
    rw [ll_j q (by omega)]
    iterate 2 refine ev_nx rfl ?_
    refine ev_ne (fun b87 => ?_) (fun b87 => ?_)
    · rw [if_neg (by omega)] at hT
      subst hT
      exact k
    · refine ev_inc rfl ⟨rfl, by decide⟩ rfl rfl ?_
      refine ev_nx rfl ?_
      exact ih (q + 1) (by omega) (by rw [hT, if_pos (by omega)])
theorem lp_crM5 (hbe : be.length = 5) (hb3 : ∀ s ∈ be, s < 3) {s f q : Nat} (hq : q < 5) : ∀ (n p a b : Nat), p + n = q + 1 → a + n ≤ 10 → b + n ≤ 10 → (Ev (d + 1) m_X9_carries 151 [some (.ref 0), some (.ref 5), some (.int (nI s)), some (.int (nI f)), some (.int (nI q)), some (.int (nI (a + sgc be 1 p n) - nI (b + sgc be 2 p n))), some (.int (nI (q + 1)))] [] (XM z y st nw be ge re rk br pt_ wo) Q) → Ev (d + 1) m_X9_carries 102 [some (.ref 0), some (.ref 5), some (.int (nI s)), some (.int (nI f)), some (.int (nI q)), some (.int (nI a - nI b)), some (.int (nI p))] [] (XM z y st nw be ge re rk br pt_ wo) Q := by
  intro n
  induction n with
  | zero =>
    intro p a b hp ha hb k
    obtain rfl : p = q + 1 := by omega
    iterate 3 refine ev_nx rfl ?_
    refine ev_gt (fun b106 => ?_) (fun b106 => absurd b106 (by omega))
    exact k
  | succ n ih =>
    intro p a b hp ha hb k
    have hg : be.getD p 0 < 3 := gd3 hb3 (by omega)
    rw [sgc, sgc] at k
    iterate 3 refine ev_nx rfl ?_
    refine ev_gt (fun b106 => absurd b106 (by omega)) (fun b106 => ?_)
    iterate 4 refine ev_nx rfl ?_
    refine ev_lN rfl rfl (by omega) ?_
    iterate 2 refine ev_nx rfl ?_
    refine ev_ne (fun b119 => ?_) (fun b119 => ?_)
    · iterate 3 refine ev_nx rfl ?_
      refine ev_lN rfl rfl (by omega) ?_
      iterate 2 refine ev_nx rfl ?_
      refine ev_ne (fun b134 => ?_) (fun b134 => ?_)
      · refine ev_nx rfl ?_
        refine ev_nx rfl ?_
        first | rw [n_p1] | rw [n_m1] | rw [n_p0]
        refine ev_nx rfl ?_
        refine ev_inc rfl ⟨rfl, by decide⟩ rfl rfl ?_
        refine ev_nx rfl ?_
        refine ih (p + 1) _ _ (by omega) (by omega) (by omega) ?_
        first | (rw [if_pos b119, if_neg (by omega), ← Nat.add_assoc, ← Nat.add_assoc] at k; exact k) | (rw [if_neg b119, if_pos b134, ← Nat.add_assoc, ← Nat.add_assoc] at k; exact k) | (rw [if_neg b119, if_neg b134, ← Nat.add_assoc, ← Nat.add_assoc] at k; exact k)
      · iterate 2 refine ev_nx rfl ?_
        refine ev_nx rfl ?_
        first | rw [n_p1] | rw [n_m1] | rw [n_p0]
        refine ev_nx rfl ?_
        refine ev_inc rfl ⟨rfl, by decide⟩ rfl rfl ?_
        refine ev_nx rfl ?_
        refine ih (p + 1) _ _ (by omega) (by omega) (by omega) ?_
        first | (rw [if_pos b119, if_neg (by omega), ← Nat.add_assoc, ← Nat.add_assoc] at k; exact k) | (rw [if_neg b119, if_pos b134, ← Nat.add_assoc, ← Nat.add_assoc] at k; exact k) | (rw [if_neg b119, if_neg b134, ← Nat.add_assoc, ← Nat.add_assoc] at k; exact k)
    · iterate 2 refine ev_nx rfl ?_
      refine ev_nx rfl ?_
      first | rw [n_p1] | rw [n_m1] | rw [n_p0]
      refine ev_nx rfl ?_
      refine ev_inc rfl ⟨rfl, by decide⟩ rfl rfl ?_
      refine ev_nx rfl ?_
      refine ih (p + 1) _ _ (by omega) (by omega) (by omega) ?_
      first | (rw [if_pos b119, if_neg (by omega), ← Nat.add_assoc, ← Nat.add_assoc] at k; exact k) | (rw [if_neg b119, if_pos b134, ← Nat.add_assoc, ← Nat.add_assoc] at k; exact k) | (rw [if_neg b119, if_neg b134, ← Nat.add_assoc, ← Nat.add_assoc] at k; exact k)
theorem lp_crS5 (ok : lok K S G c t j) {s f q a b : Nat} (hq : q < 5) (ha : a < 100) (hb : b < 100) : ∀ (n p : Nat) (ge : List Nat), ge.length = 5 → p + n = q + 1 → (Ev (d + 1) m_X9_carries 203 [some (.ref 0), some (.ref 5), some (.int (nI s)), some (.int (nI f)), some (.int (nI q)), some (.int (nI a - nI b)), some (.int (nI (q + 1)))] [] (XM z y (ll K S G c t j) nw be (shs c (maj a b) p n ge) re rk br pt_ wo) Q) → Ev (d + 1) m_X9_carries 154 [some (.ref 0), some (.ref 5), some (.int (nI s)), some (.int (nI f)), some (.int (nI q)), some (.int (nI a - nI b)), some (.int (nI p))] [] (XM z y (ll K S G c t j) nw be ge re rk br pt_ wo) Q := by
  have hl := ll_len ok
  intro n
  induction n with
  | zero =>
    intro p ge hg hp k
    obtain rfl : p = q + 1 := by omega
    iterate 3 refine ev_nx rfl ?_
    refine ev_gt (fun b158 => ?_) (fun b158 => absurd b158 (by omega))
    exact k
  | succ n ih =>
    intro p ge hg hp k
    have hb1 := bt_lt c p
    rw [shs] at k
    have fin : ∀ v, v = (if bt c p = 0 then maj a b else 0) → Ev (d + 1) m_X9_carries 154 [some (.ref 0), some (.ref 5), some (.int (nI s)), some (.int (nI f)), some (.int (nI q)), some (.int (nI a - nI b)), some (.int (nI (p + 1)))] [] (XM z y (ll K S G c t j) nw be (ge.set p v) re rk br pt_ wo) Q := fun v hv => ih (p + 1) _ (by rw [List.length_set, hg]) (by omega) (by rw [hv]; exact k)
    iterate 3 refine ev_nx rfl ?_
    refine ev_gt (fun b158 => absurd b158 (by omega)) (fun b158 => ?_)
    iterate 6 refine ev_nx rfl ?_
    refine ev_add rfl ?_
    refine ev_lN rfl rfl (by omega) ?_
    rw [ll_c p (by omega)]
    iterate 2 refine ev_nx rfl ?_
    refine ev_eq (fun b174 => ?_) (fun b174 => ?_)
    · iterate 2 refine ev_nx rfl ?_
      refine ev_sN rfl rfl (by omega) ?_
      refine ev_inc rfl ⟨rfl, by decide⟩ rfl rfl ?_
      refine ev_nx rfl ?_
      exact fin _ (by unfold maj; (repeat' split) <;> omega)
    · iterate 2 refine ev_nx rfl ?_
      refine ev_c (n_eq0 ha hb) (fun b179 => ?_) (fun b179 => ?_)
      · iterate 2 refine ev_nx rfl ?_
        refine ev_c (n_le0 ha hb).1 (fun b188 => ?_) (fun b188 => ?_)
        · refine ev_nx rfl ?_
          refine ev_sN rfl rfl (by omega) ?_
          refine ev_inc rfl ⟨rfl, by decide⟩ rfl rfl ?_
          refine ev_nx rfl ?_
          exact fin _ (by unfold maj; (repeat' split) <;> omega)
        · iterate 2 refine ev_nx rfl ?_
          refine ev_sN rfl rfl (by omega) ?_
          refine ev_inc rfl ⟨rfl, by decide⟩ rfl rfl ?_
          refine ev_nx rfl ?_
          exact fin _ (by unfold maj; (repeat' split) <;> omega)
      · iterate 2 refine ev_nx rfl ?_
        refine ev_sN rfl rfl (by omega) ?_
        refine ev_inc rfl ⟨rfl, by decide⟩ rfl rfl ?_
        refine ev_nx rfl ?_
        exact fin _ (by unfold maj; (repeat' split) <;> omega)
theorem lp_cr5 (ok : lok K S G c t j) (hbe : be.length = 5) (hb3 : ∀ s ∈ be, s < 3) {s : Nat} : ∀ (n f : Nat) (ge : List Nat) (l4 l5 l6 : Option Value), 5 ≤ f + n → f ≤ 5 → ge.length = 5 → Ev (d + 1) m_X9_carries 65 [some (.ref 0), some (.ref 5), some (.int (nI s)), some (.int (nI f)), l4, l5, l6] [] (XM z y (ll K S G c t j) nw be ge re rk br pt_ wo) (rtv (XM z y (ll K S G c t j) nw be (mgr c j be n f ge) re rk br pt_ wo)) := by
  intro n
  induction n with
  | zero =>
    intro f ge l4 l5 l6 hf hf5 hg
    iterate 3 refine ev_nx rfl ?_
    refine ev_ge (fun b67 => ?_) (fun b67 => absurd b67 (by omega))
    exact ev_rt rfl ⟨rfl, rfl⟩
  | succ n ih =>
    intro f ge l4 l5 l6 hf hf5 hg
    rw [mgr]
    by_cases h5 : f < 5
    · rw [if_pos h5]
      have hE := gE_le j (4 - f) f (by omega)
      have s1 := sgc_le be 1 (gE j f (4 - f) + 1 - f) f
      have s2 := sgc_le be 2 (gE j f (4 - f) + 1 - f) f
      iterate 3 refine ev_nx rfl ?_
      refine ev_ge (fun b67 => absurd b67 (by omega)) (fun b67 => ?_)
      iterate 2 refine ev_nx rfl ?_
      refine lp_crT5 ok ?_ (4 - f) f (by omega) rfl
      iterate 4 refine ev_nx rfl ?_
      show Ev (d + 1) m_X9_carries 102 [some (.ref 0), some (.ref 5), some (.int (nI s)), some (.int (nI f)), some (.int (nI (gE j f (4 - f)))), some (.int (nI 0 - nI 0)), some (.int (nI f))] [] _ _
      refine lp_crM5 hbe hb3 (by omega) (gE j f (4 - f) + 1 - f) f 0 0 (by omega) (by omega) (by omega) ?_
      rw [Nat.zero_add, Nat.zero_add]
      iterate 2 refine ev_nx rfl ?_
      refine lp_crS5 ok (by omega) (by omega) (by omega) (gE j f (4 - f) + 1 - f) f ge hg (by omega) ?_
      iterate 2 refine ev_nx rfl ?_
      refine ev_add rfl ?_
      iterate 2 refine ev_nx rfl ?_
      exact ih (gE j f (4 - f) + 1) _ _ _ _ (by omega) (by omega) (by rw [shs_len, hg])
    · rw [if_neg h5]
      iterate 3 refine ev_nx rfl ?_
      refine ev_ge (fun b67 => ?_) (fun b67 => absurd b67 (by omega))
      exact ev_rt rfl ⟨rfl, rfl⟩
theorem f_carriesR5 (ok : lok K S G c t j) (hbe : be.length = 5) (hge : ge.length = 5) {s : Nat} (hs : s < 31) : Ec (d + 1) m_X9_carries [.ref 0, .ref 5, .int (nI s)] (XM z y (ll K S G c t j) nw be ge re rk br pt_ wo) (rtv (XM z y (ll K S G c t j) nw (crb s c t) (mgr c j (crb s c t) 5 0 ge) re rk br pt_ wo)) := by
  refine ec_in [some (.ref 0), some (.ref 5), some (.int (nI s)), none, none, none, none] rfl rfl ?_
  obtain ⟨b0, b1, b2, b3, b4, rfl⟩ := l5 hbe
  iterate 2 refine ev_nx rfl ?_
  refine it_crA5 (p := 0) ok hs (by omega) rfl ?_
  rintro _ rfl
  refine it_crA5 (p := 1) ok hs (by omega) rfl ?_
  rintro _ rfl
  refine it_crA5 (p := 2) ok hs (by omega) rfl ?_
  rintro _ rfl
  refine it_crA5 (p := 3) ok hs (by omega) rfl ?_
  rintro _ rfl
  refine it_crA5 (p := 4) ok hs (by omega) rfl ?_
  rintro _ rfl
  iterate 3 refine ev_nx rfl ?_
  refine ev_ge (fun b4 => ?_) (fun b4 => absurd b4 (by omega))
  iterate 2 refine ev_nx rfl ?_
  exact lp_cr5 (be := crb s c t) ok rfl (crb_lt hs) 5 0 ge _ _ _ (by omega) (by omega) hge
theorem it_crA6 (ok : lok K S G c t j) {s p : Nat} (hs : s < 31) (hp : p < 5) (hbe : be.length = 5) {l4 : Option Value} (k : ∀ v, v = bcu c t (pt s p) p → Ev (d + 1) m_X9_carries 2 [some (.ref 0), some (.ref 6), some (.int (nI s)), some (.int (nI (p + 1))), some (.int (nI (pt s p))), none, none] [] (XM z y st (ll K S G c t j) (be.set p v) ge re rk br pt_ wo) Q) : Ev (d + 1) m_X9_carries 2 [some (.ref 0), some (.ref 6), some (.int (nI s)), some (.int (nI p)), l4, none, none] [] (XM z y st (ll K S G c t j) be ge re rk br pt_ wo) Q := by
  have hl := ll_len ok
  have hb1 := bt_lt c p
  have hb2 := bt_lt t p
  have hpt := pt_lt hs hp
  iterate 3 refine ev_nx rfl ?_
  refine ev_ge (fun b4 => absurd b4 (by omega)) (fun b4 => ?_)
  iterate 4 refine ev_nx rfl ?_
  refine ev_mul rfl ?_
  refine ev_nx rfl ?_
  refine ev_add rfl ?_
  rw [show 5 * s + p = s * 5 + p by omega]
  refine ev_lN rfl rfl ⟨show s * 5 + p < 155 by omega, by omega, by decide⟩ ?_
  show Ev _ _ _ _ (.int (nI (pt s p)) :: _) _ _
  iterate 7 refine ev_nx rfl ?_
  refine ev_add rfl ?_
  refine ev_lN rfl rfl (by omega) ?_
  rw [ll_c p hp]
  iterate 2 refine ev_nx rfl ?_
  refine ev_ne (fun b30 => ?_) (fun b30 => ?_)
  · iterate 3 refine ev_nx rfl ?_
    refine ev_add rfl ?_
    refine ev_lN rfl rfl (by omega) ?_
    rw [ll_t p hp]
    iterate 2 refine ev_nx rfl ?_
    refine ev_ne (fun b43 => ?_) (fun b43 => ?_)
    · refine ev_nx rfl ?_
      refine ev_sN rfl rfl (by omega) ?_
      refine ev_inc rfl ⟨rfl, by decide⟩ rfl rfl ?_
      refine ev_nx rfl ?_
      exact k _ (by unfold bcu brn; (repeat' split) <;> omega)
    · refine ev_nx rfl ?_
      refine ev_ci rfl rfl (f_other (pt s p) (by omega) _) ?_
      refine ev_nx rfl ?_
      refine ev_sN rfl rfl (by omega) ?_
      refine ev_inc rfl ⟨rfl, by decide⟩ rfl rfl ?_
      refine ev_nx rfl ?_
      exact k _ (by unfold bcu brn; (repeat' split) <;> omega)
  · iterate 2 refine ev_nx rfl ?_
    refine ev_sN rfl rfl (by omega) ?_
    refine ev_inc rfl ⟨rfl, by decide⟩ rfl rfl ?_
    refine ev_nx rfl ?_
    exact k _ (by unfold bcu brn; (repeat' split) <;> omega)
theorem lp_crT6 (ok : lok K S G c t j) {s f : Nat} {l5 l6 : Option Value} {T : Nat} (k : Ev (d + 1) m_X9_carries 96 [some (.ref 0), some (.ref 6), some (.int (nI s)), some (.int (nI f)), some (.int (nI T)), l5, l6] [] (XM z y st (ll K S G c t j) be ge re rk br pt_ wo) Q) : ∀ (n q : Nat), q + n = 4 → T = gE j q n → Ev (d + 1) m_X9_carries 73 [some (.ref 0), some (.ref 6), some (.int (nI s)), some (.int (nI f)), some (.int (nI q)), l5, l6] [] (XM z y st (ll K S G c t j) be ge re rk br pt_ wo) Q := by
  have hl := ll_len ok
  intro n
  induction n with
  | zero =>
    intro q hq hT
    rw [gE] at hT
    subst hT
    iterate 3 refine ev_nx rfl ?_
    refine ev_ge (fun b76 => ?_) (fun b76 => absurd b76 (by omega))
    exact k
  | succ n ih =>
    intro q hq hT
    rw [gE] at hT
    have hb := bt_lt j q
    iterate 3 refine ev_nx rfl ?_
    refine ev_ge (fun b76 => absurd b76 (by omega)) (fun b76 => ?_)
    iterate 3 refine ev_nx rfl ?_
    refine ev_add rfl ?_
    refine ev_lN rfl rfl (by omega) ?_
    rw [ll_j q (by omega)]
    iterate 2 refine ev_nx rfl ?_
    refine ev_ne (fun b87 => ?_) (fun b87 => ?_)
    · rw [if_neg (by omega)] at hT
      subst hT
      exact k
    · refine ev_inc rfl ⟨rfl, by decide⟩ rfl rfl ?_
      refine ev_nx rfl ?_
      exact ih (q + 1) (by omega) (by rw [hT, if_pos (by omega)])
theorem lp_crM6 (hbe : be.length = 5) (hb3 : ∀ s ∈ be, s < 3) {s f q : Nat} (hq : q < 5) : ∀ (n p a b : Nat), p + n = q + 1 → a + n ≤ 10 → b + n ≤ 10 → (Ev (d + 1) m_X9_carries 151 [some (.ref 0), some (.ref 6), some (.int (nI s)), some (.int (nI f)), some (.int (nI q)), some (.int (nI (a + sgc be 1 p n) - nI (b + sgc be 2 p n))), some (.int (nI (q + 1)))] [] (XM z y st nw be ge re rk br pt_ wo) Q) → Ev (d + 1) m_X9_carries 102 [some (.ref 0), some (.ref 6), some (.int (nI s)), some (.int (nI f)), some (.int (nI q)), some (.int (nI a - nI b)), some (.int (nI p))] [] (XM z y st nw be ge re rk br pt_ wo) Q := by
  intro n
  induction n with
  | zero =>
    intro p a b hp ha hb k
    obtain rfl : p = q + 1 := by omega
    iterate 3 refine ev_nx rfl ?_
    refine ev_gt (fun b106 => ?_) (fun b106 => absurd b106 (by omega))
    exact k
  | succ n ih =>
    intro p a b hp ha hb k
    have hg : be.getD p 0 < 3 := gd3 hb3 (by omega)
    rw [sgc, sgc] at k
    iterate 3 refine ev_nx rfl ?_
    refine ev_gt (fun b106 => absurd b106 (by omega)) (fun b106 => ?_)
    iterate 4 refine ev_nx rfl ?_
    refine ev_lN rfl rfl (by omega) ?_
    iterate 2 refine ev_nx rfl ?_
    refine ev_ne (fun b119 => ?_) (fun b119 => ?_)
    · iterate 3 refine ev_nx rfl ?_
      refine ev_lN rfl rfl (by omega) ?_
      iterate 2 refine ev_nx rfl ?_
      refine ev_ne (fun b134 => ?_) (fun b134 => ?_)
      · refine ev_nx rfl ?_
        refine ev_nx rfl ?_
        first | rw [n_p1] | rw [n_m1] | rw [n_p0]
        refine ev_nx rfl ?_
        refine ev_inc rfl ⟨rfl, by decide⟩ rfl rfl ?_
        refine ev_nx rfl ?_
        refine ih (p + 1) _ _ (by omega) (by omega) (by omega) ?_
        first | (rw [if_pos b119, if_neg (by omega), ← Nat.add_assoc, ← Nat.add_assoc] at k; exact k) | (rw [if_neg b119, if_pos b134, ← Nat.add_assoc, ← Nat.add_assoc] at k; exact k) | (rw [if_neg b119, if_neg b134, ← Nat.add_assoc, ← Nat.add_assoc] at k; exact k)
      · iterate 2 refine ev_nx rfl ?_
        refine ev_nx rfl ?_
        first | rw [n_p1] | rw [n_m1] | rw [n_p0]
        refine ev_nx rfl ?_
        refine ev_inc rfl ⟨rfl, by decide⟩ rfl rfl ?_
        refine ev_nx rfl ?_
        refine ih (p + 1) _ _ (by omega) (by omega) (by omega) ?_
        first | (rw [if_pos b119, if_neg (by omega), ← Nat.add_assoc, ← Nat.add_assoc] at k; exact k) | (rw [if_neg b119, if_pos b134, ← Nat.add_assoc, ← Nat.add_assoc] at k; exact k) | (rw [if_neg b119, if_neg b134, ← Nat.add_assoc, ← Nat.add_assoc] at k; exact k)
    · iterate 2 refine ev_nx rfl ?_
      refine ev_nx rfl ?_
      first | rw [n_p1] | rw [n_m1] | rw [n_p0]
      refine ev_nx rfl ?_
      refine ev_inc rfl ⟨rfl, by decide⟩ rfl rfl ?_
      refine ev_nx rfl ?_
      refine ih (p + 1) _ _ (by omega) (by omega) (by omega) ?_
      first | (rw [if_pos b119, if_neg (by omega), ← Nat.add_assoc, ← Nat.add_assoc] at k; exact k) | (rw [if_neg b119, if_pos b134, ← Nat.add_assoc, ← Nat.add_assoc] at k; exact k) | (rw [if_neg b119, if_neg b134, ← Nat.add_assoc, ← Nat.add_assoc] at k; exact k)
theorem lp_crS6 (ok : lok K S G c t j) {s f q a b : Nat} (hq : q < 5) (ha : a < 100) (hb : b < 100) : ∀ (n p : Nat) (ge : List Nat), ge.length = 5 → p + n = q + 1 → (Ev (d + 1) m_X9_carries 203 [some (.ref 0), some (.ref 6), some (.int (nI s)), some (.int (nI f)), some (.int (nI q)), some (.int (nI a - nI b)), some (.int (nI (q + 1)))] [] (XM z y st (ll K S G c t j) be (shs c (maj a b) p n ge) re rk br pt_ wo) Q) → Ev (d + 1) m_X9_carries 154 [some (.ref 0), some (.ref 6), some (.int (nI s)), some (.int (nI f)), some (.int (nI q)), some (.int (nI a - nI b)), some (.int (nI p))] [] (XM z y st (ll K S G c t j) be ge re rk br pt_ wo) Q := by
  have hl := ll_len ok
  intro n
  induction n with
  | zero =>
    intro p ge hg hp k
    obtain rfl : p = q + 1 := by omega
    iterate 3 refine ev_nx rfl ?_
    refine ev_gt (fun b158 => ?_) (fun b158 => absurd b158 (by omega))
    exact k
  | succ n ih =>
    intro p ge hg hp k
    have hb1 := bt_lt c p
    rw [shs] at k
    have fin : ∀ v, v = (if bt c p = 0 then maj a b else 0) → Ev (d + 1) m_X9_carries 154 [some (.ref 0), some (.ref 6), some (.int (nI s)), some (.int (nI f)), some (.int (nI q)), some (.int (nI a - nI b)), some (.int (nI (p + 1)))] [] (XM z y st (ll K S G c t j) be (ge.set p v) re rk br pt_ wo) Q := fun v hv => ih (p + 1) _ (by rw [List.length_set, hg]) (by omega) (by rw [hv]; exact k)
    iterate 3 refine ev_nx rfl ?_
    refine ev_gt (fun b158 => absurd b158 (by omega)) (fun b158 => ?_)
    iterate 6 refine ev_nx rfl ?_
    refine ev_add rfl ?_
    refine ev_lN rfl rfl (by omega) ?_
    rw [ll_c p (by omega)]
    iterate 2 refine ev_nx rfl ?_
    refine ev_eq (fun b174 => ?_) (fun b174 => ?_)
    · iterate 2 refine ev_nx rfl ?_
      refine ev_sN rfl rfl (by omega) ?_
      refine ev_inc rfl ⟨rfl, by decide⟩ rfl rfl ?_
      refine ev_nx rfl ?_
      exact fin _ (by unfold maj; (repeat' split) <;> omega)
    · iterate 2 refine ev_nx rfl ?_
      refine ev_c (n_eq0 ha hb) (fun b179 => ?_) (fun b179 => ?_)
      · iterate 2 refine ev_nx rfl ?_
        refine ev_c (n_le0 ha hb).1 (fun b188 => ?_) (fun b188 => ?_)
        · refine ev_nx rfl ?_
          refine ev_sN rfl rfl (by omega) ?_
          refine ev_inc rfl ⟨rfl, by decide⟩ rfl rfl ?_
          refine ev_nx rfl ?_
          exact fin _ (by unfold maj; (repeat' split) <;> omega)
        · iterate 2 refine ev_nx rfl ?_
          refine ev_sN rfl rfl (by omega) ?_
          refine ev_inc rfl ⟨rfl, by decide⟩ rfl rfl ?_
          refine ev_nx rfl ?_
          exact fin _ (by unfold maj; (repeat' split) <;> omega)
      · iterate 2 refine ev_nx rfl ?_
        refine ev_sN rfl rfl (by omega) ?_
        refine ev_inc rfl ⟨rfl, by decide⟩ rfl rfl ?_
        refine ev_nx rfl ?_
        exact fin _ (by unfold maj; (repeat' split) <;> omega)
theorem lp_cr6 (ok : lok K S G c t j) (hbe : be.length = 5) (hb3 : ∀ s ∈ be, s < 3) {s : Nat} : ∀ (n f : Nat) (ge : List Nat) (l4 l5 l6 : Option Value), 5 ≤ f + n → f ≤ 5 → ge.length = 5 → Ev (d + 1) m_X9_carries 65 [some (.ref 0), some (.ref 6), some (.int (nI s)), some (.int (nI f)), l4, l5, l6] [] (XM z y st (ll K S G c t j) be ge re rk br pt_ wo) (rtv (XM z y st (ll K S G c t j) be (mgr c j be n f ge) re rk br pt_ wo)) := by
  intro n
  induction n with
  | zero =>
    intro f ge l4 l5 l6 hf hf5 hg
    iterate 3 refine ev_nx rfl ?_
    refine ev_ge (fun b67 => ?_) (fun b67 => absurd b67 (by omega))
    exact ev_rt rfl ⟨rfl, rfl⟩
  | succ n ih =>
    intro f ge l4 l5 l6 hf hf5 hg
    rw [mgr]
    by_cases h5 : f < 5
    · rw [if_pos h5]
      have hE := gE_le j (4 - f) f (by omega)
      have s1 := sgc_le be 1 (gE j f (4 - f) + 1 - f) f
      have s2 := sgc_le be 2 (gE j f (4 - f) + 1 - f) f
      iterate 3 refine ev_nx rfl ?_
      refine ev_ge (fun b67 => absurd b67 (by omega)) (fun b67 => ?_)
      iterate 2 refine ev_nx rfl ?_
      refine lp_crT6 ok ?_ (4 - f) f (by omega) rfl
      iterate 4 refine ev_nx rfl ?_
      show Ev (d + 1) m_X9_carries 102 [some (.ref 0), some (.ref 6), some (.int (nI s)), some (.int (nI f)), some (.int (nI (gE j f (4 - f)))), some (.int (nI 0 - nI 0)), some (.int (nI f))] [] _ _
      refine lp_crM6 hbe hb3 (by omega) (gE j f (4 - f) + 1 - f) f 0 0 (by omega) (by omega) (by omega) ?_
      rw [Nat.zero_add, Nat.zero_add]
      iterate 2 refine ev_nx rfl ?_
      refine lp_crS6 ok (by omega) (by omega) (by omega) (gE j f (4 - f) + 1 - f) f ge hg (by omega) ?_
      iterate 2 refine ev_nx rfl ?_
      refine ev_add rfl ?_
      iterate 2 refine ev_nx rfl ?_
      exact ih (gE j f (4 - f) + 1) _ _ _ _ (by omega) (by omega) (by rw [shs_len, hg])
    · rw [if_neg h5]
      iterate 3 refine ev_nx rfl ?_
      refine ev_ge (fun b67 => ?_) (fun b67 => absurd b67 (by omega))
      exact ev_rt rfl ⟨rfl, rfl⟩
theorem f_carriesR6 (ok : lok K S G c t j) (hbe : be.length = 5) (hge : ge.length = 5) {s : Nat} (hs : s < 31) : Ec (d + 1) m_X9_carries [.ref 0, .ref 6, .int (nI s)] (XM z y st (ll K S G c t j) be ge re rk br pt_ wo) (rtv (XM z y st (ll K S G c t j) (crb s c t) (mgr c j (crb s c t) 5 0 ge) re rk br pt_ wo)) := by
  refine ec_in [some (.ref 0), some (.ref 6), some (.int (nI s)), none, none, none, none] rfl rfl ?_
  obtain ⟨b0, b1, b2, b3, b4, rfl⟩ := l5 hbe
  iterate 2 refine ev_nx rfl ?_
  refine it_crA6 (p := 0) ok hs (by omega) rfl ?_
  rintro _ rfl
  refine it_crA6 (p := 1) ok hs (by omega) rfl ?_
  rintro _ rfl
  refine it_crA6 (p := 2) ok hs (by omega) rfl ?_
  rintro _ rfl
  refine it_crA6 (p := 3) ok hs (by omega) rfl ?_
  rintro _ rfl
  refine it_crA6 (p := 4) ok hs (by omega) rfl ?_
  rintro _ rfl
  iterate 3 refine ev_nx rfl ?_
  refine ev_ge (fun b4 => ?_) (fun b4 => absurd b4 (by omega))
  iterate 2 refine ev_nx rfl ?_
  exact lp_cr6 (be := crb s c t) ok rfl (crb_lt hs) 5 0 ge _ _ _ (by omega) (by omega) hge
end XB
end
section
/-! the reference: what is carried is the class's; stands, beat, readOf -/
section XC
variable {d : Nat} {h : aH} {Q : Option Value → aH → Prop} {z : aZ} {y : aY} {st nw be ge re rk br pt_ : List Nat} {wo : List Int32} {K S G C : List Nat} {c t j : Nat}
theorem e5 {a0 a1 a2 a3 a4 c0 c1 c2 c3 c4 : Nat} (h0 : a0 = c0) (h1 : a1 = c1) (h2 : a2 = c2) (h3 : a3 = c3) (h4 : a4 = c4) : [a0, a1, a2, a3, a4] = [c0, c1, c2, c3, c4] := by subst h0 h1 h2 h3 h4; rfl
theorem vI {a b : Nat} (e : a = b) : some (Value.int (nI a)) = some (Value.int (nI b)) := by rw [e]
theorem sg1 {c p b : Nat} (hb : b < 3 ∧ (¬ bt c p = 0 → b = 0)) : (if bt c p = 0 then maj ((if b = 1 then 1 else 0) + 0) ((if b = 2 then 1 else 0) + 0) else 0) = b := by
  unfold maj; (repeat' split) <;> omega
theorem mgr_g {b0 b1 b2 b3 b4 g0 g1 g2 g3 g4 : Nat} (h0 : b0 < 3 ∧ (¬ bt c 0 = 0 → b0 = 0)) (h1 : b1 < 3 ∧ (¬ bt c 1 = 0 → b1 = 0)) (h2 : b2 < 3 ∧ (¬ bt c 2 = 0 → b2 = 0)) (h3 : b3 < 3 ∧ (¬ bt c 3 = 0 → b3 = 0)) (h4 : b4 < 3 ∧ (¬ bt c 4 = 0 → b4 = 0)) (hj : j < 16) : mgr c j [b0, b1, b2, b3, b4] 5 0 [g0, g1, g2, g3, g4] = cst c j (cst c j (cst c j (cst c j [b0, b1, b2, b3, b4] 0) 1) 2) 3 := by
  rcases (show j = 0 ∨ j = 1 ∨ j = 2 ∨ j = 3 ∨ j = 4 ∨ j = 5 ∨ j = 6 ∨ j = 7 ∨ j = 8 ∨ j = 9 ∨ j = 10 ∨ j = 11 ∨ j = 12 ∨ j = 13 ∨ j = 14 ∨ j = 15 by omega) with rfl | rfl | rfl | rfl | rfl | rfl | rfl | rfl | rfl | rfl | rfl | rfl | rfl | rfl | rfl | rfl <;>
  exact e5 (by first | exact sg1 h0 | rfl) (by first | exact sg1 h1 | rfl) (by first | exact sg1 h2 | rfl) (by first | exact sg1 h3 | rfl) (by first | exact sg1 h4 | rfl)
theorem bcu_ok {s p : Nat} (hs : s < 31) (hp : p < 5) : bcu c t (pt s p) p < 3 ∧ (¬ bt c p = 0 → bcu c t (pt s p) p = 0) := by
  refine ⟨bcu_lt (pt_lt hs hp), fun h => ?_⟩
  have := bt_lt c p
  unfold bcu
  rw [if_pos (by omega)]
theorem mgr_cry {s : Nat} (hs : s < 31) (hj : j < 16) (hge : ge.length = 5) : mgr c j (crb s c t) 5 0 ge = cry s c t j := by
  obtain ⟨g0, g1, g2, g3, g4, rfl⟩ := l5 hge
  exact mgr_g (bcu_ok hs (by decide)) (bcu_ok hs (by decide)) (bcu_ok hs (by decide)) (bcu_ok hs (by decide)) (bcu_ok hs (by decide)) hj
theorem f_carries5 (ok : lok K S G c t j) (hbe : be.length = 5) (hge : ge.length = 5) {s : Nat} (hs : s < 31) : Ec (d + 1) m_X9_carries [.ref 0, .ref 5, .int (nI s)] (XM z y (ll K S G c t j) nw be ge re rk br pt_ wo) (rtv (XM z y (ll K S G c t j) nw (crb s c t) (cry s c t j) re rk br pt_ wo)) := by
  have := f_carriesR5 (d := d) (z := z) (y := y) (nw := nw) (re := re) (rk := rk) (br := br) (pt_ := pt_) (wo := wo) ok hbe hge hs
  rw [mgr_cry hs ok.2.2.2.2.2 hge] at this
  exact this
theorem f_stiff5 (ok : lok K S G c t j) (hC : C.length = 5) (hC3 : ∀ s ∈ C, s < 3) {p : Nat} (hp : p < 5) : Ec d m_X9_stiff [.ref 0, .ref 5, .int (nI p)] (XM z y (ll K S G c t j) nw be C re rk br pt_ wo) (rt (.int (nI (stf (C.getD p 0) (G.getD p 0)))) (XM z y (ll K S G c t j) nw be C re rk br pt_ wo)) := by
  refine ec_in [some (.ref 0), some (.ref 5), some (.int (nI p))] rfl rfl ?_
  have hl := ll_len ok
  have h1 : C.getD p 0 < 3 := gd3 hC3 (by omega)
  have h2 : G.getD p 0 < 3 := gd3 ok.2.2.1.2 (by have := ok.2.2.1.1; omega)
  iterate 3 refine ev_nx rfl ?_
  refine ev_lN rfl rfl (by first | omega | (simp only [List.length_set, List.length_replicate]; omega)) ?_
  iterate 3 refine ev_nx rfl ?_
  refine ev_add rfl ?_
  refine ev_lN rfl rfl (by omega) ?_
  rw [ll_G ok p hp]
  refine ev_nx rfl ?_
  refine ev_ne (fun b12 => ?_) (fun b12 => ?_)
  · refine ev_nx rfl ?_
    exact ev_ri rfl rfl rfl ⟨by rw [stf]; first | rw [if_neg b12] | rw [if_pos b12], rfl⟩
  · iterate 3 refine ev_nx rfl ?_
    refine ev_lN rfl rfl (by first | omega | (simp only [List.length_set, List.length_replicate]; omega)) ?_
    refine ev_nx rfl ?_
    exact ev_ri rfl rfl rfl ⟨by rw [stf]; first | rw [if_neg b12] | rw [if_pos b12], rfl⟩
theorem f_stands5 (ok : lok K S G c t j) (hC : C.length = 5) (hC3 : ∀ s ∈ C, s < 3) {p : Nat} (hp : p < 5) : Ec (d + 1) m_X9_stands [.ref 0, .ref 5, .int (nI p)] (XM z y (ll K S G c t j) nw be C re rk br pt_ wo) (rt (.int (nI (sb K C S G p))) (XM z y (ll K S G c t j) nw be C re rk br pt_ wo)) := by
  refine ec_in [some (.ref 0), some (.ref 5), some (.int (nI p)), none] rfl rfl ?_
  have hl := ll_len ok
  have h1 : C.getD p 0 < 3 := gd3 hC3 (by omega)
  have h2 : G.getD p 0 < 3 := gd3 ok.2.2.1.2 (by have := ok.2.2.1.1; omega)
  have h3 : K.getD p 0 < 6 := gd3 ok.1.2 (by have := ok.1.1; omega)
  have h4 : stf (C.getD p 0) (G.getD p 0) < 3 := stf_lt h1
  unfold sb
  iterate 3 refine ev_nx rfl ?_
  refine ev_lN rfl rfl (by first | omega | (simp only [List.length_set, List.length_replicate]; omega)) ?_
  iterate 4 refine ev_nx rfl ?_
  refine ev_add rfl ?_
  refine ev_lN rfl rfl (by omega) ?_
  rw [ll_K ok p hp]
  skip
  rcases (show K.getD p 0 = 0 ∨ K.getD p 0 = 1 ∨ K.getD p 0 = 2 ∨ K.getD p 0 = 3 ∨ K.getD p 0 = 4 ∨ K.getD p 0 = 5 by omega) with e | e | e | e | e | e <;> rw [e]
  · refine ev_nx (pc' := 116) rfl ?_
    refine ev_nx rfl ?_
    exact ev_ri rfl rfl rfl ⟨rfl, rfl⟩
  · refine ev_nx (pc' := 48) rfl ?_
    iterate 3 refine ev_nx rfl ?_
    refine ev_vi rfl rfl rfl rfl rfl rfl rfl rfl (f_stiff5 ok hC hC3 hp) ?_
    exact ev_ri rfl rfl rfl ⟨rfl, rfl⟩
  · refine ev_nx (pc' := 55) rfl ?_
    iterate 2 refine ev_nx rfl ?_
    refine ev_ne0 (fun b56 => ?_) (fun b56 => ?_)
    · refine ev_nx rfl ?_
      exact ev_ri rfl rfl rfl ⟨by simp only [stn]; first | rw [if_neg b56] | rw [if_pos b56], rfl⟩
    · iterate 3 refine ev_nx rfl ?_
      refine ev_add rfl ?_
      refine ev_lN rfl rfl (by omega) ?_
      rw [ll_G ok p hp]
      refine ev_nx rfl ?_
      exact ev_ri rfl rfl rfl ⟨by simp only [stn]; first | rw [if_neg b56] | rw [if_pos b56], rfl⟩
  · refine ev_nx (pc' := 70) rfl ?_
    iterate 2 refine ev_nx rfl ?_
    refine ev_ne0 (fun b71 => ?_) (fun b71 => ?_)
    · iterate 2 refine ev_nx rfl ?_
      exact ev_ri rfl rfl rfl ⟨vI (by simp only [stn, ahd]; (repeat' split) <;> omega), rfl⟩
    · iterate 2 refine ev_nx rfl ?_
      refine ev_ne0 (fun b75 => ?_) (fun b75 => ?_)
      · iterate 4 refine ev_nx rfl ?_
        refine ev_sub rfl (by omega) ?_
        refine ev_lN rfl rfl (by first | omega | (simp only [List.length_set, List.length_replicate]; omega)) ?_
        exact ev_ri rfl rfl rfl ⟨vI (by simp only [stn, ahd]; (repeat' split) <;> omega), rfl⟩
      · iterate 2 refine ev_nx rfl ?_
        exact ev_ri rfl rfl rfl ⟨vI (by simp only [stn, ahd]; (repeat' split) <;> omega), rfl⟩
  · refine ev_nx (pc' := 91) rfl ?_
    iterate 3 refine ev_nx rfl ?_
    refine ev_vi rfl rfl rfl rfl rfl rfl rfl rfl (f_stiff5 ok hC hC3 hp) ?_
    refine ev_ci rfl rfl (f_other _ (by omega) _) ?_
    exact ev_ri rfl rfl rfl ⟨rfl, rfl⟩
  · refine ev_nx (pc' := 101) rfl ?_
    iterate 2 refine ev_nx rfl ?_
    refine ev_ne0 (fun b102 => ?_) (fun b102 => ?_)
    · refine ev_nx rfl ?_
      exact ev_ri rfl rfl rfl ⟨by simp only [stn]; first | rw [if_neg b102] | rw [if_pos b102], rfl⟩
    · iterate 3 refine ev_nx rfl ?_
      refine ev_add rfl ?_
      refine ev_lN rfl rfl (by omega) ?_
      rw [ll_S ok p hp]
      refine ev_nx rfl ?_
      exact ev_ri rfl rfl rfl ⟨by simp only [stn]; first | rw [if_neg b102] | rw [if_pos b102], rfl⟩
theorem it_bS5 (ok : lok K S G c t j) (hC : C.length = 5) (hC3 : ∀ s ∈ C, s < 3) {s p : Nat} (hp : p < 5) (k : lok K (S.set p (sb K C S G p)) G c t j → Ev (d + 2) m_X9_beat 8 [some (.ref 0), some (.ref 5), some (.int (nI s)), some (.int (nI (p + 1)))] [] (XM z y (ll K (S.set p (sb K C S G p)) G c t j) nw be C re rk br pt_ wo) Q) : Ev (d + 2) m_X9_beat 8 [some (.ref 0), some (.ref 5), some (.int (nI s)), some (.int (nI p))] [] (XM z y (ll K S G c t j) nw be C re rk br pt_ wo) Q := by
  have hl := ll_len ok
  have ok2 : lok K (S.set p (sb K C S G p)) G c t j := ⟨ok.1, ⟨by rw [List.length_set]; exact ok.2.1.1, l_set_lt ok.2.1.2 (sb_lt hC hC3 ok.2.1.1 ok.2.1.2 ok.2.2.1.1 ok.2.2.1.2 hp)⟩, ok.2.2⟩
  iterate 3 refine ev_nx rfl ?_
  refine ev_ge (fun b10 => absurd b10 (by omega)) (fun b10 => ?_)
  iterate 3 refine ev_nx rfl ?_
  refine ev_add rfl ?_
  iterate 3 refine ev_nx rfl ?_
  refine ev_vi rfl rfl rfl rfl rfl rfl rfl rfl (f_stands5 ok hC hC3 hp) ?_
  refine ev_sN rfl rfl (by omega) ?_
  rw [ll_sS ok.1.1 ok.2.1.1 p _ hp]
  refine ev_inc rfl ⟨rfl, by decide⟩ rfl rfl ?_
  refine ev_nx rfl ?_
  exact k ok2
theorem it_bG5 (ok : lok K S G c t j) (hC : C.length = 5) (hC3 : ∀ s ∈ C, s < 3) {s p : Nat} (hp : p < 5) (k : lok K S (G.set p (C.getD p 0)) c t j → Ev (d + 2) m_X9_beat 33 [some (.ref 0), some (.ref 5), some (.int (nI s)), some (.int (nI (p + 1)))] [] (XM z y (ll K S (G.set p (C.getD p 0)) c t j) nw be C re rk br pt_ wo) Q) : Ev (d + 2) m_X9_beat 33 [some (.ref 0), some (.ref 5), some (.int (nI s)), some (.int (nI p))] [] (XM z y (ll K S G c t j) nw be C re rk br pt_ wo) Q := by
  have hl := ll_len ok
  have ok2 : lok K S (G.set p (C.getD p 0)) c t j := ⟨ok.1, ok.2.1, ⟨by rw [List.length_set]; exact ok.2.2.1.1, l_set_lt ok.2.2.1.2 (gd3 hC3 (by omega))⟩, ok.2.2.2⟩
  iterate 3 refine ev_nx rfl ?_
  refine ev_ge (fun b35 => absurd b35 (by omega)) (fun b35 => ?_)
  iterate 3 refine ev_nx rfl ?_
  refine ev_add rfl ?_
  iterate 3 refine ev_nx rfl ?_
  refine ev_lN rfl rfl (by omega) ?_
  refine ev_sN rfl rfl (by omega) ?_
  rw [ll_sG ok.1.1 ok.2.1.1 ok.2.2.1.1 p _ hp]
  refine ev_inc rfl ⟨rfl, by decide⟩ rfl rfl ?_
  refine ev_nx rfl ?_
  exact k ok2
theorem f_beat5 (ok : lok K S G c t j) (hbe : be.length = 5) (hge : ge.length = 5) {s : Nat} (hs : s < 31) : Ec (d + 2) m_X9_beat [.ref 0, .ref 5, .int (nI s)] (XM z y (ll K S G c t j) nw be ge re rk br pt_ wo) (rtv (XM z y (ll K (bst K (cry s c t j) S G) (cry s c t j) c t j) nw (crb s c t) (cry s c t j) re rk br pt_ wo)) := by
  refine ec_in [some (.ref 0), some (.ref 5), some (.int (nI s)), none] rfl rfl ?_
  iterate 3 refine ev_nx rfl ?_
  refine ev_vv rfl rfl rfl rfl rfl rfl rfl rfl (f_carries5 ok hbe hge hs) ?_
  iterate 2 refine ev_nx rfl ?_
  skip
  have hC := cry_len (s := s) (c := c) (t := t) (j := j)
  have hC3 := cry_lt (c := c) (t := t) (j := j) hs
  generalize cry s c t j = C at hC hC3 ⊢
  obtain ⟨s0, s1, s2, s3, s4, rfl⟩ := l5 ok.2.1.1
  obtain ⟨g0, g1, g2, g3, g4, rfl⟩ := l5 ok.2.2.1.1
  obtain ⟨x0, x1, x2, x3, x4, rfl⟩ := l5 hC
  refine it_bS5 (p := 0) ok rfl hC3 (by omega) (fun ok => ?_)
  refine it_bS5 (p := 1) ok rfl hC3 (by omega) (fun ok => ?_)
  refine it_bS5 (p := 2) ok rfl hC3 (by omega) (fun ok => ?_)
  refine it_bS5 (p := 3) ok rfl hC3 (by omega) (fun ok => ?_)
  refine it_bS5 (p := 4) ok rfl hC3 (by omega) (fun ok => ?_)
  iterate 3 refine ev_nx rfl ?_
  refine ev_ge (fun b10 => ?_) (fun b10 => absurd b10 (by omega))
  iterate 2 refine ev_nx rfl ?_
  skip
  refine it_bG5 (p := 0) ok rfl hC3 (by omega) (fun ok => ?_)
  refine it_bG5 (p := 1) ok rfl hC3 (by omega) (fun ok => ?_)
  refine it_bG5 (p := 2) ok rfl hC3 (by omega) (fun ok => ?_)
  refine it_bG5 (p := 3) ok rfl hC3 (by omega) (fun ok => ?_)
  refine it_bG5 (p := 4) ok rfl hC3 (by omega) (fun ok => ?_)
  iterate 3 refine ev_nx rfl ?_
  refine ev_ge (fun b35 => ?_) (fun b35 => absurd b35 (by omega))
  exact ev_rt rfl ⟨rfl, rfl⟩
theorem f_carries6 (ok : lok K S G c t j) (hbe : be.length = 5) (hge : ge.length = 5) {s : Nat} (hs : s < 31) : Ec (d + 1) m_X9_carries [.ref 0, .ref 6, .int (nI s)] (XM z y st (ll K S G c t j) be ge re rk br pt_ wo) (rtv (XM z y st (ll K S G c t j) (crb s c t) (cry s c t j) re rk br pt_ wo)) := by
  have := f_carriesR6 (d := d) (z := z) (y := y) (st := st) (re := re) (rk := rk) (br := br) (pt_ := pt_) (wo := wo) ok hbe hge hs
  rw [mgr_cry hs ok.2.2.2.2.2 hge] at this
  exact this
theorem f_stiff6 (ok : lok K S G c t j) (hC : C.length = 5) (hC3 : ∀ s ∈ C, s < 3) {p : Nat} (hp : p < 5) : Ec d m_X9_stiff [.ref 0, .ref 6, .int (nI p)] (XM z y st (ll K S G c t j) be C re rk br pt_ wo) (rt (.int (nI (stf (C.getD p 0) (G.getD p 0)))) (XM z y st (ll K S G c t j) be C re rk br pt_ wo)) := by
  refine ec_in [some (.ref 0), some (.ref 6), some (.int (nI p))] rfl rfl ?_
  have hl := ll_len ok
  have h1 : C.getD p 0 < 3 := gd3 hC3 (by omega)
  have h2 : G.getD p 0 < 3 := gd3 ok.2.2.1.2 (by have := ok.2.2.1.1; omega)
  iterate 3 refine ev_nx rfl ?_
  refine ev_lN rfl rfl (by first | omega | (simp only [List.length_set, List.length_replicate]; omega)) ?_
  iterate 3 refine ev_nx rfl ?_
  refine ev_add rfl ?_
  refine ev_lN rfl rfl (by omega) ?_
  rw [ll_G ok p hp]
  refine ev_nx rfl ?_
  refine ev_ne (fun b12 => ?_) (fun b12 => ?_)
  · refine ev_nx rfl ?_
    exact ev_ri rfl rfl rfl ⟨by rw [stf]; first | rw [if_neg b12] | rw [if_pos b12], rfl⟩
  · iterate 3 refine ev_nx rfl ?_
    refine ev_lN rfl rfl (by first | omega | (simp only [List.length_set, List.length_replicate]; omega)) ?_
    refine ev_nx rfl ?_
    exact ev_ri rfl rfl rfl ⟨by rw [stf]; first | rw [if_neg b12] | rw [if_pos b12], rfl⟩
theorem f_stands6 (ok : lok K S G c t j) (hC : C.length = 5) (hC3 : ∀ s ∈ C, s < 3) {p : Nat} (hp : p < 5) : Ec (d + 1) m_X9_stands [.ref 0, .ref 6, .int (nI p)] (XM z y st (ll K S G c t j) be C re rk br pt_ wo) (rt (.int (nI (sb K C S G p))) (XM z y st (ll K S G c t j) be C re rk br pt_ wo)) := by
  refine ec_in [some (.ref 0), some (.ref 6), some (.int (nI p)), none] rfl rfl ?_
  have hl := ll_len ok
  have h1 : C.getD p 0 < 3 := gd3 hC3 (by omega)
  have h2 : G.getD p 0 < 3 := gd3 ok.2.2.1.2 (by have := ok.2.2.1.1; omega)
  have h3 : K.getD p 0 < 6 := gd3 ok.1.2 (by have := ok.1.1; omega)
  have h4 : stf (C.getD p 0) (G.getD p 0) < 3 := stf_lt h1
  unfold sb
  iterate 3 refine ev_nx rfl ?_
  refine ev_lN rfl rfl (by first | omega | (simp only [List.length_set, List.length_replicate]; omega)) ?_
  iterate 4 refine ev_nx rfl ?_
  refine ev_add rfl ?_
  refine ev_lN rfl rfl (by omega) ?_
  rw [ll_K ok p hp]
  skip
  rcases (show K.getD p 0 = 0 ∨ K.getD p 0 = 1 ∨ K.getD p 0 = 2 ∨ K.getD p 0 = 3 ∨ K.getD p 0 = 4 ∨ K.getD p 0 = 5 by omega) with e | e | e | e | e | e <;> rw [e]
  · refine ev_nx (pc' := 116) rfl ?_
    refine ev_nx rfl ?_
    exact ev_ri rfl rfl rfl ⟨rfl, rfl⟩
  · refine ev_nx (pc' := 48) rfl ?_
    iterate 3 refine ev_nx rfl ?_
    refine ev_vi rfl rfl rfl rfl rfl rfl rfl rfl (f_stiff6 ok hC hC3 hp) ?_
    exact ev_ri rfl rfl rfl ⟨rfl, rfl⟩
  · refine ev_nx (pc' := 55) rfl ?_
    iterate 2 refine ev_nx rfl ?_
    refine ev_ne0 (fun b56 => ?_) (fun b56 => ?_)
    · refine ev_nx rfl ?_
      exact ev_ri rfl rfl rfl ⟨by simp only [stn]; first | rw [if_neg b56] | rw [if_pos b56], rfl⟩
    · iterate 3 refine ev_nx rfl ?_
      refine ev_add rfl ?_
      refine ev_lN rfl rfl (by omega) ?_
      rw [ll_G ok p hp]
      refine ev_nx rfl ?_
      exact ev_ri rfl rfl rfl ⟨by simp only [stn]; first | rw [if_neg b56] | rw [if_pos b56], rfl⟩
  · refine ev_nx (pc' := 70) rfl ?_
    iterate 2 refine ev_nx rfl ?_
    refine ev_ne0 (fun b71 => ?_) (fun b71 => ?_)
    · iterate 2 refine ev_nx rfl ?_
      exact ev_ri rfl rfl rfl ⟨vI (by simp only [stn, ahd]; (repeat' split) <;> omega), rfl⟩
    · iterate 2 refine ev_nx rfl ?_
      refine ev_ne0 (fun b75 => ?_) (fun b75 => ?_)
      · iterate 4 refine ev_nx rfl ?_
        refine ev_sub rfl (by omega) ?_
        refine ev_lN rfl rfl (by first | omega | (simp only [List.length_set, List.length_replicate]; omega)) ?_
        exact ev_ri rfl rfl rfl ⟨vI (by simp only [stn, ahd]; (repeat' split) <;> omega), rfl⟩
      · iterate 2 refine ev_nx rfl ?_
        exact ev_ri rfl rfl rfl ⟨vI (by simp only [stn, ahd]; (repeat' split) <;> omega), rfl⟩
  · refine ev_nx (pc' := 91) rfl ?_
    iterate 3 refine ev_nx rfl ?_
    refine ev_vi rfl rfl rfl rfl rfl rfl rfl rfl (f_stiff6 ok hC hC3 hp) ?_
    refine ev_ci rfl rfl (f_other _ (by omega) _) ?_
    exact ev_ri rfl rfl rfl ⟨rfl, rfl⟩
  · refine ev_nx (pc' := 101) rfl ?_
    iterate 2 refine ev_nx rfl ?_
    refine ev_ne0 (fun b102 => ?_) (fun b102 => ?_)
    · refine ev_nx rfl ?_
      exact ev_ri rfl rfl rfl ⟨by simp only [stn]; first | rw [if_neg b102] | rw [if_pos b102], rfl⟩
    · iterate 3 refine ev_nx rfl ?_
      refine ev_add rfl ?_
      refine ev_lN rfl rfl (by omega) ?_
      rw [ll_S ok p hp]
      refine ev_nx rfl ?_
      exact ev_ri rfl rfl rfl ⟨by simp only [stn]; first | rw [if_neg b102] | rw [if_pos b102], rfl⟩
theorem it_bS6 (ok : lok K S G c t j) (hC : C.length = 5) (hC3 : ∀ s ∈ C, s < 3) {s p : Nat} (hp : p < 5) (k : lok K (S.set p (sb K C S G p)) G c t j → Ev (d + 2) m_X9_beat 8 [some (.ref 0), some (.ref 6), some (.int (nI s)), some (.int (nI (p + 1)))] [] (XM z y st (ll K (S.set p (sb K C S G p)) G c t j) be C re rk br pt_ wo) Q) : Ev (d + 2) m_X9_beat 8 [some (.ref 0), some (.ref 6), some (.int (nI s)), some (.int (nI p))] [] (XM z y st (ll K S G c t j) be C re rk br pt_ wo) Q := by
  have hl := ll_len ok
  have ok2 : lok K (S.set p (sb K C S G p)) G c t j := ⟨ok.1, ⟨by rw [List.length_set]; exact ok.2.1.1, l_set_lt ok.2.1.2 (sb_lt hC hC3 ok.2.1.1 ok.2.1.2 ok.2.2.1.1 ok.2.2.1.2 hp)⟩, ok.2.2⟩
  iterate 3 refine ev_nx rfl ?_
  refine ev_ge (fun b10 => absurd b10 (by omega)) (fun b10 => ?_)
  iterate 3 refine ev_nx rfl ?_
  refine ev_add rfl ?_
  iterate 3 refine ev_nx rfl ?_
  refine ev_vi rfl rfl rfl rfl rfl rfl rfl rfl (f_stands6 ok hC hC3 hp) ?_
  refine ev_sN rfl rfl (by omega) ?_
  rw [ll_sS ok.1.1 ok.2.1.1 p _ hp]
  refine ev_inc rfl ⟨rfl, by decide⟩ rfl rfl ?_
  refine ev_nx rfl ?_
  exact k ok2
theorem it_bG6 (ok : lok K S G c t j) (hC : C.length = 5) (hC3 : ∀ s ∈ C, s < 3) {s p : Nat} (hp : p < 5) (k : lok K S (G.set p (C.getD p 0)) c t j → Ev (d + 2) m_X9_beat 33 [some (.ref 0), some (.ref 6), some (.int (nI s)), some (.int (nI (p + 1)))] [] (XM z y st (ll K S (G.set p (C.getD p 0)) c t j) be C re rk br pt_ wo) Q) : Ev (d + 2) m_X9_beat 33 [some (.ref 0), some (.ref 6), some (.int (nI s)), some (.int (nI p))] [] (XM z y st (ll K S G c t j) be C re rk br pt_ wo) Q := by
  have hl := ll_len ok
  have ok2 : lok K S (G.set p (C.getD p 0)) c t j := ⟨ok.1, ok.2.1, ⟨by rw [List.length_set]; exact ok.2.2.1.1, l_set_lt ok.2.2.1.2 (gd3 hC3 (by omega))⟩, ok.2.2.2⟩
  iterate 3 refine ev_nx rfl ?_
  refine ev_ge (fun b35 => absurd b35 (by omega)) (fun b35 => ?_)
  iterate 3 refine ev_nx rfl ?_
  refine ev_add rfl ?_
  iterate 3 refine ev_nx rfl ?_
  refine ev_lN rfl rfl (by omega) ?_
  refine ev_sN rfl rfl (by omega) ?_
  rw [ll_sG ok.1.1 ok.2.1.1 ok.2.2.1.1 p _ hp]
  refine ev_inc rfl ⟨rfl, by decide⟩ rfl rfl ?_
  refine ev_nx rfl ?_
  exact k ok2
theorem f_beat6 (ok : lok K S G c t j) (hbe : be.length = 5) (hge : ge.length = 5) {s : Nat} (hs : s < 31) : Ec (d + 2) m_X9_beat [.ref 0, .ref 6, .int (nI s)] (XM z y st (ll K S G c t j) be ge re rk br pt_ wo) (rtv (XM z y st (ll K (bst K (cry s c t j) S G) (cry s c t j) c t j) (crb s c t) (cry s c t j) re rk br pt_ wo)) := by
  refine ec_in [some (.ref 0), some (.ref 6), some (.int (nI s)), none] rfl rfl ?_
  iterate 3 refine ev_nx rfl ?_
  refine ev_vv rfl rfl rfl rfl rfl rfl rfl rfl (f_carries6 ok hbe hge hs) ?_
  iterate 2 refine ev_nx rfl ?_
  skip
  have hC := cry_len (s := s) (c := c) (t := t) (j := j)
  have hC3 := cry_lt (c := c) (t := t) (j := j) hs
  generalize cry s c t j = C at hC hC3 ⊢
  obtain ⟨s0, s1, s2, s3, s4, rfl⟩ := l5 ok.2.1.1
  obtain ⟨g0, g1, g2, g3, g4, rfl⟩ := l5 ok.2.2.1.1
  obtain ⟨x0, x1, x2, x3, x4, rfl⟩ := l5 hC
  refine it_bS6 (p := 0) ok rfl hC3 (by omega) (fun ok => ?_)
  refine it_bS6 (p := 1) ok rfl hC3 (by omega) (fun ok => ?_)
  refine it_bS6 (p := 2) ok rfl hC3 (by omega) (fun ok => ?_)
  refine it_bS6 (p := 3) ok rfl hC3 (by omega) (fun ok => ?_)
  refine it_bS6 (p := 4) ok rfl hC3 (by omega) (fun ok => ?_)
  iterate 3 refine ev_nx rfl ?_
  refine ev_ge (fun b10 => ?_) (fun b10 => absurd b10 (by omega))
  iterate 2 refine ev_nx rfl ?_
  skip
  refine it_bG6 (p := 0) ok rfl hC3 (by omega) (fun ok => ?_)
  refine it_bG6 (p := 1) ok rfl hC3 (by omega) (fun ok => ?_)
  refine it_bG6 (p := 2) ok rfl hC3 (by omega) (fun ok => ?_)
  refine it_bG6 (p := 3) ok rfl hC3 (by omega) (fun ok => ?_)
  refine it_bG6 (p := 4) ok rfl hC3 (by omega) (fun ok => ?_)
  iterate 3 refine ev_nx rfl ?_
  refine ev_ge (fun b35 => ?_) (fun b35 => absurd b35 (by omega))
  exact ev_rt rfl ⟨rfl, rfl⟩
end XC
end
section
/-! the reference: readOf, asItIs, rests, sent -/
section XD
variable {d : Nat} {h : aH} {Q : Option Value → aH → Prop} {z : aZ} {y : aY} {st nw be ge re rk br pt_ : List Nat} {wo : List Int32} {K S G C : List Nat} {c t j : Nat}
/-- is it the sign's row, from a place on -/
def isg (S : List Nat) (s : Nat) : Nat → Nat → Nat → Nat
  | 0, _, i => i
  | r + 1, p, i => isg S s r (p + 1) (if i = 0 then 0 else if S.getD p 0 = pt s p then 1 else 0)
/-- the first sign whose row it is -/
def mrd (S : List Nat) : Nat → Nat → Nat
  | 0, _ => 31
  | r + 1, s => if isg S s 5 0 1 = 0 then mrd S r (s + 1) else s
theorem mrd_rd : ∀ a b c d e : Fin 3, mrd [a.val, b.val, c.val, d.val, e.val] 31 0 = rdS [a.val, b.val, c.val, d.val, e.val] := by decide +kernel
theorem mrd_eq (hS : S.length = 5) (hS3 : ∀ s ∈ S, s < 3) : mrd S 31 0 = rdS S := by
  obtain ⟨s0, s1, s2, s3, s4, rfl⟩ := l5 hS
  exact mrd_rd ⟨s0, hS3 _ (by simp)⟩ ⟨s1, hS3 _ (by simp)⟩ ⟨s2, hS3 _ (by simp)⟩ ⟨s3, hS3 _ (by simp)⟩ ⟨s4, hS3 _ (by simp)⟩
theorem isg_lt {s : Nat} : ∀ r p i, i < 2 → isg S s r p i < 2 := by
  intro r
  induction r with
  | zero => intro p i h; exact h
  | succ r ih => intro p i h; rw [isg]; exact ih _ _ (by (repeat' split) <;> omega)
theorem nr2 {i : Nat} (hi : i < 2) : narrow .boolean (.int (nI i)) = .int (nI i) := by
  rcases (show i = 0 ∨ i = 1 by omega) with rfl | rfl <;> rfl
theorem f_isSign5 (ok : lok K S G c t j) {s : Nat} (hs : s < 31) : Ec d m_X9_isSign [.ref 0, .ref 5, .int (nI s)] (XM z y (ll K S G c t j) nw be ge re rk br pt_ wo) (rt (.int (nI (isg S s 5 0 1))) (XM z y (ll K S G c t j) nw be ge re rk br pt_ wo)) := by
  refine ec_in [some (.ref 0), some (.ref 5), some (.int (nI s)), none, none] rfl rfl ?_
  have hl := ll_len ok
  have H : ∀ r p i, p + r = 5 → i < 2 → Ev d m_X9_isSign 5 [some (.ref 0), some (.ref 5), some (.int (nI s)), some (.int (nI i)), some (.int (nI p))] [] (XM z y (ll K S G c t j) nw be ge re rk br pt_ wo) (rt (.int (nI (isg S s r p i))) (XM z y (ll K S G c t j) nw be ge re rk br pt_ wo)) := by
    intro r
    induction r with
    | zero =>
      intro p i hp hi
      iterate 3 refine ev_nx rfl ?_
      refine ev_ge (fun b8 => ?_) (fun b8 => absurd b8 (by omega))
      refine ev_nx rfl ?_
      exact ev_ri rfl rfl (nr2 hi) ⟨rfl, rfl⟩
    | succ r ih =>
      intro p i hp hi
      have h1 : S.getD p 0 < 3 := gd3 ok.2.1.2 (by have := ok.2.1.1; omega)
      have h2 := pt_lt hs (show p < 5 by omega)
      rw [isg]
      iterate 3 refine ev_nx rfl ?_
      refine ev_ge (fun b8 => absurd b8 (by omega)) (fun b8 => ?_)
      iterate 2 refine ev_nx rfl ?_
      refine ev_eq0 (fun b12 => ?_) (fun b12 => ?_)
      · iterate 2 refine ev_nx rfl ?_
        refine ev_inc rfl ⟨rfl, by decide⟩ rfl rfl ?_
        refine ev_nx rfl ?_
        first | rw [if_pos b12] | (rw [if_neg b12]; first | rw [if_pos b33] | rw [if_neg b33])
        exact ih (p + 1) _ (by omega) (by omega)
      · iterate 3 refine ev_nx rfl ?_
        refine ev_add rfl ?_
        refine ev_lN rfl rfl (by omega) ?_
        rw [ll_S ok p (by omega)]
        iterate 4 refine ev_nx rfl ?_
        refine ev_mul rfl ?_
        refine ev_nx rfl ?_
        refine ev_add rfl ?_
        rw [show 5 * s + p = s * 5 + p by omega]
        refine ev_lN rfl rfl ⟨show s * 5 + p < 155 by omega, by omega, by decide⟩ ?_
        show Ev _ _ _ _ (.int (nI (pt s p)) :: _) _ _
        refine ev_nx rfl ?_
        refine ev_ne (fun b33 => ?_) (fun b33 => ?_)
        · iterate 2 refine ev_nx rfl ?_
          refine ev_inc rfl ⟨rfl, by decide⟩ rfl rfl ?_
          refine ev_nx rfl ?_
          first | rw [if_pos b12] | (rw [if_neg b12]; first | rw [if_pos b33] | rw [if_neg b33])
          exact ih (p + 1) _ (by omega) (by omega)
        · iterate 3 refine ev_nx rfl ?_
          refine ev_inc rfl ⟨rfl, by decide⟩ rfl rfl ?_
          refine ev_nx rfl ?_
          first | rw [if_pos b12] | (rw [if_neg b12]; first | rw [if_pos b33] | rw [if_neg b33])
          exact ih (p + 1) _ (by omega) (by omega)
  iterate 4 refine ev_nx rfl ?_
  exact H 5 0 1 rfl (by omega)
theorem f_readOf5 (ok : lok K S G c t j) : Ec (d + 1) m_X9_readOf [.ref 0, .ref 5] (XM z y (ll K S G c t j) nw be ge re rk br pt_ wo) (rt (.int (nI (rdS S))) (XM z y (ll K S G c t j) nw be ge re rk br pt_ wo)) := by
  refine ec_in [some (.ref 0), some (.ref 5), none] rfl rfl ?_
  rw [← mrd_eq ok.2.1.1 ok.2.1.2]
  have H : ∀ r s, s + r = 31 → Ev (d + 1) m_X9_readOf 2 [some (.ref 0), some (.ref 5), some (.int (nI s))] [] (XM z y (ll K S G c t j) nw be ge re rk br pt_ wo) (rt (.int (nI (mrd S r s))) (XM z y (ll K S G c t j) nw be ge re rk br pt_ wo)) := by
    intro r
    induction r with
    | zero =>
      intro s hs
      iterate 3 refine ev_nx rfl ?_
      refine ev_gt (fun b5 => ?_) (fun b5 => absurd b5 (by omega))
      refine ev_nx rfl ?_
      exact ev_ri rfl rfl rfl ⟨rfl, rfl⟩
    | succ r ih =>
      intro s hs
      have hi := isg_lt (S := S) (s := s) 5 0 1 (by omega)
      rw [mrd]
      iterate 3 refine ev_nx rfl ?_
      refine ev_gt (fun b5 => absurd b5 (by omega)) (fun b5 => ?_)
      iterate 3 refine ev_nx rfl ?_
      refine ev_vi rfl rfl rfl rfl rfl rfl rfl rfl (f_isSign5 ok (by omega)) ?_
      refine ev_nx rfl ?_
      refine ev_eq0 (fun b14 => ?_) (fun b14 => ?_)
      · refine ev_inc rfl ⟨rfl, by decide⟩ rfl rfl ?_
        refine ev_nx rfl ?_
        rw [if_pos b14]
        exact ih (s + 1) (by omega)
      · refine ev_nx rfl ?_
        rw [if_neg b14]
        exact ev_ri rfl rfl rfl ⟨rfl, rfl⟩
  iterate 2 refine ev_nx rfl ?_
  exact H 31 0 rfl
theorem f_isSign6 (ok : lok K S G c t j) {s : Nat} (hs : s < 31) : Ec d m_X9_isSign [.ref 0, .ref 6, .int (nI s)] (XM z y st (ll K S G c t j) be ge re rk br pt_ wo) (rt (.int (nI (isg S s 5 0 1))) (XM z y st (ll K S G c t j) be ge re rk br pt_ wo)) := by
  refine ec_in [some (.ref 0), some (.ref 6), some (.int (nI s)), none, none] rfl rfl ?_
  have hl := ll_len ok
  have H : ∀ r p i, p + r = 5 → i < 2 → Ev d m_X9_isSign 5 [some (.ref 0), some (.ref 6), some (.int (nI s)), some (.int (nI i)), some (.int (nI p))] [] (XM z y st (ll K S G c t j) be ge re rk br pt_ wo) (rt (.int (nI (isg S s r p i))) (XM z y st (ll K S G c t j) be ge re rk br pt_ wo)) := by
    intro r
    induction r with
    | zero =>
      intro p i hp hi
      iterate 3 refine ev_nx rfl ?_
      refine ev_ge (fun b8 => ?_) (fun b8 => absurd b8 (by omega))
      refine ev_nx rfl ?_
      exact ev_ri rfl rfl (nr2 hi) ⟨rfl, rfl⟩
    | succ r ih =>
      intro p i hp hi
      have h1 : S.getD p 0 < 3 := gd3 ok.2.1.2 (by have := ok.2.1.1; omega)
      have h2 := pt_lt hs (show p < 5 by omega)
      rw [isg]
      iterate 3 refine ev_nx rfl ?_
      refine ev_ge (fun b8 => absurd b8 (by omega)) (fun b8 => ?_)
      iterate 2 refine ev_nx rfl ?_
      refine ev_eq0 (fun b12 => ?_) (fun b12 => ?_)
      · iterate 2 refine ev_nx rfl ?_
        refine ev_inc rfl ⟨rfl, by decide⟩ rfl rfl ?_
        refine ev_nx rfl ?_
        first | rw [if_pos b12] | (rw [if_neg b12]; first | rw [if_pos b33] | rw [if_neg b33])
        exact ih (p + 1) _ (by omega) (by omega)
      · iterate 3 refine ev_nx rfl ?_
        refine ev_add rfl ?_
        refine ev_lN rfl rfl (by omega) ?_
        rw [ll_S ok p (by omega)]
        iterate 4 refine ev_nx rfl ?_
        refine ev_mul rfl ?_
        refine ev_nx rfl ?_
        refine ev_add rfl ?_
        rw [show 5 * s + p = s * 5 + p by omega]
        refine ev_lN rfl rfl ⟨show s * 5 + p < 155 by omega, by omega, by decide⟩ ?_
        show Ev _ _ _ _ (.int (nI (pt s p)) :: _) _ _
        refine ev_nx rfl ?_
        refine ev_ne (fun b33 => ?_) (fun b33 => ?_)
        · iterate 2 refine ev_nx rfl ?_
          refine ev_inc rfl ⟨rfl, by decide⟩ rfl rfl ?_
          refine ev_nx rfl ?_
          first | rw [if_pos b12] | (rw [if_neg b12]; first | rw [if_pos b33] | rw [if_neg b33])
          exact ih (p + 1) _ (by omega) (by omega)
        · iterate 3 refine ev_nx rfl ?_
          refine ev_inc rfl ⟨rfl, by decide⟩ rfl rfl ?_
          refine ev_nx rfl ?_
          first | rw [if_pos b12] | (rw [if_neg b12]; first | rw [if_pos b33] | rw [if_neg b33])
          exact ih (p + 1) _ (by omega) (by omega)
  iterate 4 refine ev_nx rfl ?_
  exact H 5 0 1 rfl (by omega)
theorem f_readOf6 (ok : lok K S G c t j) : Ec (d + 1) m_X9_readOf [.ref 0, .ref 6] (XM z y st (ll K S G c t j) be ge re rk br pt_ wo) (rt (.int (nI (rdS S))) (XM z y st (ll K S G c t j) be ge re rk br pt_ wo)) := by
  refine ec_in [some (.ref 0), some (.ref 6), none] rfl rfl ?_
  rw [← mrd_eq ok.2.1.1 ok.2.1.2]
  have H : ∀ r s, s + r = 31 → Ev (d + 1) m_X9_readOf 2 [some (.ref 0), some (.ref 6), some (.int (nI s))] [] (XM z y st (ll K S G c t j) be ge re rk br pt_ wo) (rt (.int (nI (mrd S r s))) (XM z y st (ll K S G c t j) be ge re rk br pt_ wo)) := by
    intro r
    induction r with
    | zero =>
      intro s hs
      iterate 3 refine ev_nx rfl ?_
      refine ev_gt (fun b5 => ?_) (fun b5 => absurd b5 (by omega))
      refine ev_nx rfl ?_
      exact ev_ri rfl rfl rfl ⟨rfl, rfl⟩
    | succ r ih =>
      intro s hs
      have hi := isg_lt (S := S) (s := s) 5 0 1 (by omega)
      rw [mrd]
      iterate 3 refine ev_nx rfl ?_
      refine ev_gt (fun b5 => absurd b5 (by omega)) (fun b5 => ?_)
      iterate 3 refine ev_nx rfl ?_
      refine ev_vi rfl rfl rfl rfl rfl rfl rfl rfl (f_isSign6 ok (by omega)) ?_
      refine ev_nx rfl ?_
      refine ev_eq0 (fun b14 => ?_) (fun b14 => ?_)
      · refine ev_inc rfl ⟨rfl, by decide⟩ rfl rfl ?_
        refine ev_nx rfl ?_
        rw [if_pos b14]
        exact ih (s + 1) (by omega)
      · refine ev_nx rfl ?_
        rw [if_neg b14]
        exact ev_ri rfl rfl rfl ⟨rfl, rfl⟩
  iterate 2 refine ev_nx rfl ?_
  exact H 31 0 rfl
theorem brg_all {A : List Nat} : ∀ (n k : Nat) (B : List Nat), k + n = A.length → B.length = A.length → brg A B 0 0 n k = B.take k ++ A.drop k
  | 0, k, B, h1, h2 => by
    rw [brg, List.take_of_length_le (by omega), List.drop_eq_nil_of_le (by omega), List.append_nil]
  | n + 1, k, B, h1, h2 => by
    rw [brg, brg_all n (k + 1) _ (by omega) (by rw [List.length_set]; exact h2), Nat.zero_add, List.drop_eq_getElem_cons (i := k) (by omega), List.take_set, List.take_succ_eq_append_getElem (by omega)]
    rw [List.set_append_right k _ (by rw [List.length_take]; omega)]
    simp [List.length_take, Nat.min_eq_left (show k ≤ B.length by omega), List.getElem?_eq_getElem (show k < A.length by omega)]
theorem brg_id {A B : List Nat} {n : Nat} (h1 : A.length = n) (h2 : B.length = n) : brg A B 0 0 n 0 = A := by
  rw [brg_all n 0 B (by omega) (by omega)]; rfl
theorem f_asItIs (hs : st.length = 29) (hn : nw.length = 29) : Ec (d + 1) m_X9_asItIs [.ref 0] (XM z y st nw be ge re rk br pt_ wo) (rtv (XM z y st st be ge re rk br pt_ wo)) := by
  refine ec_in [some (.ref 0)] rfl rfl ?_
  have H := f_bring (d := d) (h := XM z y st nw be ge re rk br pt_ wo) (A := st) (B := nw) (a := 5) (b := 6) (i := 0) (k := 0) (n := 29) rfl rfl (by decide) (by decide) (by omega) (by omega)
  rw [brg_id hs hn] at H
  iterate 7 refine ev_nx rfl ?_
  refine ev_cv rfl rfl H ?_
  exact ev_rt rfl ⟨rfl, rfl⟩
/-- n numbers of a row from k on are 0 -/
def zfl : Nat → Nat → List Nat → List Nat
  | 0, _, l => l
  | n + 1, k, l => zfl n (k + 1) (l.set k 0)
theorem zfl_ll (ok : lok K S G c t j) : zfl 10 19 (ll K S G c t j) = ll K z5 z5 c t j := by
  obtain ⟨k0, k1, k2, k3, k4, rfl⟩ := l5 ok.1.1
  obtain ⟨s0, s1, s2, s3, s4, rfl⟩ := l5 ok.2.1.1
  obtain ⟨g0, g1, g2, g3, g4, rfl⟩ := l5 ok.2.2.1.1
  rfl
theorem f_rests (ok : lok K S G c t j) : Ec d m_X9_rests [.ref 0] (XM z y st (ll K S G c t j) be ge re rk br pt_ wo) (rtv (XM z y st (ll K z5 z5 c t j) be ge re rk br pt_ wo)) := by
  refine ec_in [some (.ref 0), none] rfl rfl ?_
  have hl := ll_len ok
  rw [← zfl_ll ok]
  generalize ll K S G c t j = nw at hl
  have H : ∀ r k nw, k + r = 29 → nw.length = 29 → Ev d m_X9_rests 3 [some (.ref 0), some (.int (nI k))] [] (XM z y st nw be ge re rk br pt_ wo) (rtv (XM z y st (zfl r k nw) be ge re rk br pt_ wo)) := by
    intro r
    induction r with
    | zero =>
      intro k nw hk hn
      iterate 3 refine ev_nx rfl ?_
      refine ev_ge (fun b6 => ?_) (fun b6 => absurd b6 (by omega))
      exact ev_rt rfl ⟨rfl, rfl⟩
    | succ r ih =>
      intro k nw hk hn
      iterate 3 refine ev_nx rfl ?_
      refine ev_ge (fun b6 => absurd b6 (by omega)) (fun b6 => ?_)
      iterate 4 refine ev_nx rfl ?_
      refine ev_sN rfl rfl (by first | omega | (simp only [List.length_set, List.length_replicate]; omega)) ?_
      refine ev_inc rfl ⟨rfl, by decide⟩ rfl rfl ?_
      refine ev_nx rfl ?_
      exact ih (k + 1) _ (by omega) (by rw [List.length_set, hn])
  iterate 2 refine ev_nx rfl ?_
  exact H 10 19 nw rfl hl
/-- the reference's heap, beside what beats leave -/
def JB (z : aZ) (y : aY) (st nw re rk br pt_ : List Nat) (wo : List Int32) (h : aH) : Prop := ∃ be ge, be.length = 5 ∧ ge.length = 5 ∧ h = XM z y st nw be ge re rk br pt_ wo
/-- as it is tried it is such a line -/
def JL (z : aZ) (y : aY) (st K : List Nat) (c t j : Nat) (re rk br pt_ : List Nat) (wo : List Int32) (h : aH) : Prop := ∃ S G, lok K S G c t j ∧ JB z y st (ll K S G c t j) re rk br pt_ wo h
theorem bst_ok (ok : lok K S G c t j) {s : Nat} (hs : s < 31) : lok K (bst K (cry s c t j) S G) (cry s c t j) c t j :=
  ⟨ok.1, ⟨rfl, bst_lt cry_len (cry_lt hs) ok.2.1.1 ok.2.1.2 ok.2.2.1.1 ok.2.2.1.2⟩, ⟨cry_len, cry_lt hs⟩, ok.2.2.2⟩
theorem gtn_s {n : Nat} : gtn C n C = C := by unfold gtn; split <;> rfl
theorem f_sent {s r : Nat} (hJ : JL z y st K c t j re rk br pt_ wo h) (hs : s < 31) (hr : r < 1000) : Ec (d + 3) m_X9_sent [.ref 0, .int (nI s), .int (nI r)] h (fun v h' => v = some (.int (nI (rdS (btn K (cry s c t j) r z5 z5)))) ∧ JL z y st K c t j re rk br pt_ wo h') := by
  obtain ⟨S, G, ok, be, ge, hbe, hge, rfl⟩ := hJ
  refine ec_in [some (.ref 0), some (.int (nI s)), some (.int (nI r)), none] rfl rfl ?_
  have H : ∀ n b S G be ge, b + n = r → lok K S G c t j → be.length = 5 → ge.length = 5 → Ev (d + 3) m_X9_sent 6 [some (.ref 0), some (.int (nI s)), some (.int (nI r)), some (.int (nI b))] [] (XM z y st (ll K S G c t j) be ge re rk br pt_ wo) (fun v h' => v = some (.int (nI (rdS (btn K (cry s c t j) n S G)))) ∧ JL z y st K c t j re rk br pt_ wo h') := by
    intro n
    induction n with
    | zero =>
      intro b S G be ge hb ok hbe hge
      iterate 3 refine ev_nx rfl ?_
      refine ev_ge (fun b8 => ?_) (fun b8 => absurd b8 (by omega))
      iterate 3 refine ev_nx rfl ?_
      refine ev_vi rfl rfl rfl rfl rfl rfl rfl rfl (f_readOf6 ok) ?_
      exact ev_ri rfl rfl rfl ⟨rfl, S, G, ok, be, ge, hbe, hge, rfl⟩
    | succ n ih =>
      intro b S G be ge hb ok hbe hge
      rw [btn]
      iterate 3 refine ev_nx rfl ?_
      refine ev_ge (fun b8 => absurd b8 (by omega)) (fun b8 => ?_)
      iterate 4 refine ev_nx rfl ?_
      refine ev_vv rfl rfl rfl rfl rfl rfl rfl rfl (f_beat6 ok hbe hge hs) ?_
      refine ev_inc rfl ⟨rfl, by decide⟩ rfl rfl ?_
      refine ev_nx rfl ?_
      exact ih (b + 1) _ _ _ _ (by omega) (bst_ok ok hs) rfl cry_len
  refine ev_nx rfl ?_
  refine ev_vv rfl rfl rfl rfl rfl rfl rfl rfl (f_rests ok) ?_
  iterate 2 refine ev_nx rfl ?_
  exact H r 0 z5 z5 be ge (by omega) (lok_rest ok) hbe hge
end XD
end
section
/-! the reference: says -/
section XE
variable {d : Nat} {h : aH} {Q : Option Value → aH → Prop} {z : aZ} {y : aY} {st nw be ge re rl br pt_ : List Nat} {wo : List Int32} {K S G C : List Nat} {c t j : Nat}
theorem lp_sy1 {m r g a k s : Nat} (hs : s < 31) (hr : r < 1000) : ∀ n b S G be ge, b + n = r → lok K S G c t j → be.length = 5 → ge.length = 5 → (∀ be ge, be.length = 5 → ge.length = 5 → Ev (d + 3) m_X9_says 60 [some (.ref 0), some (.int (nI m)), some (.int (nI r)), some (.int (nI g)), some (.int (nI a)), some (.int (nI k)), some (.int (nI s)), some (.int (nI r))] [] (XM z y st (ll K (btn K (cry s c t j) n S G) (gtn (cry s c t j) n G) c t j) be ge re rl br pt_ wo) Q) → Ev (d + 3) m_X9_says 38 [some (.ref 0), some (.int (nI m)), some (.int (nI r)), some (.int (nI g)), some (.int (nI a)), some (.int (nI k)), some (.int (nI s)), some (.int (nI b))] [] (XM z y st (ll K S G c t j) be ge re rl br pt_ wo) Q := by
  intro n
  induction n with
  | zero =>
    intro b S G be ge hb ok hbe hge kk
    obtain rfl : b = r := by omega
    iterate 3 refine ev_nx rfl ?_
    refine ev_ge (fun b41 => ?_) (fun b41 => absurd b41 (by omega))
    exact kk be ge hbe hge
  | succ n ih =>
    intro b S G be ge hb ok hbe hge kk
    iterate 3 refine ev_nx rfl ?_
    refine ev_ge (fun b41 => absurd b41 (by omega)) (fun b41 => ?_)
    iterate 4 refine ev_nx rfl ?_
    refine ev_vv rfl rfl rfl rfl rfl rfl rfl rfl (f_beat6 ok hbe hge hs) ?_
    refine ev_inc rfl ⟨rfl, by decide⟩ rfl rfl ?_
    refine ev_nx rfl ?_
    refine ih (b + 1) _ _ _ _ (by omega) (bst_ok ok hs) rfl cry_len (fun be ge h1 h2 => ?_)
    rw [gtn_s]
    exact kk be ge h1 h2
theorem lp_sy2 {m r g a k s : Nat} (hg : g < 1000) : ∀ n b S G be ge, b + n = g → lok K S G c t j → be.length = 5 → ge.length = 5 → (∀ be ge, be.length = 5 → ge.length = 5 → Ev (d + 3) m_X9_says 122 [some (.ref 0), some (.int (nI m)), some (.int (nI r)), some (.int (nI g)), some (.int (nI a)), some (.int (nI k)), some (.int (nI s)), some (.int (nI g))] [] (XM z y st (ll K (btn K (cry 30 c t j) n S G) (gtn (cry 30 c t j) n G) c t j) be ge re rl br pt_ wo) Q) → Ev (d + 3) m_X9_says 100 [some (.ref 0), some (.int (nI m)), some (.int (nI r)), some (.int (nI g)), some (.int (nI a)), some (.int (nI k)), some (.int (nI s)), some (.int (nI b))] [] (XM z y st (ll K S G c t j) be ge re rl br pt_ wo) Q := by
  intro n
  induction n with
  | zero =>
    intro b S G be ge hb ok hbe hge kk
    obtain rfl : b = g := by omega
    iterate 3 refine ev_nx rfl ?_
    refine ev_ge (fun b103 => ?_) (fun b103 => absurd b103 (by omega))
    exact kk be ge hbe hge
  | succ n ih =>
    intro b S G be ge hb ok hbe hge kk
    iterate 3 refine ev_nx rfl ?_
    refine ev_ge (fun b103 => absurd b103 (by omega)) (fun b103 => ?_)
    iterate 4 refine ev_nx rfl ?_
    refine ev_vv rfl rfl rfl rfl rfl rfl rfl rfl (f_beat6 ok hbe hge (by decide)) ?_
    refine ev_inc rfl ⟨rfl, by decide⟩ rfl rfl ?_
    refine ev_nx rfl ?_
    refine ih (b + 1) _ _ _ _ (by omega) (bst_ok ok (by decide)) rfl cry_len (fun be ge h1 h2 => ?_)
    rw [gtn_s]
    exact kk be ge h1 h2
/-- what is read for each sign, from one on -/
def rdO (K : List Nat) (c t j r g : Nat) (l : List Nat) (x : List Nat × List Nat) (re re' : List Nat) (k : Nat) : Prop := re'.length = 8 ∧ (∀ q, q < k → re'.getD q 0 = re.getD q 0) ∧ ∀ q, q < l.length → re'.getD (k + q) 0 = rdk K c t j r g l q x
theorem lp_says {m r g : Nat} (mo : mok z.2.2.2.1 z.2.2.1 z.1.2.1) (hm : m < 6) (hr : r < 1000) (hg : g < 1000) : ∀ n k a x re be ge l6 l7, k + n = z.2.2.1.getD m 0 → a ≤ k → lok K x.1 x.2 c t j → be.length = 5 → ge.length = 5 → re.length = 8 → am_nl [some (.ref 0), some (.int (nI m)), some (.int (nI r)), some (.int (nI g)), some (.int (nI a)), some (.int (nI k)), l6] 7 = true → Ev (d + 3) m_X9_says 10 [some (.ref 0), some (.int (nI m)), some (.int (nI r)), some (.int (nI g)), some (.int (nI a)), some (.int (nI k)), l6, l7] [] (XM z y st (ll K x.1 x.2 c t j) be ge re rl br pt_ wo) (fun v h' => v = some (.int (nI (a + rgt K c t j r g ((msg z.2.2.2.1 z.2.2.1 m).drop k) x))) ∧ ∃ re', rdO K c t j r g ((msg z.2.2.2.1 z.2.2.1 m).drop k) x re re' k ∧ JL z y st K c t j re' rl br pt_ wo h') := by
  have h8 : z.2.2.1.getD m 0 ≤ 8 := by
    have := mo.2.2.1
    rw [List.getD, List.getElem?_eq_getElem (by omega)]; exact mo.2.2.2.1 _ (List.getElem_mem _)
  have hsl := mo.1
  have hzl := mo.2.2.1
  intro n
  induction n with
  | zero =>
    intro k a x re be ge l6 l7 hk ha ok hbe hge hre hnl
    have hd : (msg z.2.2.2.1 z.2.2.1 m).drop k = [] := List.drop_eq_nil_of_le (by rw [msg_len mo.1 hm h8]; omega)
    rw [hd]
    iterate 4 refine ev_nx rfl ?_
    refine ev_lN rfl rfl (by first | omega | (simp only [List.length_set, List.length_replicate]; omega)) ?_
    refine ev_nx rfl ?_
    refine ev_ge (fun b18 => ?_) (fun b18 => absurd b18 (by omega))
    refine ev_nx rfl ?_
    exact ev_ri rfl rfl rfl ⟨rfl, re, ⟨hre, fun _ _ => rfl, fun q hq => absurd hq (Nat.not_lt_zero _)⟩, x.1, x.2, ok, be, ge, hbe, hge, rfl⟩
  | succ n ih =>
    intro k a x re be ge l6 l7 hk ha ok hbe hge hre hnl
    have hsk : z.2.2.2.1.getD (m * 8 + k) 0 < 31 := gd3 mo.2.1 (by omega)
    rw [msg_drop mo.1 hm h8 (by omega)]
    generalize hsE : z.2.2.2.1.getD (m * 8 + k) 0 = s at hsk ⊢
    have hrk := rk_lt (r := r) ok hsk
    have hre2 : (re.set k (rk K c t j r s x)).length = 8 := by rw [List.length_set, hre]
    have fin : ∀ y1, y1 = (if rk K c t j r s x = s then 1 else 0) → ∀ be ge, be.length = 5 → ge.length = 5 → Ev (d + 3) m_X9_says 122 [some (.ref 0), some (.int (nI m)), some (.int (nI r)), some (.int (nI g)), some (.int (nI (a + y1))), some (.int (nI k)), some (.int (nI s)), some (.int (nI g))] [] (XM z y st (ll K (sy K c t j r g s x).1 (sy K c t j r g s x).2 c t j) be ge (re.set k (rk K c t j r s x)) rl br pt_ wo) (fun v h' => v = some (.int (nI (a + rgt K c t j r g (s :: (msg z.2.2.2.1 z.2.2.1 m).drop (k + 1)) x))) ∧ ∃ re', rdO K c t j r g (s :: (msg z.2.2.2.1 z.2.2.1 m).drop (k + 1)) x re re' k ∧ JL z y st K c t j re' rl br pt_ wo h') := by
      intro y1 hy be ge hbe hge
      have hy1 : y1 ≤ 1 := by rw [hy]; split <;> omega
      refine ev_inc rfl ⟨rfl, by decide⟩ rfl rfl ?_
      refine ev_nx rfl ?_
      refine ev_mono (ih (k + 1) (a + y1) (sy K c t j r g s x) (re.set k (rk K c t j r s x)) be ge _ _ (by omega) (by omega) (sy_ok ok hsk) hbe hge hre2 rfl) ?_
      rintro v h' ⟨rfl, re', ⟨q1, q2, q3⟩, hJ⟩
      refine ⟨by rw [rgt, ← hy, Nat.add_assoc], re', ⟨q1, fun q hq => ?_, fun q hq => ?_⟩, hJ⟩
      · rw [q2 q (by omega), gd_n (by omega)]
      · cases q with
        | zero => rw [Nat.add_zero, q2 k (by omega), gd_s (by omega)]; rfl
        | succ q =>
          rw [show k + (q + 1) = k + 1 + q by omega, q3 q (by simpa using hq)]
          rfl
    iterate 4 refine ev_nx rfl ?_
    refine ev_lN rfl rfl (by first | omega | (simp only [List.length_set, List.length_replicate]; omega)) ?_
    refine ev_nx rfl ?_
    refine ev_ge (fun b18 => absurd b18 (by omega)) (fun b18 => ?_)
    iterate 4 refine ev_nx rfl ?_
    refine ev_mul rfl ?_
    refine ev_nx rfl ?_
    refine ev_add rfl ?_
    rw [show 8 * m + k = m * 8 + k by omega]
    refine ev_lN rfl rfl (by omega) ?_
    rw [hsE]
    iterate 3 refine ev_nx rfl ?_
    refine lp_sy1 hsk hr r 0 x.1 x.2 be ge (by omega) ok hbe hge (fun be ge hbe hge => ?_)
    have ok2 : lok K (sd K c t j s r x).1 (sd K c t j s r x).2 c t j := sd_ok ok hsk
    show Ev (d + 3) m_X9_says 60 _ [] (XM z y st (ll K (sd K c t j s r x).1 (sd K c t j s r x).2 c t j) be ge re rl br pt_ wo) _
    iterate 6 refine ev_nx rfl ?_
    refine ev_vi rfl rfl rfl rfl rfl rfl rfl rfl (f_readOf6 ok2) ?_
    refine ev_sN rfl rfl (by omega) ?_
    iterate 4 refine ev_nx rfl ?_
    refine ev_lN rfl rfl (by first | omega | (simp only [List.length_set, List.length_replicate]; omega)) ?_
    rw [gd_s (by omega)]
    show Ev _ _ _ _ (.int (nI (rk K c t j r s x)) :: _) _ _
    iterate 2 refine ev_nx rfl ?_
    refine ev_ne (fun b86 => ?_) (fun b86 => ?_)
    · refine ev_nx rfl ?_
      refine ev_add rfl ?_
      iterate 3 refine ev_nx rfl ?_
      first | exact lp_sy2 hg g 0 (sd K c t j s r x).1 (sd K c t j s r x).2 be ge (by omega) ok2 hbe hge (fin 0 (by rw [if_neg b86])) | exact lp_sy2 hg g 0 (sd K c t j s r x).1 (sd K c t j s r x).2 be ge (by omega) ok2 hbe hge (fin 1 (by rw [if_pos b86]))
    · iterate 2 refine ev_nx rfl ?_
      refine ev_add rfl ?_
      iterate 3 refine ev_nx rfl ?_
      first | exact lp_sy2 hg g 0 (sd K c t j s r x).1 (sd K c t j s r x).2 be ge (by omega) ok2 hbe hge (fin 0 (by rw [if_neg b86])) | exact lp_sy2 hg g 0 (sd K c t j s r x).1 (sd K c t j s r x).2 be ge (by omega) ok2 hbe hge (fin 1 (by rw [if_pos b86]))
theorem f_says {m r g : Nat} (mo : mok z.2.2.2.1 z.2.2.1 z.1.2.1) (hm : m < 6) (hr : r < 1000) (hg : g < 1000) (hre : re.length = 8) (hJ : JL z y st K c t j re rl br pt_ wo h) : Ec (d + 3) m_X9_says [.ref 0, .int (nI m), .int (nI r), .int (nI g)] h (fun v h' => v = some (.int (nI (rgt K c t j r g (msg z.2.2.2.1 z.2.2.1 m) z55))) ∧ ∃ re', (re'.length = 8 ∧ ∀ q, q < z.2.2.1.getD m 0 → re'.getD q 0 = rdk K c t j r g (msg z.2.2.2.1 z.2.2.1 m) q z55) ∧ JL z y st K c t j re' rl br pt_ wo h') := by
  obtain ⟨S, G, ok, be, ge, hbe, hge, rfl⟩ := hJ
  refine ec_in [some (.ref 0), some (.int (nI m)), some (.int (nI r)), some (.int (nI g)), none, none, none, none] rfl rfl ?_
  have h8 : z.2.2.1.getD m 0 ≤ 8 := by
    have := mo.2.2.1
    rw [List.getD, List.getElem?_eq_getElem (by omega)]; exact mo.2.2.2.1 _ (List.getElem_mem _)
  have H := lp_says (d := d) (y := y) (st := st) (rl := rl) (br := br) (pt_ := pt_) (wo := wo) (K := K) (c := c) (t := t) (j := j) mo hm hr hg (z.2.2.1.getD m 0) 0 0 z55 re be ge none none (by omega) (by omega) (lok_rest ok) hbe hge hre rfl
  iterate 3 refine ev_nx rfl ?_
  refine ev_vv rfl rfl rfl rfl rfl rfl rfl rfl (f_rests ok) ?_
  iterate 2 refine ev_nx rfl ?_
  refine ev_mono H ?_
  rintro v h' ⟨rfl, re', ⟨q1, _, q3⟩, hJ⟩
  rw [List.drop_zero] at q3 ⊢
  refine ⟨by rw [Nat.zero_add], re', ⟨q1, fun q hq => ?_⟩, hJ⟩
  rw [← q3 q (by rw [msg_len mo.1 hm h8]; exact hq), Nat.zero_add]
end XE
end
section
/-! the reference: touches, mayMend, mends, changes -/
section XF
variable {d : Nat} {h : aH} {Q : Option Value → aH → Prop} {K S G : List Nat} {c t j a : Nat}
theorem bt_tb (c p : Nat) : bt c p = if c.testBit p then 1 else 0 := by
  rw [Nat.testBit_eq_decide_div_mod_eq]
  unfold bt
  have := Nat.mod_lt (c / 2 ^ p) (show 0 < 2 by decide)
  by_cases h : c / 2 ^ p % 2 = 1
  · simp [h]
  · rw [if_neg (by simpa using h)]; omega
theorem bt_or (a b p : Nat) : bt (a ||| b) p = if bt a p = 1 ∨ bt b p = 1 then 1 else 0 := by
  rw [bt_tb, bt_tb, bt_tb, Nat.testBit_or]
  cases a.testBit p <;> cases b.testBit p <;> simp
theorem bt_dbl (j p : Nat) : bt (j * 2) p = if p = 0 then 0 else bt j (p - 1) := by
  rw [bt_tb, bt_tb, Nat.mul_comm]
  cases p with
  | zero => simp [Nat.testBit_zero]
  | succ p => rw [show 2 * j = 2 ^ 1 * j by omega, Nat.testBit_two_pow_mul]; simp
theorem bt_4 {j : Nat} (hj : j < 16) : bt j 4 = 0 := by unfold bt; rw [Nat.div_eq_of_lt (by omega)]
theorem mm_t1 {j p : Nat} (hj : j < 16) (hp : p < 5) : (∃ q, q < 4 ∧ nI p = nI q ∧ bt j p = bt j q) ∨ (wi (nI p) (nI 0) (nI 3) = 0 ∧ bt j p = 0) := by
  by_cases h4 : p < 4
  · exact .inl ⟨p, h4, rfl, rfl⟩
  · obtain rfl : p = 4 := by omega
    exact .inr ⟨by decide, bt_4 hj⟩
theorem mm_t2 {j p u : Nat} (hp : p < 5) (hu : u = (if p = 0 then 0 else bt j (p - 1))) : (∃ q, q < 4 ∧ nI p - nI 1 = nI q ∧ u = bt j q) ∨ (wi (nI p - nI 1) (nI 0) (nI 3) = 0 ∧ u = 0) := by
  by_cases h0 : p = 0
  · subst h0; exact .inr ⟨by decide, hu⟩
  · exact .inl ⟨p - 1, by omega, pk_sub (by omega), by rw [hu, if_neg h0]⟩
/-- does a wire touch the next one -/
theorem f_touches {x : Int32} {v : Nat} (ok : lok K S G c t j) (hA : h[a]? = some (ar (ll K S G c t j))) (ha : a < 100000) (hv : (∃ p, p < 4 ∧ x = nI p ∧ v = bt j p) ∨ (wi x (nI 0) (nI 3) = 0 ∧ v = 0)) : Ec (d + 1) m_X9_touches [.ref a, .int x] h (rt (.int (nI v)) h) := by
  have hl := ll_len ok
  refine ec_in [some (.ref a), some (.int x)] rfl rfl ?_
  rcases hv with ⟨p, hp, rfl, rfl⟩ | ⟨hw, rfl⟩
  · have hw : wi (nI p) (nI 0) (nI 3) = 1 := by rw [wi_n (by omega) (by omega) (by omega), if_pos (by omega)]
    have hb := bt_lt j p
    iterate 3 refine ev_nx rfl ?_
    refine ev_ci rfl rfl (f_in _ _ _ _) ?_
    rw [hw]
    refine ev_nx rfl ?_
    refine ev_f (by decide) ?_
    iterate 3 refine ev_nx rfl ?_
    refine ev_add rfl ?_
    refine ev_lN rfl hA (by omega) ?_
    rw [ll_j p hp]
    iterate 2 refine ev_nx rfl ?_
    refine ev_ne (fun b16 => ?_) (fun b16 => ?_)
    · refine ev_nx rfl ?_
      exact ev_ri rfl rfl rfl ⟨vI (by omega), rfl⟩
    · iterate 2 refine ev_nx rfl ?_
      exact ev_ri rfl rfl rfl ⟨vI (by omega), rfl⟩
  · iterate 3 refine ev_nx rfl ?_
    refine ev_ci rfl rfl (f_in _ _ _ _) ?_
    rw [hw]
    refine ev_nx rfl ?_
    refine ev_t (by decide) ?_
    refine ev_nx rfl ?_
    exact ev_ri rfl rfl rfl ⟨rfl, rfl⟩
theorem f_mayMend {p : Nat} (ok : lok K S G c t j) (hA : h[a]? = some (ar (ll K S G c t j))) (ha : a < 100000) (hp : p < 5) : Ec (d + 2) m_X9_mayMend [.ref a, .int (nI p)] h (rt (.int (nI (bt (mdw c t j) p))) h) := by
  have hl := ll_len ok
  have h1 := bt_lt c p
  have h2 := bt_lt t p
  have h3 := bt_lt j p
  have h4 := bt_lt j (p - 1)
  have hj16 := ok.2.2.2.2.2
  have e : bt (mdw c t j) p = if bt c p = 1 ∨ bt t p = 1 ∨ bt j p = 1 ∨ (p ≠ 0 ∧ bt j (p - 1) = 1) then 1 else 0 := by
    unfold mdw
    rw [bt_or, bt_or, bt_or, bt_dbl]
    (repeat' split) <;> omega
  obtain ⟨u, hu⟩ : ∃ u, u = (if p = 0 then 0 else bt j (p - 1)) := ⟨_, rfl⟩
  have hu2 : u < 2 := by rw [hu]; split <;> omega
  refine ec_in [some (.ref a), some (.int (nI p))] rfl rfl ?_
  rw [e]
  iterate 3 refine ev_nx rfl ?_
  refine ev_add rfl ?_
  refine ev_lN rfl hA (by omega) ?_
  rw [ll_c p hp]
  iterate 2 refine ev_nx rfl ?_
  refine ev_eq (fun b6 => ?_) (fun b6 => ?_)
  · iterate 2 refine ev_nx rfl ?_
    exact ev_ri rfl rfl rfl ⟨vI (by clear e; (repeat' split at hu) <;> (repeat' split) <;> omega), rfl⟩
  · iterate 3 refine ev_nx rfl ?_
    refine ev_add rfl ?_
    refine ev_lN rfl hA (by omega) ?_
    rw [ll_t p hp]
    iterate 2 refine ev_nx rfl ?_
    refine ev_eq (fun b15 => ?_) (fun b15 => ?_)
    · iterate 2 refine ev_nx rfl ?_
      exact ev_ri rfl rfl rfl ⟨vI (by clear e; (repeat' split at hu) <;> (repeat' split) <;> omega), rfl⟩
    · iterate 2 refine ev_nx rfl ?_
      refine ev_ci rfl rfl (f_touches ok hA ha (mm_t1 hj16 hp)) ?_
      refine ev_nx rfl ?_
      refine ev_ne0 (fun b23 => ?_) (fun b23 => ?_)
      · iterate 2 refine ev_nx rfl ?_
        exact ev_ri rfl rfl rfl ⟨vI (by clear e; (repeat' split at hu) <;> (repeat' split) <;> omega), rfl⟩
      · iterate 3 refine ev_nx rfl ?_
        refine ev_nx rfl ?_
        refine ev_ci rfl rfl (f_touches ok hA ha (mm_t2 hp hu)) ?_
        refine ev_nx rfl ?_
        refine ev_eq0 (fun b33 => ?_) (fun b33 => ?_)
        · refine ev_nx rfl ?_
          exact ev_ri rfl rfl rfl ⟨vI (by clear e; (repeat' split at hu) <;> (repeat' split) <;> omega), rfl⟩
        · iterate 2 refine ev_nx rfl ?_
          exact ev_ri rfl rfl rfl ⟨vI (by clear e; (repeat' split at hu) <;> (repeat' split) <;> omega), rfl⟩
theorem md_j : ∀ j : Fin 16, ∀ p : Fin 5, clr j.val (mdj (1 * 2 ^ p.val)) = (if 0 < p.val then clr (if p.val < 4 then clr j.val (1 * 2 ^ p.val) else j.val) (1 * 2 ^ (p.val - 1)) else (if p.val < 4 then clr j.val (1 * 2 ^ p.val) else j.val)) := by decide +kernel
theorem lok_md (ok : lok K S G c t j) {w w1 w2 : Nat} : lok K S G (clr c w) (clr t w1) (clr j w2) := ⟨ok.1, ok.2.1, ok.2.2.1, clr32 ok.2.2.2.1, clr32 ok.2.2.2.2.1, Nat.lt_of_le_of_lt clr_lt ok.2.2.2.2.2⟩
theorem f_mends {p : Nat} (ok : lok K S G c t j) (hA : h[a]? = some (ar (ll K S G c t j))) (ha : a < 100000) (hp : p < 5) : Ec d m_X9_mends [.ref a, .int (nI p)] h (rtv (h.set a (ar (ll K S G (clr c (1 * 2 ^ p)) (clr t (1 * 2 ^ p)) (clr j (mdj (1 * 2 ^ p))))))) := by
  have hal : a < h.length := (List.getElem?_eq_some_iff.mp hA).1
  have ok1 : lok K S G (clr c (1 * 2 ^ p)) t j := ⟨ok.1, ok.2.1, ok.2.2.1, clr32 ok.2.2.2.1, ok.2.2.2.2⟩
  have ok2 : lok K S G (clr c (1 * 2 ^ p)) (clr t (1 * 2 ^ p)) j := ⟨ok.1, ok.2.1, ok.2.2.1, clr32 ok.2.2.2.1, clr32 ok.2.2.2.2.1, ok.2.2.2.2.2⟩
  have ok3 : lok K S G (clr c (1 * 2 ^ p)) (clr t (1 * 2 ^ p)) (clr j (1 * 2 ^ p)) := lok_md ok
  have l0 := ll_len ok
  have l1 := ll_len ok1
  have l2 := ll_len ok2
  have l3 := ll_len ok3
  have hj16 := ok.2.2.2.2.2
  refine ec_in [some (.ref a), some (.int (nI p))] rfl rfl ?_
  rw [md_j ⟨j, hj16⟩ ⟨p, hp⟩]
  iterate 3 refine ev_nx rfl ?_
  refine ev_add rfl ?_
  refine ev_nx rfl ?_
  refine ev_sN rfl hA (by omega) ?_
  rw [ll_c0 p hp ok.2.2.2.1]
  iterate 3 refine ev_nx rfl ?_
  refine ev_add rfl ?_
  refine ev_nx rfl ?_
  refine ev_sN rfl (List.getElem?_set_self hal) (by omega) ?_
  rw [set_set, ll_t0 p hp ok.2.2.2.2.1]
  iterate 2 refine ev_nx rfl ?_
  skip
  show Ev _ _ _ _ _ _ (rtv (h.set a (ar (ll K S G (clr c (1 * 2 ^ p)) (clr t (1 * 2 ^ p)) (if 0 < p then clr (if p < 4 then clr j (1 * 2 ^ p) else j) (1 * 2 ^ (p - 1)) else (if p < 4 then clr j (1 * 2 ^ p) else j))))))
  refine ev_nx rfl ?_
  refine ev_ge (fun b14 => ?_) (fun b14 => ?_)
  · iterate 2 refine ev_nx rfl ?_
    refine ev_le0 (fun b25 => ?_) (fun b25 => ?_)
    · exact ev_rt rfl ⟨rfl, by first | (exfalso; omega) | (rw [if_pos (by omega), if_neg (by omega)]) | (rw [if_neg (by omega), if_neg (by omega)]) | (rw [if_pos (by omega), if_pos (by omega)]) | (rw [if_neg (by omega), if_pos (by omega)])⟩
    · iterate 3 refine ev_nx rfl ?_
      refine ev_add rfl ?_
      refine ev_nx rfl ?_
      refine ev_sub rfl (by omega) ?_
      rw [show 10 + p - 1 = 10 + (p - 1) by omega]
      refine ev_nx rfl ?_
      refine ev_sN rfl (List.getElem?_set_self hal) (by omega) ?_
      rw [set_set, ll_j0 (p - 1) (by omega) (by first | exact hj16 | exact ok3.2.2.2.2.2)]
      exact ev_rt rfl ⟨rfl, by first | (exfalso; omega) | (rw [if_pos (by omega), if_neg (by omega)]) | (rw [if_neg (by omega), if_neg (by omega)]) | (rw [if_pos (by omega), if_pos (by omega)]) | (rw [if_neg (by omega), if_pos (by omega)])⟩
  · iterate 3 refine ev_nx rfl ?_
    refine ev_add rfl ?_
    refine ev_nx rfl ?_
    refine ev_sN rfl (List.getElem?_set_self hal) (by omega) ?_
    rw [set_set, ll_j0 p (by omega) hj16]
    iterate 2 refine ev_nx rfl ?_
    refine ev_le0 (fun b25 => ?_) (fun b25 => ?_)
    · exact ev_rt rfl ⟨rfl, by first | (exfalso; omega) | (rw [if_pos (by omega), if_neg (by omega)]) | (rw [if_neg (by omega), if_neg (by omega)]) | (rw [if_pos (by omega), if_pos (by omega)]) | (rw [if_neg (by omega), if_pos (by omega)])⟩
    · iterate 3 refine ev_nx rfl ?_
      refine ev_add rfl ?_
      refine ev_nx rfl ?_
      refine ev_sub rfl (by omega) ?_
      rw [show 10 + p - 1 = 10 + (p - 1) by omega]
      refine ev_nx rfl ?_
      refine ev_sN rfl (List.getElem?_set_self hal) (by omega) ?_
      rw [set_set, ll_j0 (p - 1) (by omega) (by first | exact hj16 | exact ok3.2.2.2.2.2)]
      exact ev_rt rfl ⟨rfl, by first | (exfalso; omega) | (rw [if_pos (by omega), if_neg (by omega)]) | (rw [if_neg (by omega), if_neg (by omega)]) | (rw [if_pos (by omega), if_pos (by omega)]) | (rw [if_neg (by omega), if_pos (by omega)])⟩
theorem f_changes {p q : Nat} (ok : lok K S G c t j) (hA : h[a]? = some (ar (ll K S G c t j))) (ha : a < 100000) (hp : p < 5) (hq : q < 5) : Ec d m_X9_changes [.ref a, .int (nI p), .int (nI q)] h (rtv (h.set a (ar (ll (swp K p q) (swp S p q) (swp G p q) c t j)))) := by
  have hal : a < h.length := (List.getElem?_eq_some_iff.mp hA).1
  have it : ∀ (A : List Nat) (b : Nat) (l4 : Option Value) (Q : Option Value → aH → Prop), A.length = 29 → b < 25 → (∀ l4, Ev d m_X9_changes 3 [some (.ref a), some (.int (nI p)), some (.int (nI q)), some (.int (nI (b + 5))), l4] [] (h.set a (ar ((A.set (b + p) (A.getD (b + q) 0)).set (b + q) (A.getD (b + p) 0)))) Q) → Ev d m_X9_changes 3 [some (.ref a), some (.int (nI p)), some (.int (nI q)), some (.int (nI b)), l4] [] (h.set a (ar A)) Q := by
    intro A b l4 Q hA hb k
    iterate 3 refine ev_nx rfl ?_
    refine ev_ge (fun b6 => absurd b6 (by omega)) (fun b6 => ?_)
    iterate 3 refine ev_nx rfl ?_
    refine ev_add rfl ?_
    refine ev_lN rfl (List.getElem?_set_self hal) (by omega) ?_
    iterate 4 refine ev_nx rfl ?_
    refine ev_add rfl ?_
    iterate 3 refine ev_nx rfl ?_
    refine ev_add rfl ?_
    refine ev_lN rfl (List.getElem?_set_self hal) (by omega) ?_
    refine ev_sN rfl (List.getElem?_set_self hal) (by omega) ?_
    rw [set_set]
    iterate 3 refine ev_nx rfl ?_
    refine ev_add rfl ?_
    refine ev_nx rfl ?_
    refine ev_sN rfl (List.getElem?_set_self hal) (by first | omega | (simp only [List.length_set, List.length_replicate]; omega)) ?_
    rw [set_set]
    refine ev_inc rfl ⟨rfl, by decide⟩ rfl rfl ?_
    refine ev_nx rfl ?_
    exact k _
  have l0 := ll_len ok
  refine ec_in [some (.ref a), some (.int (nI p)), some (.int (nI q)), none, none] rfl rfl ?_
  iterate 2 refine ev_nx rfl ?_
  rw [← set_id hA]
  have e1 : (((ll K S G c t j).set (14 + p) ((ll K S G c t j).getD (14 + q) 0)).set (14 + q) ((ll K S G c t j).getD (14 + p) 0)) = ll (swp K p q) S G c t j := by
    rw [ll_K ok p hp, ll_K ok q hq, ll_sK ok.1.1 _ _ hp, ll_sK (by rw [List.length_set]; exact ok.1.1) _ _ hq]; rfl
  refine it _ 14 _ _ l0 (by omega) (fun l4 => ?_)
  rw [e1]
  have okK : (swp K p q).length = 5 := by rw [swp_len]; exact ok.1.1
  have okS : (swp S p q).length = 5 := by rw [swp_len]; exact ok.2.1.1
  have hm : ∀ (R : List Nat) (n : Nat), R.length = 5 → (∀ x ∈ R, x < n) → ∀ x ∈ swp R p q, x < n := fun R n hl hR => l_set_lt (l_set_lt hR (gd3 hR (by omega))) (gd3 hR (by omega))
  have ok1 : lok (swp K p q) S G c t j := ⟨⟨okK, hm K 6 ok.1.1 ok.1.2⟩, ok.2⟩
  have ok2 : lok (swp K p q) (swp S p q) G c t j := ⟨ok1.1, ⟨okS, hm S 3 ok.2.1.1 ok.2.1.2⟩, ok.2.2⟩
  refine it _ 19 _ _ (ll_len ok1) (by omega) (fun l4 => ?_)
  have e2 : (((ll (swp K p q) S G c t j).set (19 + p) ((ll (swp K p q) S G c t j).getD (19 + q) 0)).set (19 + q) ((ll (swp K p q) S G c t j).getD (19 + p) 0)) = ll (swp K p q) (swp S p q) G c t j := by
    rw [ll_S ok1 p hp, ll_S ok1 q hq, ll_sS okK ok.2.1.1 _ _ hp, ll_sS okK (by rw [List.length_set]; exact ok.2.1.1) _ _ hq]; rfl
  rw [e2]
  refine it _ 24 _ _ (ll_len ok2) (by omega) (fun l4 => ?_)
  have e3 : (((ll (swp K p q) (swp S p q) G c t j).set (24 + p) ((ll (swp K p q) (swp S p q) G c t j).getD (24 + q) 0)).set (24 + q) ((ll (swp K p q) (swp S p q) G c t j).getD (24 + p) 0)) = ll (swp K p q) (swp S p q) (swp G p q) c t j := by
    rw [ll_G ok2 p hp, ll_G ok2 q hq, ll_sG okK okS ok.2.2.1.1 _ _ hp, ll_sG okK okS (by rw [List.length_set]; exact ok.2.2.1.1) _ _ hq]; rfl
  rw [e3]
  iterate 3 refine ev_nx rfl ?_
  refine ev_ge (fun b6 => ?_) (fun b6 => absurd b6 (by omega))
  exact ev_rt rfl ⟨rfl, set_set.symm⟩
theorem lok_sw (ok : lok K S G c t j) {p q : Nat} (hp : p < 5) (hq : q < 5) : lok (swp K p q) (swp S p q) (swp G p q) c t j := by
  have hm : ∀ (R : List Nat) (n : Nat), R.length = 5 → (∀ x ∈ R, x < n) → ∀ x ∈ swp R p q, x < n := fun R n hl hR => l_set_lt (l_set_lt hR (gd3 hR (by omega))) (gd3 hR (by omega))
  exact ⟨⟨by rw [swp_len]; exact ok.1.1, hm K 6 ok.1.1 ok.1.2⟩, ⟨by rw [swp_len]; exact ok.2.1.1, hm S 3 ok.2.1.1 ok.2.1.2⟩, ⟨by rw [swp_len]; exact ok.2.2.1.1, hm G 3 ok.2.2.1.1 ok.2.2.1.2⟩, ok.2.2.2⟩
end XF
end
section
/-! the reference: what would be read: said, pace, clear, like -/
/-- the reference's heap beside all that is worked with -/
def lns (re rl br pt_ : List Nat) (wo : List Int32) : Prop := re.length = 8 ∧ rl.length = 5 ∧ br.length = 5 ∧ pt_.length = 32 ∧ wo.length = 1296
def Mq (z : aZ) (y : aY) (st : List Nat) (h : aH) : Prop := ∃ nw be ge re rl br pt_ wo, (nw.length = 29 ∧ be.length = 5 ∧ ge.length = 5 ∧ lns re rl br pt_ wo) ∧ h = XM z y st nw be ge re rl br pt_ wo
def MJ (z : aZ) (y : aY) (st K : List Nat) (c t j : Nat) (h : aH) : Prop := ∃ re rl br pt_ wo, lns re rl br pt_ wo ∧ JL z y st K c t j re rl br pt_ wo h
section XG
variable {d : Nat} {h : aH} {Q : Option Value → aH → Prop} {z : aZ} {y : aY} {st nw be ge re rl br pt_ : List Nat} {wo : List Int32} {K S G C K' : List Nat} {c t j c' t' j' : Nat}
theorem MJ_Q (hJ : MJ z y st K c t j h) : Mq z y st h := by
  obtain ⟨re, rl, br, pt_, wo, hl, S, G, ok, be, ge, hbe, hge, rfl⟩ := hJ
  exact ⟨_, be, ge, re, rl, br, pt_, wo, ⟨ll_len ok, hbe, hge, hl⟩, rfl⟩
theorem Mq_0 (hJ : Mq z y st h) : h[0]? = some (xo z.1.1 z.1.2.1 z.1.2.2.1 z.1.2.2.2.1 z.1.2.2.2.2.1 z.1.2.2.2.2.2 y.1 y.2.1 y.2.2.1) := by
  obtain ⟨nw, be, ge, re, rl, br, pt_, wo, _, rfl⟩ := hJ; rfl
theorem MJ_0 (hJ : MJ z y st K c t j h) : h[0]? = some (xo z.1.1 z.1.2.1 z.1.2.2.1 z.1.2.2.2.1 z.1.2.2.2.2.1 z.1.2.2.2.2.2 y.1 y.2.1 y.2.2.1) := Mq_0 (MJ_Q hJ)
theorem Mq_3 (hJ : Mq z y st h) : h[3]? = some (ar z.2.2.1) := by
  obtain ⟨nw, be, ge, re, rl, br, pt_, wo, _, rfl⟩ := hJ; rfl
theorem Mq_4 (hJ : Mq z y st h) : h[4]? = some (ar z.2.2.2.1) := by
  obtain ⟨nw, be, ge, re, rl, br, pt_, wo, _, rfl⟩ := hJ; rfl
theorem g_asItIs (hJ : Mq z y (ll K S G c t j) h) (ok : lok K S G c t j) : Ec (d + 1) m_X9_asItIs [.ref 0] h (fun r h' => r = none ∧ MJ z y (ll K S G c t j) K c t j h') := by
  obtain ⟨nw, be, ge, re, rl, br, pt_, wo, ⟨hn, hbe, hge, hl⟩, rfl⟩ := hJ
  refine ec_mono (f_asItIs (ll_len ok) hn) ?_
  rintro r h' ⟨rfl, rfl⟩
  exact ⟨rfl, re, rl, br, pt_, wo, hl, S, G, ok, be, ge, hbe, hge, rfl⟩
theorem g_sent {s r : Nat} (hJ : MJ z y st K c t j h) (hs : s < 31) (hr : r < 1000) : Ec (d + 3) m_X9_sent [.ref 0, .int (nI s), .int (nI r)] h (fun v h' => v = some (.int (nI (rdS (btn K (cry s c t j) r z5 z5)))) ∧ MJ z y st K c t j h') := by
  obtain ⟨re, rl, br, pt_, wo, hl, hJ⟩ := hJ
  refine ec_mono (f_sent hJ hs hr) ?_
  rintro v h' ⟨rfl, hJ⟩
  exact ⟨rfl, re, rl, br, pt_, wo, hl, hJ⟩
theorem g_says {m r g : Nat} (mo : mok z.2.2.2.1 z.2.2.1 z.1.2.1) (hm : m < 6) (hr : r < 1000) (hg : g < 1000) (hJ : MJ z y st K c t j h) : Ec (d + 3) m_X9_says [.ref 0, .int (nI m), .int (nI r), .int (nI g)] h (fun v h' => v = some (.int (nI (rgt K c t j r g (msg z.2.2.2.1 z.2.2.1 m) z55))) ∧ (∃ re, h'[16]? = some (ar re) ∧ re.length = 8 ∧ ∀ q, q < z.2.2.1.getD m 0 → re.getD q 0 = rdk K c t j r g (msg z.2.2.2.1 z.2.2.1 m) q z55) ∧ MJ z y st K c t j h') := by
  obtain ⟨re, rl, br, pt_, wo, hl, hJ⟩ := hJ
  refine ec_mono (f_says mo hm hr hg hl.1 hJ) ?_
  rintro v h' ⟨rfl, re', hre, hJ⟩
  refine ⟨rfl, ⟨re', ?_, hre⟩, re', rl, br, pt_, wo, ⟨hre.1, hl.2⟩, hJ⟩
  obtain ⟨S, G, ok, be, ge, hbe, hge, rfl⟩ := hJ
  rfl
/-! guards -/
theorem f_isMessage {x : Int32} (hJ : Mq z y st h) (hme : 0 < z.1.2.1) : Ec (d + 1) m_X9_isMessage [.ref 0, .int x] h (rt (.int (nI (wi x (nI 0) (nI (z.1.2.1 - 1))))) h) := by
  refine ec_in [some (.ref 0), some (.int x)] rfl rfl ?_
  iterate 3 refine ev_nx rfl ?_
  refine ev_gf rfl rfl (Mq_0 hJ) rfl ?_
  refine ev_nx rfl ?_
  refine ev_sub rfl (by omega) ?_
  refine ev_ci rfl rfl (f_in _ _ _ _) ?_
  exact ev_ri rfl rfl wi_nr ⟨rfl, rfl⟩
def isp (r g : Int32) : Nat := if wi r (nI 1) (nI 3) = 1 ∧ wi g (nI 0) (nI 3) = 1 then 1 else 0
theorem isp_lt (r g : Int32) : isp r g < 2 := by unfold isp; split <;> omega
theorem f_isPace (r g : Int32) (h : aH) : Ec (d + 1) m_X9_isPace [.int r, .int g] h (rt (.int (nI (isp r g))) h) := by
  refine ec_in [some (.int r), some (.int g)] rfl rfl ?_
  have h1 := wi_lt r (nI 1) (nI 3)
  have h2 := wi_lt g (nI 0) (nI 3)
  iterate 3 refine ev_nx rfl ?_
  refine ev_ci rfl rfl (f_in _ _ _ _) ?_
  refine ev_nx rfl ?_
  refine ev_eq0 (fun b6 => ?_) (fun b6 => ?_)
  · refine ev_nx rfl ?_
    exact ev_ri rfl rfl rfl ⟨vI (by unfold isp; split <;> omega), rfl⟩
  · iterate 3 refine ev_nx rfl ?_
    refine ev_ci rfl rfl (f_in _ _ _ _) ?_
    refine ev_nx rfl ?_
    refine ev_eq0 (fun b15 => ?_) (fun b15 => ?_)
    · refine ev_nx rfl ?_
      exact ev_ri rfl rfl rfl ⟨vI (by unfold isp; split <;> omega), rfl⟩
    · iterate 2 refine ev_nx rfl ?_
      exact ev_ri rfl rfl rfl ⟨vI (by unfold isp; split <;> omega), rfl⟩
theorem isp_n {r g : Nat} (hr : r < 65536) (hg : g < 65536) : isp (nI r) (nI g) = if (1 ≤ r ∧ r ≤ 3) ∧ g ≤ 3 then 1 else 0 := by
  unfold isp
  rw [wi_n hr (by decide) (by decide), wi_n hg (by decide) (by decide)]
  (repeat' split) <;> omega
/-! said -/
def sdA (K : List Nat) (c t j r g : Nat) (l : List Nat) (k : Option Nat) : Int32 := match k with
  | none => nI (rgt K c t j r g l z55)
  | some k => if k < l.length then nI (rdk K c t j r g l k z55) else -(nI 4)
def oI : Option Nat → Int32
  | none => -(nI 1)
  | some k => nI k
theorem lt_m1 {n : Nat} (hn : n < 2147483648) : -(nI 1) < nI n := by
  rw [Int32.lt_iff_toInt_lt, nI_toInt (by omega)]
  have : (-(nI 1)).toInt = -1 := by decide
  omega
theorem wi_m {x : Int32} {n : Nat} (hn : n < 65536) : (wi x (-(nI 1)) (nI n) = 1 ∧ ∃ k : Option Nat, (∀ j, k = some j → j ≤ n) ∧ x = oI k) ∨ wi x (-(nI 1)) (nI n) = 0 := by
  unfold wi
  by_cases h : -(nI 1) ≤ x ∧ x ≤ nI n
  · rw [if_pos h]
    left
    refine ⟨rfl, ?_⟩
    by_cases h0 : x < 0
    · refine ⟨none, fun j e => (by cases e), ?_⟩
      have h1 := Int32.le_iff_toInt_le.mp h.1
      have h2 := Int32.lt_iff_toInt_lt.mp h0
      have h3 : (-(nI 1)).toInt = -1 := by decide
      have h4 : (0 : Int32).toInt = 0 := by decide
      apply Int32.toInt_inj.mp
      show x.toInt = (-(nI 1)).toInt
      omega
    · obtain ⟨j, h1, h2⟩ := nI_of2 (x := x) (M := nI n) (n := n) (nI_toInt (by omega)) h0 h.2
      exact ⟨some j, fun q e => (by cases e; exact h1), h2⟩
  · rw [if_neg h]; right; rfl
theorem mok8 {sg ln : List Nat} {mn m : Nat} (mo : mok sg ln mn) (hm : m < 6) : ln.getD m 0 ≤ 8 := by
  have := mo.2.2.1
  rw [List.getD, List.getElem?_eq_getElem (by omega)]; exact mo.2.2.2.1 _ (List.getElem_mem _)
theorem g_said {m r g : Nat} {k : Option Nat} (mo : mok z.2.2.2.1 z.2.2.1 z.1.2.1) (hJ : Mq z y (ll K S G c t j) h) (ok : lok K S G c t j) (hm : m < z.1.2.1) (hr : 1 ≤ r ∧ r ≤ 3) (hg : g ≤ 3) (hk : ∀ q, k = some q → q ≤ 7) : Ec (d + 4) m_X9_said [.ref 0, .int (nI m), .int (nI r), .int (nI g), .int (oI k)] h (fun v h' => v = some (.int (sdA K c t j r g (msg z.2.2.2.1 z.2.2.1 m) k)) ∧ Mq z y (ll K S G c t j) h') := by
  have h6 := mo.2.2.2.2
  have h8 := mok8 mo (show m < 6 by omega)
  have hzl := mo.2.2.1
  have hsl := mo.1
  refine ec_in [some (.ref 0), some (.int (nI m)), some (.int (nI r)), some (.int (nI g)), some (.int (oI k)), none] rfl rfl ?_
  have w1 : wi (nI m) (nI 0) (nI (z.1.2.1 - 1)) = 1 := by rw [wi_n (by omega) (by omega) (by omega), if_pos (by omega)]
  have w2 : isp (nI r) (nI g) = 1 := by rw [isp_n (by omega) (by omega), if_pos (by omega)]
  have w3 : wi (oI k) (-(nI 1)) (nI 7) = 1 := by
    cases k with
    | none => decide
    | some k => unfold wi; rw [if_pos ⟨Int32.le_of_lt (lt_m1 (by have := hk k rfl; omega)), nI_le (hk k rfl) (by decide)⟩]
  iterate 2 refine ev_nx rfl ?_
  refine ev_vi rfl rfl rfl rfl rfl rfl (Mq_0 hJ) rfl (f_isMessage hJ (by omega)) ?_
  rw [w1]
  refine ev_nx rfl ?_
  refine ev_f (by decide) ?_
  iterate 2 refine ev_nx rfl ?_
  refine ev_ci rfl rfl (f_isPace _ _ _) ?_
  rw [w2]
  refine ev_nx rfl ?_
  refine ev_f (by decide) ?_
  iterate 3 refine ev_nx rfl ?_
  refine ev_ci rfl rfl (f_in _ _ _ _) ?_
  rw [w3]
  refine ev_nx rfl ?_
  refine ev_t (by decide) ?_
  refine ev_nx rfl ?_
  refine ev_v rfl rfl rfl rfl rfl rfl (Mq_0 hJ) rfl (g_asItIs hJ ok) (fun rv h1 q => ?_)
  obtain ⟨rfl, hJ1⟩ := q
  iterate 4 refine ev_nx rfl ?_
  refine ev_v rfl rfl rfl rfl rfl rfl (MJ_0 hJ1) rfl (g_says mo (by omega) (by omega) (by omega) hJ1) (fun rv h2 q => ?_)
  obtain ⟨rfl, ⟨re, e16, hre, hrd⟩, hJ2⟩ := q
  iterate 2 refine ev_nx rfl ?_
  skip
  have hQ := MJ_Q hJ2
  cases k with
  | none =>
    refine ev_nx rfl ?_
    refine ev_f (by decide) ?_
    iterate 2 refine ev_nx rfl ?_
    exact ev_ri rfl rfl rfl ⟨rfl, hQ⟩
  | some k =>
    have hk7 := hk k rfl
    have hml := msg_len mo.1 (show m < 6 by omega) h8
    refine ev_nx rfl ?_
    refine ev_ge0 ?_
    iterate 2 refine ev_nx rfl ?_
    first | refine ev_gf rfl rfl (Mq_0 hQ) rfl ?_
    refine ev_nx rfl ?_
    refine ev_lN rfl (Mq_3 hQ) (by omega) ?_
    refine ev_nx rfl ?_
    refine ev_ge (fun b60 => ?_) (fun b60 => ?_)
    · refine ev_nx rfl ?_
      first | exact ev_ri rfl rfl rfl ⟨by rw [sdA, if_pos (by omega), hrd k (by omega)], hQ⟩ | exact ev_ri rfl rfl rfl ⟨by rw [sdA, if_neg (by omega)], hQ⟩
    · refine ev_nx rfl ?_
      first | refine ev_gf rfl rfl (Mq_0 hQ) rfl ?_
      refine ev_nx rfl ?_
      refine ev_lN rfl e16 (by omega) ?_
      refine ev_nx rfl ?_
      first | exact ev_ri rfl rfl rfl ⟨by rw [sdA, if_pos (by omega), hrd k (by omega)], hQ⟩ | exact ev_ri rfl rfl rfl ⟨by rw [sdA, if_neg (by omega)], hQ⟩
end XG
end
section
/-! the reference: pace, clear, like -/
/-- a call of a static method -/
theorem ev_si {d : Nat} {m : aM} {pc np r x : Nat} {L : aL} {S : List Value} {h : aH} {Q : Option Value → aH → Prop} {o x' c n k : Nat} {as : List Value} {m' : aM} {v : Value} {h2 : aH} (hc : am_cd m pc = some (.invokestatic x, np, r)) (hq : am_ms[r]? = some (o, x', c, k, n)) (hk : k = 1 ∨ k = 4) (hl : n.ble S.length = true) (ht : (S.take n).reverse = as) (hsum : (am_sum (S.drop n)).ble 8 = true) (hm : am_tab[c]? = some m') (hcall : Ec d m' as h (rt v h2)) (kk : Ev (d + 1) m np L (v :: S.drop n) h2 Q) : Ev (d + 1) m pc L S h Q := by
  refine ev_ci (c := c) (as := as) (pc' := np) (L' := L) (S' := S.drop n) (h' := h) ?_ hm hcall kk
  simp only [am_go, hc, am_op, hq]
  subst ht
  have e : ∀ k, k = 1 ∨ k = 4 → am_call (o, x', c, k, n) np L S h = (if n ≤ S.length ∧ am_sum (S.drop n) ≤ 8 then some (.inr (.inr (c, (S.take n).reverse, np, L, S.drop n, h))) else none) := by
    rintro k (rfl | rfl) <;> rfl
  rw [e k hk, if_pos ⟨Nat.le_of_ble_eq_true hl, Nat.le_of_ble_eq_true hsum⟩]
theorem ev_sv {d : Nat} {m : aM} {pc np r x : Nat} {L : aL} {S : List Value} {h : aH} {Q : Option Value → aH → Prop} {o x' c n k : Nat} {as : List Value} {m' : aM} {h2 : aH} (hc : am_cd m pc = some (.invokestatic x, np, r)) (hq : am_ms[r]? = some (o, x', c, k, n)) (hk : k = 1 ∨ k = 4) (hl : n.ble S.length = true) (ht : (S.take n).reverse = as) (hsum : (am_sum (S.drop n)).ble 8 = true) (hm : am_tab[c]? = some m') (hcall : Ec d m' as h (rtv h2)) (kk : Ev (d + 1) m np L (S.drop n) h2 Q) : Ev (d + 1) m pc L S h Q := by
  refine ev_cv (c := c) (as := as) (pc' := np) (L' := L) (S' := S.drop n) (h' := h) ?_ hm hcall kk
  simp only [am_go, hc, am_op, hq]
  subst ht
  have e : ∀ k, k = 1 ∨ k = 4 → am_call (o, x', c, k, n) np L S h = (if n ≤ S.length ∧ am_sum (S.drop n) ≤ 8 then some (.inr (.inr (c, (S.take n).reverse, np, L, S.drop n, h))) else none) := by
    rintro k (rfl | rfl) <;> rfl
  rw [e k hk, if_pos ⟨Nat.le_of_ble_eq_true hl, Nat.le_of_ble_eq_true hsum⟩]
/-- the first r and g of a sum -/
def pcR (P : Nat → Nat → Bool) (s : Nat) : Nat → Nat → Option (Nat × Nat)
  | 0, _ => none
  | n + 1, r => if (r ≤ s ∧ s - r ≤ 3) ∧ P r (s - r) = true then some (r, s - r) else pcR P s n (r + 1)
def pcS (P : Nat → Nat → Bool) : Nat → Nat → Option (Nat × Nat)
  | 0, _ => none
  | n + 1, s => match pcR P s 3 1 with
    | some x => some x
    | none => pcS P n (s + 1)
def pcA (w : Nat) : Option (Nat × Nat) → Int32
  | none => -(nI 4)
  | some x => if w = 0 then nI x.1 else nI x.2
/-- clear signs, from one on -/
def clf (f : Nat → Nat) : Nat → Nat → Nat → Nat
  | 0, _, w => w
  | n + 1, s, w => clf f n (s + 1) (if f s = s then w ||| 1 * 2 ^ s else w)
/-- the first that is alike -/
def lkr (f : Nat → Nat) (v : Nat) : Nat → Nat → Nat
  | 0, k => k
  | n + 1, k => if f k = v then k else lkr f v n (k + 1)
/-- what is read for a sign, sent from rest -/
def fs_ (K : List Nat) (c t j r s : Nat) : Nat := rdS (btn K (cry s c t j) r z5 z5)
theorem fs_lt {K : List Nat} {c t j r s : Nat} (hK : lok K z5 z5 c t j) (hs : s < 31) : fs_ K c t j r s < 32 := rk_lt (x := z55) hK hs
section XH
variable {d : Nat} {h : aH} {Q : Option Value → aH → Prop} {z : aZ} {y : aY} {st nw be ge re rl br pt_ : List Nat} {wo : List Int32} {K S G C K' : List Nat} {c t j c' t' j' : Nat}
theorem MJ_ok (hJ : MJ z y st K c t j h) : lok K z5 z5 c t j := by
  obtain ⟨re, rl, br, pt_, wo, hl, S, G, ok, _⟩ := hJ
  exact lok_rest ok
theorem isp_neg {r s : Nat} (hr : r ≤ 3) (hs : s < r) : isp (nI r) (nI s - nI r) = 0 := by
  unfold isp
  rw [if_neg]
  rintro ⟨_, h2⟩
  have : ∀ r s : Fin 4, s < r → ¬ wi (nI s.val - nI r.val) (nI 0) (nI 3) = 1 := by decide
  exact this ⟨r, by omega⟩ ⟨s, by omega⟩ hs h2
theorem g_pace {m w : Nat} (mo : mok z.2.2.2.1 z.2.2.1 z.1.2.1) (hJ : Mq z y (ll K S G c t j) h) (ok : lok K S G c t j) (hm : m < z.1.2.1) (hw : w ≤ 1) : Ec (d + 4) m_X9_pace [.ref 0, .int (nI m), .int (nI w)] h (fun v h' => v = some (.int (pcA w (pcS (fun r g => decide (rgt K c t j r g (msg z.2.2.2.1 z.2.2.1 m) z55 = (msg z.2.2.2.1 z.2.2.1 m).length)) 6 1))) ∧ Mq z y (ll K S G c t j) h') := by
  have h6 := mo.2.2.2.2
  have h8 := mok8 mo (show m < 6 by omega)
  have hzl := mo.2.2.1
  have hml := msg_len mo.1 (show m < 6 by omega) h8
  refine ec_in [some (.ref 0), some (.int (nI m)), some (.int (nI w)), none, none] rfl rfl ?_
  have w1 : wi (nI m) (nI 0) (nI (z.1.2.1 - 1)) = 1 := by rw [wi_n (by omega) (by omega) (by omega), if_pos (by omega)]
  have w2 : wi (nI w) (nI 0) (nI 1) = 1 := by rw [wi_n (by omega) (by omega) (by omega), if_pos (by omega)]
  obtain ⟨P, hP⟩ : ∃ P : Nat → Nat → Bool, P = fun r g => decide (rgt K c t j r g (msg z.2.2.2.1 z.2.2.1 m) z55 = (msg z.2.2.2.1 z.2.2.1 m).length) := ⟨_, rfl⟩
  rw [← hP]
  have R : ∀ (s : Nat) (X : Option (Nat × Nat)), s ≤ 6 → (∀ h1, MJ z y (ll K S G c t j) K c t j h1 → Ev (d + 4) m_X9_pace 92 [some (.ref 0), some (.int (nI m)), some (.int (nI w)), some (.int (nI s)), some (.int (nI 4))] [] h1 (fun v h' => v = some (.int (pcA w X)) ∧ Mq z y (ll K S G c t j) h')) → ∀ n r h1, r + n = 4 → 1 ≤ r → MJ z y (ll K S G c t j) K c t j h1 → Ev (d + 4) m_X9_pace 34 [some (.ref 0), some (.int (nI m)), some (.int (nI w)), some (.int (nI s)), some (.int (nI r))] [] h1 (fun v h' => v = some (.int (pcA w (match pcR P s n r with
    | some x => some x
    | none => X))) ∧ Mq z y (ll K S G c t j) h') := by
    intro s X hs kk n
    induction n with
    | zero =>
      intro r h1 hr h1r hJ1
      obtain rfl : r = 4 := by omega
      iterate 3 refine ev_nx rfl ?_
      refine ev_ge (fun b37 => ?_) (fun b37 => absurd b37 (by omega))
      exact kk h1 hJ1
    | succ n ih =>
      intro r h1 hr h1r hJ1
      rw [pcR]
      by_cases hrs : r ≤ s
      · have e1 := isp_n (r := r) (g := s - r) (by omega) (by omega)
        by_cases hg3 : s - r ≤ 3
        · rw [if_pos (by omega)] at e1
          have hle := rgt_le (K := K) (c := c) (t := t) (j := j) (r := r) (g := s - r) (msg z.2.2.2.1 z.2.2.1 m) z55
          iterate 3 refine ev_nx rfl ?_
          refine ev_ge (fun b37 => absurd b37 (by omega)) (fun b37 => ?_)
          iterate 3 refine ev_nx rfl ?_
          refine ev_sub rfl (by omega) ?_
          refine ev_si rfl rfl (by decide) rfl rfl rfl rfl (f_isPace _ _ _) ?_
          rw [e1]
          refine ev_nx rfl ?_
          refine ev_f (by decide) ?_
          iterate 5 refine ev_nx rfl ?_
          refine ev_sub rfl (by omega) ?_
          refine ev_v rfl rfl rfl rfl rfl rfl (MJ_0 hJ1) rfl (g_says mo (by omega) (by omega) (by omega) hJ1) (fun rv h2 q => ?_)
          obtain ⟨rfl, _, hJ2⟩ := q
          refine ev_nx rfl ?_
          refine ev_gf rfl rfl (MJ_0 hJ2) rfl ?_
          refine ev_nx rfl ?_
          refine ev_lN rfl (Mq_3 (MJ_Q hJ2)) (by omega) ?_
          refine ev_nx rfl ?_
          refine ev_ne (fun b69 => ?_) (fun b69 => ?_)
          · refine ev_inc rfl ⟨rfl, by decide⟩ rfl rfl ?_
            refine ev_nx rfl ?_
            rw [if_neg (by rw [hP]; simp only [decide_eq_true_eq]; omega)]
            exact ih (r + 1) h2 (by omega) (by omega) hJ2
          · iterate 2 refine ev_nx rfl ?_
            refine ev_ne0 (fun b73 => ?_) (fun b73 => ?_)
            · iterate 2 refine ev_nx rfl ?_
              refine ev_sub rfl (by omega) ?_
              rw [if_pos (by rw [hP]; simp only [decide_eq_true_eq]; omega)]
              exact ev_ri rfl rfl rfl ⟨by show _ = some (Value.int (if w = 0 then nI r else nI (s - r))); first | rw [if_pos b73] | rw [if_neg b73], MJ_Q hJ2⟩
            · iterate 2 refine ev_nx rfl ?_
              rw [if_pos (by rw [hP]; simp only [decide_eq_true_eq]; omega)]
              exact ev_ri rfl rfl rfl ⟨by show _ = some (Value.int (if w = 0 then nI r else nI (s - r))); first | rw [if_pos b73] | rw [if_neg b73], MJ_Q hJ2⟩
        · rw [if_neg (by omega)] at e1
          rw [if_neg (by omega)]
          iterate 3 refine ev_nx rfl ?_
          refine ev_ge (fun b37 => absurd b37 (by omega)) (fun b37 => ?_)
          iterate 3 refine ev_nx rfl ?_
          refine ev_sub rfl (by omega) ?_
          refine ev_si rfl rfl (by decide) rfl rfl rfl rfl (f_isPace _ _ _) ?_
          rw [e1]
          refine ev_nx rfl ?_
          refine ev_t (by decide) ?_
          refine ev_inc rfl ⟨rfl, by decide⟩ rfl rfl ?_
          refine ev_nx rfl ?_
          exact ih (r + 1) h1 (by omega) (by omega) hJ1
      · rw [if_neg (by omega)]
        have e1 := isp_neg (r := r) (s := s) (by omega) (by omega)
        iterate 3 refine ev_nx rfl ?_
        refine ev_ge (fun b37 => absurd b37 (by omega)) (fun b37 => ?_)
        iterate 3 refine ev_nx rfl ?_
        refine ev_nx rfl ?_
        refine ev_si rfl rfl (by decide) rfl rfl rfl rfl (f_isPace _ _ _) ?_
        rw [e1]
        refine ev_nx rfl ?_
        refine ev_t (by decide) ?_
        refine ev_inc rfl ⟨rfl, by decide⟩ rfl rfl ?_
        refine ev_nx rfl ?_
        exact ih (r + 1) h1 (by omega) (by omega) hJ1
  have H : ∀ n s h1 l4, s + n = 7 → MJ z y (ll K S G c t j) K c t j h1 → Ev (d + 4) m_X9_pace 25 [some (.ref 0), some (.int (nI m)), some (.int (nI w)), some (.int (nI s)), l4] [] h1 (fun v h' => v = some (.int (pcA w (pcS P n s))) ∧ Mq z y (ll K S G c t j) h') := by
    intro n
    induction n with
    | zero =>
      intro s h1 l4 hs hJ1
      iterate 3 refine ev_nx rfl ?_
      refine ev_ge (fun b28 => ?_) (fun b28 => absurd b28 (by omega))
      refine ev_nx rfl ?_
      exact ev_ri rfl rfl rfl ⟨rfl, MJ_Q hJ1⟩
    | succ n ih =>
      intro s h1 l4 hs hJ1
      rw [pcS]
      iterate 3 refine ev_nx rfl ?_
      refine ev_ge (fun b28 => absurd b28 (by omega)) (fun b28 => ?_)
      iterate 2 refine ev_nx rfl ?_
      refine R s (pcS P n (s + 1)) (by omega) (fun h2 hJ2 => ?_) 3 1 h1 rfl (by omega) hJ1
      refine ev_inc rfl ⟨rfl, by decide⟩ rfl rfl ?_
      refine ev_nx rfl ?_
      exact ih (s + 1) h2 _ (by omega) hJ2
  iterate 2 refine ev_nx rfl ?_
  refine ev_vi rfl rfl rfl rfl rfl rfl (Mq_0 hJ) rfl (f_isMessage hJ (by omega)) ?_
  rw [w1]
  refine ev_nx rfl ?_
  refine ev_f (by decide) ?_
  iterate 3 refine ev_nx rfl ?_
  refine ev_si rfl rfl (by decide) rfl rfl rfl rfl (f_in _ _ _ _) ?_
  rw [w2]
  refine ev_nx rfl ?_
  refine ev_t (by decide) ?_
  refine ev_nx rfl ?_
  refine ev_v rfl rfl rfl rfl rfl rfl (Mq_0 hJ) rfl (g_asItIs hJ ok) (fun rv h1 q => ?_)
  obtain ⟨rfl, hJ1⟩ := q
  iterate 2 refine ev_nx rfl ?_
  exact H 6 1 h1 _ rfl hJ1
theorem g_clearOf {r n : Nat} (hJ : JL z y st K c t j re rl br pt_ wo h) (hr : r < 1000) (hn : n ≤ 30) : Ec (d + 4) m_X9_clearOf [.ref 0, .int (nI r), .int (nI n)] h (fun v h' => v = some (.int (nI (clf (fs_ K c t j r) n 0 0))) ∧ JL z y st K c t j re rl br pt_ wo h') := by
  refine ec_in [some (.ref 0), some (.int (nI r)), some (.int (nI n)), none, none] rfl rfl ?_
  have okz : lok K z5 z5 c t j := by obtain ⟨S, G, ok, _⟩ := hJ; exact lok_rest ok
  have H : ∀ k s w h1, s + k = n → JL z y st K c t j re rl br pt_ wo h1 → Ev (d + 4) m_X9_clearOf 5 [some (.ref 0), some (.int (nI r)), some (.int (nI n)), some (.int (nI w)), some (.int (nI s))] [] h1 (fun v h' => v = some (.int (nI (clf (fs_ K c t j r) k s w))) ∧ JL z y st K c t j re rl br pt_ wo h') := by
    intro k
    induction k with
    | zero =>
      intro s w h1 hs hJ1
      iterate 3 refine ev_nx rfl ?_
      refine ev_ge (fun b8 => ?_) (fun b8 => absurd b8 (by omega))
      refine ev_nx rfl ?_
      exact ev_ri rfl rfl rfl ⟨rfl, hJ1⟩
    | succ k ih =>
      intro s w h1 hs hJ1
      rw [clf]
      have hf := fs_lt (r := r) okz (show s < 31 by omega)
      have h0 : h1[0]? = some (xo z.1.1 z.1.2.1 z.1.2.2.1 z.1.2.2.2.1 z.1.2.2.2.2.1 z.1.2.2.2.2.2 y.1 y.2.1 y.2.2.1) := by
        obtain ⟨S, G, ok, be, ge, _, _, rfl⟩ := hJ1; rfl
      iterate 3 refine ev_nx rfl ?_
      refine ev_ge (fun b8 => absurd b8 (by omega)) (fun b8 => ?_)
      iterate 4 refine ev_nx rfl ?_
      refine ev_v rfl rfl rfl rfl rfl rfl h0 rfl (f_sent hJ1 (by omega) hr) (fun rv h2 q => ?_)
      obtain ⟨rfl, hJ2⟩ := q
      show Ev _ _ _ _ (.int (nI (fs_ K c t j r s)) :: _) _ _
      iterate 2 refine ev_nx rfl ?_
      refine ev_ne (fun b21 => ?_) (fun b21 => ?_)
      · refine ev_nx rfl ?_
        refine ev_or rfl ?_
        refine ev_nx rfl ?_
        refine ev_inc rfl ⟨rfl, by decide⟩ rfl rfl ?_
        refine ev_nx rfl ?_
        first | rw [if_pos b21] | (rw [if_neg b21, Nat.or_zero])
        exact ih (s + 1) _ h2 (by omega) hJ2
      · iterate 2 refine ev_nx rfl ?_
        refine ev_sh1 rfl (by omega) ?_
        refine ev_nx rfl ?_
        refine ev_or rfl ?_
        refine ev_nx rfl ?_
        refine ev_inc rfl ⟨rfl, by decide⟩ rfl rfl ?_
        refine ev_nx rfl ?_
        first | rw [if_pos b21] | (rw [if_neg b21, Nat.or_zero])
        exact ih (s + 1) _ h2 (by omega) hJ2
  iterate 4 refine ev_nx rfl ?_
  exact H n 0 0 h (by omega) hJ
theorem g_clear {r : Nat} (hJ : Mq z y (ll K S G c t j) h) (ok : lok K S G c t j) (hr : 1 ≤ r ∧ r ≤ 3) : Ec (d + 5) m_X9_clear [.ref 0, .int (nI r)] h (fun v h' => v = some (.int (nI (clf (fs_ K c t j r) 30 0 0))) ∧ Mq z y (ll K S G c t j) h') := by
  refine ec_in [some (.ref 0), some (.int (nI r))] rfl rfl ?_
  have w1 : wi (nI r) (nI 1) (nI 3) = 1 := by rw [wi_n (by omega) (by omega) (by omega), if_pos (by omega)]
  iterate 3 refine ev_nx rfl ?_
  refine ev_si rfl rfl (by decide) rfl rfl rfl rfl (f_in _ _ _ _) ?_
  rw [w1]
  refine ev_nx rfl ?_
  refine ev_t (by decide) ?_
  refine ev_nx rfl ?_
  refine ev_v rfl rfl rfl rfl rfl rfl (Mq_0 hJ) rfl (g_asItIs hJ ok) (fun rv h1 q => ?_)
  obtain ⟨rfl, hJ1⟩ := q
  have h0 := MJ_0 hJ1
  obtain ⟨re, rl, br, pt_, wo, hl, hJ1⟩ := hJ1
  iterate 3 refine ev_nx rfl ?_
  refine ev_v rfl rfl rfl rfl rfl rfl h0 rfl (g_clearOf hJ1 (by omega) (by omega)) (fun rv h2 q => ?_)
  obtain ⟨rfl, hJ2⟩ := q
  exact ev_ri rfl rfl rfl ⟨rfl, MJ_Q ⟨re, rl, br, pt_, wo, hl, hJ2⟩⟩
theorem g_like {s : Nat} (hJ : Mq z y (ll K S G c t j) h) (ok : lok K S G c t j) (hs : s ≤ 30) : Ec (d + 4) m_X9_like [.ref 0, .int (nI s)] h (fun v h' => v = some (.int (nI (lkr (fs_ K c t j 1) (fs_ K c t j 1 s) s 0))) ∧ Mq z y (ll K S G c t j) h') := by
  refine ec_in [some (.ref 0), some (.int (nI s)), none, none] rfl rfl ?_
  have w1 : wi (nI s) (nI 0) (nI 30) = 1 := by rw [wi_n (by omega) (by omega) (by omega), if_pos (by omega)]
  have okz := lok_rest ok
  have hfs := fs_lt (r := 1) okz (show s < 31 by omega)
  have H : ∀ n k h1, k + n = s → MJ z y (ll K S G c t j) K c t j h1 → Ev (d + 4) m_X9_like 25 [some (.ref 0), some (.int (nI s)), some (.int (nI (fs_ K c t j 1 s))), some (.int (nI k))] [] h1 (fun v h' => v = some (.int (nI (lkr (fs_ K c t j 1) (fs_ K c t j 1 s) n k))) ∧ Mq z y (ll K S G c t j) h') := by
    intro n
    induction n with
    | zero =>
      intro k h1 hk hJ1
      obtain rfl : k = s := by omega
      iterate 3 refine ev_nx rfl ?_
      refine ev_v rfl rfl rfl rfl rfl rfl (MJ_0 hJ1) rfl (g_sent hJ1 (by omega) (by omega)) (fun rv h2 q => ?_)
      obtain ⟨rfl, hJ2⟩ := q
      show Ev _ _ _ _ (.int (nI (fs_ K c t j 1 k)) :: _) _ _
      iterate 2 refine ev_nx rfl ?_
      refine ev_eq (fun b32 => ?_) (fun b32 => absurd b32 (by omega))
      refine ev_nx rfl ?_
      exact ev_ri rfl rfl rfl ⟨rfl, MJ_Q hJ2⟩
    | succ n ih =>
      intro k h1 hk hJ1
      rw [lkr]
      have hf := fs_lt (r := 1) okz (show k < 31 by omega)
      iterate 3 refine ev_nx rfl ?_
      refine ev_v rfl rfl rfl rfl rfl rfl (MJ_0 hJ1) rfl (g_sent hJ1 (by omega) (by omega)) (fun rv h2 q => ?_)
      obtain ⟨rfl, hJ2⟩ := q
      show Ev _ _ _ _ (.int (nI (fs_ K c t j 1 k)) :: _) _ _
      iterate 2 refine ev_nx rfl ?_
      refine ev_eq (fun b32 => ?_) (fun b32 => ?_)
      · refine ev_nx rfl ?_
        rw [if_pos b32]
        exact ev_ri rfl rfl rfl ⟨rfl, MJ_Q hJ2⟩
      · refine ev_inc rfl ⟨rfl, by decide⟩ rfl rfl ?_
        refine ev_nx rfl ?_
        rw [if_neg b32]
        exact ih (k + 1) h2 (by omega) hJ2
  iterate 3 refine ev_nx rfl ?_
  refine ev_si rfl rfl (by decide) rfl rfl rfl rfl (f_in _ _ _ _) ?_
  rw [w1]
  refine ev_nx rfl ?_
  refine ev_t (by decide) ?_
  refine ev_nx rfl ?_
  refine ev_v rfl rfl rfl rfl rfl rfl (Mq_0 hJ) rfl (g_asItIs hJ ok) (fun rv h1 q => ?_)
  obtain ⟨rfl, hJ1⟩ := q
  iterate 3 refine ev_nx rfl ?_
  refine ev_v rfl rfl rfl rfl rfl rfl (MJ_0 hJ1) rfl (g_sent hJ1 (by omega) (by omega)) (fun rv h2 q => ?_)
  obtain ⟨rfl, hJ2⟩ := q
  show Ev _ _ _ _ (.int (nI (fs_ K c t j 1 s)) :: _) _ _
  iterate 3 refine ev_nx rfl ?_
  exact H s 0 h2 (by omega) hJ2
end XH
end
section
/-! the reference: mending, changing -/
theorem ev_sq {d : Nat} {m : aM} {pc np r x : Nat} {L : aL} {S : List Value} {h : aH} {Q Q1 : Option Value → aH → Prop} {o x' c n k : Nat} {as : List Value} {m' : aM} (hc : am_cd m pc = some (.invokestatic x, np, r)) (hq : am_ms[r]? = some (o, x', c, k, n)) (hk : k = 1 ∨ k = 4) (hl : n.ble S.length = true) (ht : (S.take n).reverse = as) (hsum : (am_sum (S.drop n)).ble 8 = true) (hm : am_tab[c]? = some m') (hcall : Ec d m' as h Q1) (kk : ∀ rv h2, Q1 rv h2 → Ev (d + 1) m np L (rv.toList ++ S.drop n) h2 Q) : Ev (d + 1) m pc L S h Q := by
  refine ev_call (c := c) (as := as) (pc' := np) (L' := L) (S' := S.drop n) (h' := h) ?_ hm hcall kk
  simp only [am_go, hc, am_op, hq]
  subst ht
  have e : ∀ k, k = 1 ∨ k = 4 → am_call (o, x', c, k, n) np L S h = (if n ≤ S.length ∧ am_sum (S.drop n) ≤ 8 then some (.inr (.inr (c, (S.take n).reverse, np, L, S.drop n, h))) else none) := by
    rintro k (rfl | rfl) <;> rfl
  rw [e k hk, if_pos ⟨Nat.le_of_ble_eq_true hl, Nat.le_of_ble_eq_true hsum⟩]
/-- the set of the fewest, of several the least -/
def mnF (P : Nat → Bool) : Nat → Nat → Option Nat → Option Nat
  | 0, _, b => b
  | n + 1, k, b => mnF P n (k + 1) (if P k = true ∧ (∀ x, b = some x → pcn k < pcn x) then some k else b)
/-- the best change of a place with those behind it -/
def chQ (f : Nat → Nat → Nat) (p : Nat) : Nat → Nat → Option Nat × Nat → Option Nat × Nat
  | 0, _, s => s
  | n + 1, q, s => chQ f p n (q + 1) (if s.2 < f p q then (some (10 * p + q), f p q) else s)
def chP (f : Nat → Nat → Nat) : Nat → Nat → Option Nat × Nat → Option Nat × Nat
  | 0, _, s => s
  | n + 1, p, s => chP f n (p + 1) (chQ f p (4 - p) (p + 1) s)
def chA (w : Nat) (s : Option Nat × Nat) : Int32 := match s.1 with
  | none => -(nI 4)
  | some b => if w = 0 then nI b else nI s.2
/-- one wire of a set is mended -/
def md1 (w p : Nat) (x : Nat × Nat × Nat) : Nat × Nat × Nat := if bt w p = 1 then (clr x.1 (1 * 2 ^ p), clr x.2.1 (1 * 2 ^ p), clr x.2.2 (mdj (1 * 2 ^ p))) else x
def md5 (w : Nat) (x : Nat × Nat × Nat) : Nat × Nat × Nat := md1 w 4 (md1 w 3 (md1 w 2 (md1 w 1 (md1 w 0 x))))
def mc1 (w p c : Nat) : Nat := if bt w p = 1 then clr c (1 * 2 ^ p) else c
def mj1 (w p c : Nat) : Nat := if bt w p = 1 then clr c (mdj (1 * 2 ^ p)) else c
theorem md1_e (w p c t j : Nat) : md1 w p (c, t, j) = (mc1 w p c, mc1 w p t, mj1 w p j) := by
  unfold md1 mc1 mj1; split <;> rfl
theorem mc5 : ∀ w c : Fin 32, mc1 w.val 4 (mc1 w.val 3 (mc1 w.val 2 (mc1 w.val 1 (mc1 w.val 0 c.val)))) = clr c.val w.val := by decide +kernel
theorem mj5 : ∀ w : Fin 32, ∀ c : Fin 16, mj1 w.val 4 (mj1 w.val 3 (mj1 w.val 2 (mj1 w.val 1 (mj1 w.val 0 c.val)))) = clr c.val (mdj w.val) := by decide +kernel
theorem md5_e {w c t j : Nat} (hw : w < 32) (hc : c < 32) (ht : t < 32) (hj : j < 16) : md5 w (c, t, j) = (clr c w, clr t w, clr j (mdj w)) := by
  unfold md5
  rw [md1_e, md1_e, md1_e, md1_e, md1_e]
  rw [mc5 ⟨w, hw⟩ ⟨c, hc⟩, mc5 ⟨w, hw⟩ ⟨t, ht⟩, mj5 ⟨w, hw⟩ ⟨j, hj⟩]
section XI
variable {d : Nat} {h : aH} {Q : Option Value → aH → Prop} {z : aZ} {y : aY} {st nw be ge re rl br pt_ : List Nat} {wo : List Int32} {K S G C K' : List Nat} {c t j c' t' j' : Nat}
theorem g_mends {p : Nat} (hJ : MJ z y st K c t j h) (hp : p < 5) : Ec d m_X9_mends [.ref 6, .int (nI p)] h (fun r h' => r = none ∧ MJ z y st K (clr c (1 * 2 ^ p)) (clr t (1 * 2 ^ p)) (clr j (mdj (1 * 2 ^ p))) h') := by
  obtain ⟨re, rl, br, pt_, wo, hl, S, G, ok, be, ge, hbe, hge, rfl⟩ := hJ
  refine ec_mono (f_mends (a := 6) ok rfl (by decide) hp) ?_
  rintro r h' ⟨rfl, rfl⟩
  exact ⟨rfl, re, rl, br, pt_, wo, hl, S, G, lok_md ok, be, ge, hbe, hge, rfl⟩
theorem g_changes {p q : Nat} (hJ : MJ z y st K c t j h) (hp : p < 5) (hq : q < 5) : Ec d m_X9_changes [.ref 6, .int (nI p), .int (nI q)] h (fun r h' => r = none ∧ MJ z y st (swp K p q) c t j h') := by
  obtain ⟨re, rl, br, pt_, wo, hl, S, G, ok, be, ge, hbe, hge, rfl⟩ := hJ
  refine ec_mono (f_changes (a := 6) ok rfl (by decide) hp hq) ?_
  rintro r h' ⟨rfl, rfl⟩
  exact ⟨rfl, re, rl, br, pt_, wo, hl, _, _, lok_sw ok hp hq, be, ge, hbe, hge, rfl⟩
theorem it_mn {m r g w p : Nat} {x : Nat × Nat × Nat} {bb : Int32} (hw : w < 32) (hp : p < 5) (hJ : MJ z y st K x.1 x.2.1 x.2.2 h) (k : ∀ h1, MJ z y st K (md1 w p x).1 (md1 w p x).2.1 (md1 w p x).2.2 h1 → Ev (d + 4) m_X9_mending 39 [some (.ref 0), some (.int (nI m)), some (.int (nI r)), some (.int (nI g)), some (.int bb), some (.int (nI w)), some (.int (nI (p + 1)))] [] h1 Q) : Ev (d + 4) m_X9_mending 39 [some (.ref 0), some (.int (nI m)), some (.int (nI r)), some (.int (nI g)), some (.int bb), some (.int (nI w)), some (.int (nI p))] [] h Q := by
  have hb := bt_lt w p
  iterate 3 refine ev_nx rfl ?_
  refine ev_ge (fun b42 => absurd b42 (by omega)) (fun b42 => ?_)
  iterate 2 refine ev_nx rfl ?_
  refine ev_shr rfl (by omega) (by omega) ?_
  refine ev_nx rfl ?_
  refine ev_bit rfl (by omega) ?_
  iterate 2 refine ev_nx rfl ?_
  refine ev_ne (fun b53 => ?_) (fun b53 => ?_)
  · refine ev_inc rfl ⟨rfl, by decide⟩ rfl rfl ?_
    refine ev_nx rfl ?_
    first | exact k h (by rw [md1, if_neg b53]; exact hJ) | exact k h2 (by rw [md1, if_pos b53]; exact hJ2)
  · refine ev_nx rfl ?_
    refine ev_gf rfl rfl (MJ_0 hJ) rfl ?_
    refine ev_nx rfl ?_
    refine ev_sq rfl rfl (by decide) rfl rfl rfl rfl (g_mends hJ hp) (fun rv h2 q => ?_)
    obtain ⟨rfl, hJ2⟩ := q
    refine ev_inc rfl ⟨rfl, by decide⟩ rfl rfl ?_
    refine ev_nx rfl ?_
    first | exact k h (by rw [md1, if_neg b53]; exact hJ) | exact k h2 (by rw [md1, if_pos b53]; exact hJ2)
theorem g_mending {m r g : Nat} (mo : mok z.2.2.2.1 z.2.2.1 z.1.2.1) (hJ : Mq z y (ll K S G c t j) h) (ok : lok K S G c t j) (hm : m < z.1.2.1) (hr : 1 ≤ r ∧ r ≤ 3) (hg : g ≤ 3) : Ec (d + 4) m_X9_mending [.ref 0, .int (nI m), .int (nI r), .int (nI g)] h (fun v h' => v = some (.int (eo (mnF (fun w => decide (rgt K (clr c w) (clr t w) (clr j (mdj w)) r g (msg z.2.2.2.1 z.2.2.1 m) z55 = (msg z.2.2.2.1 z.2.2.1 m).length)) 32 0 none))) ∧ Mq z y (ll K S G c t j) h') := by
  have h6 := mo.2.2.2.2
  have h8 := mok8 mo (show m < 6 by omega)
  have hzl := mo.2.2.1
  have hml := msg_len mo.1 (show m < 6 by omega) h8
  refine ec_in [some (.ref 0), some (.int (nI m)), some (.int (nI r)), some (.int (nI g)), none, none, none] rfl rfl ?_
  have w1 : wi (nI m) (nI 0) (nI (z.1.2.1 - 1)) = 1 := by rw [wi_n (by omega) (by omega) (by omega), if_pos (by omega)]
  have w2 : isp (nI r) (nI g) = 1 := by rw [isp_n (by omega) (by omega), if_pos (by omega)]
  obtain ⟨P, hP⟩ : ∃ P : Nat → Bool, P = fun w => decide (rgt K (clr c w) (clr t w) (clr j (mdj w)) r g (msg z.2.2.2.1 z.2.2.1 m) z55 = (msg z.2.2.2.1 z.2.2.1 m).length) := ⟨_, rfl⟩
  rw [← hP]
  have H : ∀ n w b h1 l6, w + n = 32 → (∀ x, b = some x → x < 32) → Mq z y (ll K S G c t j) h1 → Ev (d + 4) m_X9_mending 25 [some (.ref 0), some (.int (nI m)), some (.int (nI r)), some (.int (nI g)), some (.int (eo b)), some (.int (nI w)), l6] [] h1 (fun v h' => v = some (.int (eo (mnF P n w b))) ∧ Mq z y (ll K S G c t j) h') := by
    intro n
    induction n with
    | zero =>
      intro w b h1 l6 hw hb hJ1
      iterate 3 refine ev_nx rfl ?_
      refine ev_ge (fun b29 => ?_) (fun b29 => absurd b29 (by omega))
      refine ev_nx rfl ?_
      exact ev_ri rfl rfl rfl ⟨rfl, hJ1⟩
    | succ n ih =>
      intro w b h1 l6 hw hb hJ1
      rw [mnF]
      iterate 3 refine ev_nx rfl ?_
      refine ev_ge (fun b29 => absurd b29 (by omega)) (fun b29 => ?_)
      refine ev_nx rfl ?_
      refine ev_v rfl rfl rfl rfl rfl rfl (Mq_0 hJ1) rfl (g_asItIs hJ1 ok) (fun rv h2 q => ?_)
      obtain ⟨rfl, hJ2⟩ := q
      iterate 2 refine ev_nx rfl ?_
      refine it_mn (p := 0) (x := (c, t, j)) (by omega) (by decide) hJ2 (fun h2 hJ2 => ?_)
      refine it_mn (p := 1) (by omega) (by decide) hJ2 (fun h2 hJ2 => ?_)
      refine it_mn (p := 2) (by omega) (by decide) hJ2 (fun h2 hJ2 => ?_)
      refine it_mn (p := 3) (by omega) (by decide) hJ2 (fun h2 hJ2 => ?_)
      refine it_mn (p := 4) (by omega) (by decide) hJ2 (fun h2 hJ2 => ?_)
      have hJ3 : MJ z y (ll K S G c t j) K (clr c w) (clr t w) (clr j (mdj w)) h2 := by
        have q : MJ z y (ll K S G c t j) K (md5 w (c, t, j)).1 (md5 w (c, t, j)).2.1 (md5 w (c, t, j)).2.2 h2 := hJ2
        rw [md5_e (by omega) ok.2.2.2.1 ok.2.2.2.2.1 ok.2.2.2.2.2] at q
        exact q
      have hle := rgt_le (K := K) (c := clr c w) (t := clr t w) (j := clr j (mdj w)) (r := r) (g := g) (msg z.2.2.2.1 z.2.2.1 m) z55
      have hPk : P w = true ↔ rgt K (clr c w) (clr t w) (clr j (mdj w)) r g (msg z.2.2.2.1 z.2.2.1 m) z55 = z.2.2.1.getD m 0 := by rw [hP, ← hml]; simp only [decide_eq_true_eq]
      have pl : ∀ w n k, pc_ w n k ≤ n := by
        intro w n
        induction n with
        | zero => intro k; exact Nat.le_refl _
        | succ n ih => intro k; rw [pc_]; have := ih (k + 1); have := bt_lt w k; omega
      have pcl : ∀ w, pcn w ≤ 30 := fun w => pl w 30 0
      have fin : ∀ h3 l6, Mq z y (ll K S G c t j) h3 → Ev (d + 4) m_X9_mending 128 [some (.ref 0), some (.int (nI m)), some (.int (nI r)), some (.int (nI g)), some (.int (eo (if P w = true ∧ (∀ x, b = some x → pcn w < pcn x) then some w else b))), some (.int (nI w)), l6] [] h3 (fun v h' => v = some (.int (eo (mnF P n (w + 1) (if P w = true ∧ (∀ x, b = some x → pcn w < pcn x) then some w else b)))) ∧ Mq z y (ll K S G c t j) h') := by
        intro h3 l6 hJ3
        refine ev_inc rfl ⟨rfl, by decide⟩ rfl rfl ?_
        refine ev_nx rfl ?_
        refine ih (w + 1) _ h3 _ (by omega) ?_ hJ3
        intro x hx
        split at hx
        · cases hx; omega
        · exact hb x hx
      have K0 : ∀ h3, Mq z y (ll K S G c t j) h3 → ¬ P w = true → Ev (d + 4) m_X9_mending 92 [some (.ref 0), some (.int (nI m)), some (.int (nI r)), some (.int (nI g)), some (.int (eo b)), some (.int (nI w)), some (.int (nI (4 + 1)))] [.int (nI 0)] h3 (fun v h' => v = some (.int (eo (mnF P n (w + 1) (if P w = true ∧ (∀ x, b = some x → pcn w < pcn x) then some w else b)))) ∧ Mq z y (ll K S G c t j) h') := by
        intro h3 hQ hn
        rw [if_neg (show ¬ (P w = true ∧ ∀ x, b = some x → pcn w < pcn x) from fun q => hn q.1)] at fin ⊢
        iterate 3 refine ev_nx rfl ?_
        refine ev_t (by decide) ?_
        iterate 2 refine ev_nx rfl ?_
        exact fin h3 _ hQ
      have K1 : ∀ h3, Mq z y (ll K S G c t j) h3 → P w = true → Ev (d + 4) m_X9_mending 92 [some (.ref 0), some (.int (nI m)), some (.int (nI r)), some (.int (nI g)), some (.int (eo b)), some (.int (nI w)), some (.int (nI (4 + 1)))] [.int (nI 1)] h3 (fun v h' => v = some (.int (eo (mnF P n (w + 1) (if P w = true ∧ (∀ x, b = some x → pcn w < pcn x) then some w else b)))) ∧ Mq z y (ll K S G c t j) h') := by
        intro h3 hQ hPw
        cases b with
        | none =>
          rw [if_pos (show (P w = true ∧ ∀ x, (none : Option Nat) = some x → pcn w < pcn x) from ⟨hPw, fun x e => (by cases e)⟩)] at fin ⊢
          iterate 3 refine ev_nx rfl ?_
          refine ev_f (by decide) ?_
          iterate 3 refine ev_nx rfl ?_
          refine ev_t (by decide) ?_
          iterate 3 refine ev_nx rfl ?_
          exact fin h3 _ hQ
        | some x =>
          have hx := hb x rfl
          have q1 := pcl w
          have q2 := pcl x
          iterate 3 refine ev_nx rfl ?_
          refine ev_f (by decide) ?_
          iterate 2 refine ev_nx rfl ?_
          skip
          refine ev_nx rfl ?_
          refine ev_if (fun q => absurd (show nI x = -(nI 4) by simpa [am_c2, eo] using q) (eo_c (show x < 1000 by omega))) (fun _ => ?_)
          refine ev_nx rfl ?_
          refine ev_si rfl rfl (by decide) rfl rfl rfl rfl (f_bits (by omega)) ?_
          refine ev_nx rfl ?_
          refine ev_si rfl rfl (by decide) rfl rfl rfl rfl (f_bits (w := x) (by omega)) ?_
          refine ev_nx rfl ?_
          refine ev_ge (fun b116 => ?_) (fun b116 => ?_)
          · iterate 2 refine ev_nx rfl ?_
            first | (rw [if_neg (show ¬ (P w = true ∧ ∀ y, some x = some y → pcn w < pcn y) from fun q => absurd (q.2 x rfl) (by omega))] at fin ⊢; exact fin h3 _ hQ) | (rw [if_pos (show (P w = true ∧ ∀ y, some x = some y → pcn w < pcn y) from ⟨hPw, fun y e => (by cases e; omega)⟩)] at fin ⊢; exact fin h3 _ hQ)
          · iterate 3 refine ev_nx rfl ?_
            first | (rw [if_neg (show ¬ (P w = true ∧ ∀ y, some x = some y → pcn w < pcn y) from fun q => absurd (q.2 x rfl) (by omega))] at fin ⊢; exact fin h3 _ hQ) | (rw [if_pos (show (P w = true ∧ ∀ y, some x = some y → pcn w < pcn y) from ⟨hPw, fun y e => (by cases e; omega)⟩)] at fin ⊢; exact fin h3 _ hQ)
      iterate 3 refine ev_nx rfl ?_
      refine ev_ge (fun b42 => ?_) (fun b42 => absurd b42 (by omega))
      iterate 4 refine ev_nx rfl ?_
      refine ev_v rfl rfl rfl rfl rfl rfl (MJ_0 hJ3) rfl (g_says mo (by omega) (by omega) (by omega) hJ3) (fun rv h3 q => ?_)
      obtain ⟨rfl, -, hJ4⟩ := q
      have hQ := MJ_Q hJ4
      refine ev_nx rfl ?_
      refine ev_gf rfl rfl (Mq_0 hQ) rfl ?_
      refine ev_nx rfl ?_
      refine ev_lN rfl (Mq_3 hQ) (by omega) ?_
      refine ev_nx rfl ?_
      refine ev_ne (fun b84 => ?_) (fun b84 => ?_)
      · refine ev_nx rfl ?_
        first | exact K0 h3 hQ (fun q => b84 (hPk.mp q)) | exact K1 h3 hQ (hPk.mpr b84)
      · iterate 2 refine ev_nx rfl ?_
        first | exact K0 h3 hQ (fun q => b84 (hPk.mp q)) | exact K1 h3 hQ (hPk.mpr b84)
  iterate 2 refine ev_nx rfl ?_
  refine ev_vi rfl rfl rfl rfl rfl rfl (Mq_0 hJ) rfl (f_isMessage hJ (by omega)) ?_
  rw [w1]
  refine ev_nx rfl ?_
  refine ev_f (by decide) ?_
  iterate 2 refine ev_nx rfl ?_
  refine ev_si rfl rfl (by decide) rfl rfl rfl rfl (f_isPace _ _ _) ?_
  rw [w2]
  refine ev_nx rfl ?_
  refine ev_t (by decide) ?_
  iterate 4 refine ev_nx rfl ?_
  exact H 32 0 none h _ rfl (fun x e => (by cases e)) hJ
theorem g_changing {m r g w : Nat} (mo : mok z.2.2.2.1 z.2.2.1 z.1.2.1) (hJ : Mq z y (ll K S G c t j) h) (ok : lok K S G c t j) (hm : m < z.1.2.1) (hr : 1 ≤ r ∧ r ≤ 3) (hg : g ≤ 3) (hw : w ≤ 1) : Ec (d + 4) m_X9_changing [.ref 0, .int (nI m), .int (nI r), .int (nI g), .int (nI w)] h (fun v h' => v = some (.int (chA w (chP (fun p q => rgt (swp K p q) c t j r g (msg z.2.2.2.1 z.2.2.1 m) z55) 5 0 (none, rgt K c t j r g (msg z.2.2.2.1 z.2.2.1 m) z55)))) ∧ Mq z y (ll K S G c t j) h') := by
  have h6 := mo.2.2.2.2
  have h8 := mok8 mo (show m < 6 by omega)
  have hml := msg_len mo.1 (show m < 6 by omega) h8
  refine ec_in [some (.ref 0), some (.int (nI m)), some (.int (nI r)), some (.int (nI g)), some (.int (nI w)), none, none, none, none, none] rfl rfl ?_
  have w1 : wi (nI m) (nI 0) (nI (z.1.2.1 - 1)) = 1 := by rw [wi_n (by omega) (by omega) (by omega), if_pos (by omega)]
  have w2 : isp (nI r) (nI g) = 1 := by rw [isp_n (by omega) (by omega), if_pos (by omega)]
  have w3 : wi (nI w) (nI 0) (nI 1) = 1 := by rw [wi_n (by omega) (by omega) (by omega), if_pos (by omega)]
  obtain ⟨f, hf⟩ : ∃ f : Nat → Nat → Nat, f = fun p q => rgt (swp K p q) c t j r g (msg z.2.2.2.1 z.2.2.1 m) z55 := ⟨_, rfl⟩
  rw [← hf]
  have hfl : ∀ p q, f p q ≤ 8 := fun p q => by rw [hf]; exact Nat.le_trans (rgt_le _ _) (by omega)
  have Hq : ∀ (Q : Option Value → aH → Prop) (p : Nat) (T : Option Nat × Nat), p < 5 → (∀ h1 l9, Mq z y (ll K S G c t j) h1 → Ev (d + 4) m_X9_changing 134 [some (.ref 0), some (.int (nI m)), some (.int (nI r)), some (.int (nI g)), some (.int (nI w)), some (.int (eo T.1)), some (.int (nI T.2)), some (.int (nI p)), some (.int (nI 5)), l9] [] h1 Q) → ∀ n q s h1 l9, q + n = 5 → p < q → s.2 ≤ 8 → T = chQ f p n q s → Mq z y (ll K S G c t j) h1 → Ev (d + 4) m_X9_changing 60 [some (.ref 0), some (.int (nI m)), some (.int (nI r)), some (.int (nI g)), some (.int (nI w)), some (.int (eo s.1)), some (.int (nI s.2)), some (.int (nI p)), some (.int (nI q)), l9] [] h1 Q := by
    intro Q p T hp kk n
    induction n with
    | zero =>
      intro q s h1 l9 hq hpq hs hT hJ1
      obtain rfl : q = 5 := by omega
      obtain rfl : T = s := hT
      iterate 3 refine ev_nx rfl ?_
      refine ev_ge (fun b63 => ?_) (fun b63 => absurd b63 (by omega))
      exact kk h1 _ hJ1
    | succ n ih =>
      intro q s h1 l9 hq hpq hs hT hJ1
      rw [chQ] at hT
      have hfq := hfl p q
      iterate 3 refine ev_nx rfl ?_
      refine ev_ge (fun b63 => absurd b63 (by omega)) (fun b63 => ?_)
      refine ev_nx rfl ?_
      refine ev_v rfl rfl rfl rfl rfl rfl (Mq_0 hJ1) rfl (g_asItIs hJ1 ok) (fun rv h2 q => ?_)
      obtain ⟨rfl, hJ2⟩ := q
      refine ev_nx rfl ?_
      refine ev_gf rfl rfl (MJ_0 hJ2) rfl ?_
      iterate 2 refine ev_nx rfl ?_
      refine ev_sq rfl rfl (by decide) rfl rfl rfl rfl (g_changes hJ2 hp (by omega)) (fun rv h3 q => ?_)
      obtain ⟨rfl, hJ3⟩ := q
      iterate 4 refine ev_nx rfl ?_
      refine ev_v rfl rfl rfl rfl rfl rfl (MJ_0 hJ3) rfl (g_says mo (by omega) (by omega) (by omega) hJ3) (fun rv h4 qq => ?_)
      obtain ⟨rfl, -, hJ4⟩ := qq
      have hQ := MJ_Q hJ4
      have ef : rgt (swp K p q) c t j r g (msg z.2.2.2.1 z.2.2.1 m) z55 = f p q := by rw [hf]
      rw [ef]
      iterate 4 refine ev_nx rfl ?_
      refine ev_leq (fun b94 => ?_) (fun b94 => ?_)
      · iterate 5 refine ev_nx rfl ?_
        refine ev_leq (fun b116 => ?_) (fun b116 => ?_)
        · iterate 2 refine ev_nx rfl ?_
          refine ev_inc rfl ⟨rfl, by decide⟩ rfl rfl ?_
          refine ev_nx rfl ?_
          first | exact ih (q + 1) (some (10 * p + q), f p q) h4 _ (by omega) (by omega) hfq (by rw [hT, if_pos b94]) hQ | exact ih (q + 1) s h4 _ (by omega) (by omega) hs (by rw [hT, if_neg (by omega)]) hQ | (exfalso; omega)
        · iterate 3 refine ev_nx rfl ?_
          refine ev_inc rfl ⟨rfl, by decide⟩ rfl rfl ?_
          refine ev_nx rfl ?_
          first | exact ih (q + 1) (some (10 * p + q), f p q) h4 _ (by omega) (by omega) hfq (by rw [hT, if_pos b94]) hQ | exact ih (q + 1) s h4 _ (by omega) (by omega) hs (by rw [hT, if_neg (by omega)]) hQ | (exfalso; omega)
      · iterate 2 refine ev_nx rfl ?_
        refine ev_mul rfl ?_
        refine ev_nx rfl ?_
        refine ev_add rfl ?_
        iterate 5 refine ev_nx rfl ?_
        refine ev_leq (fun b116 => ?_) (fun b116 => ?_)
        · iterate 2 refine ev_nx rfl ?_
          refine ev_inc rfl ⟨rfl, by decide⟩ rfl rfl ?_
          refine ev_nx rfl ?_
          first | exact ih (q + 1) (some (10 * p + q), f p q) h4 _ (by omega) (by omega) hfq (by rw [hT, if_pos b94]) hQ | exact ih (q + 1) s h4 _ (by omega) (by omega) hs (by rw [hT, if_neg (by omega)]) hQ | (exfalso; omega)
        · iterate 3 refine ev_nx rfl ?_
          refine ev_inc rfl ⟨rfl, by decide⟩ rfl rfl ?_
          refine ev_nx rfl ?_
          first | exact ih (q + 1) (some (10 * p + q), f p q) h4 _ (by omega) (by omega) hfq (by rw [hT, if_pos b94]) hQ | exact ih (q + 1) s h4 _ (by omega) (by omega) hs (by rw [hT, if_neg (by omega)]) hQ | (exfalso; omega)
  have chl : ∀ p n q s, s.2 ≤ 8 → (chQ f p n q s).2 ≤ 8 := by
    intro p n
    induction n with
    | zero => intro q s hs; exact hs
    | succ n ih =>
      intro q s hs
      rw [chQ]
      refine ih _ _ ?_
      split
      · exact hfl p q
      · exact hs
  have chb : ∀ p n q s, p < 5 → q + n = 5 → (∀ b, s.1 = some b → b < 100) → ∀ b, (chQ f p n q s).1 = some b → b < 100 := by
    intro p n
    induction n with
    | zero => intro q s _ _ hs; exact hs
    | succ n ih =>
      intro q s hp hq hs
      rw [chQ]
      refine ih _ _ hp (by omega) ?_
      split
      · intro b e
        cases e
        omega
      · exact hs
  have H : ∀ n p s h1 l8 l9, p + n = 5 → s.2 ≤ 8 → (∀ b, s.1 = some b → b < 100) → Mq z y (ll K S G c t j) h1 → Ev (d + 4) m_X9_changing 48 [some (.ref 0), some (.int (nI m)), some (.int (nI r)), some (.int (nI g)), some (.int (nI w)), some (.int (eo s.1)), some (.int (nI s.2)), some (.int (nI p)), l8, l9] [] h1 (fun v h' => v = some (.int (chA w (chP f n p s))) ∧ Mq z y (ll K S G c t j) h') := by
    intro n
    induction n with
    | zero =>
      intro p s h1 l8 l9 hp hs hb hJ1
      obtain ⟨b, v⟩ := s
      rw [chP]
      iterate 3 refine ev_nx rfl ?_
      refine ev_ge (fun b51 => ?_) (fun b51 => absurd b51 (by omega))
      iterate 2 refine ev_nx rfl ?_
      skip
      cases b with
      | none =>
        refine ev_nx rfl ?_
        refine ev_f (by show am_c2 .ne (-(nI 4)) (-(nI 4)) = false; decide) ?_
        iterate 2 refine ev_nx rfl ?_
        exact ev_ri rfl rfl rfl ⟨rfl, hJ1⟩
      | some b =>
        refine ev_nx rfl ?_
        refine ev_if (fun _ => ?_) (fun q => absurd (show nI b = -(nI 4) by simpa [am_c2, eo] using q) (eo_c (show b < 1000 by have := hb b rfl; omega)))
        iterate 2 refine ev_nx rfl ?_
        refine ev_ne0 (fun b154 => ?_) (fun b154 => ?_)
        · refine ev_nx rfl ?_
          exact ev_ri rfl rfl rfl ⟨by show _ = some (Value.int (if w = 0 then nI b else nI v)); first | rw [if_pos b154]; rfl | rw [if_neg b154], hJ1⟩
        · iterate 2 refine ev_nx rfl ?_
          exact ev_ri rfl rfl rfl ⟨by show _ = some (Value.int (if w = 0 then nI b else nI v)); first | rw [if_pos b154]; rfl | rw [if_neg b154], hJ1⟩
    | succ n ih =>
      intro p s h1 l8 l9 hp hs hb hJ1
      rw [chP]
      iterate 3 refine ev_nx rfl ?_
      refine ev_ge (fun b51 => absurd b51 (by omega)) (fun b51 => ?_)
      iterate 2 refine ev_nx rfl ?_
      refine ev_add rfl ?_
      refine ev_nx rfl ?_
      refine Hq _ p (chQ f p (4 - p) (p + 1) s) (by omega) (fun h2 l9 hJ2 => ?_) (4 - p) (p + 1) s h1 _ (by omega) (by omega) hs rfl hJ1
      refine ev_inc rfl ⟨rfl, by decide⟩ rfl rfl ?_
      refine ev_nx rfl ?_
      exact ih (p + 1) _ h2 _ _ (by omega) (chl p _ _ s hs) (chb p _ _ s (by omega) (by omega) hb) hJ2
  have hle := rgt_le (K := K) (c := c) (t := t) (j := j) (r := r) (g := g) (msg z.2.2.2.1 z.2.2.1 m) z55
  iterate 2 refine ev_nx rfl ?_
  refine ev_vi rfl rfl rfl rfl rfl rfl (Mq_0 hJ) rfl (f_isMessage hJ (by omega)) ?_
  rw [w1]
  refine ev_nx rfl ?_
  refine ev_f (by decide) ?_
  iterate 2 refine ev_nx rfl ?_
  refine ev_si rfl rfl (by decide) rfl rfl rfl rfl (f_isPace _ _ _) ?_
  rw [w2]
  refine ev_nx rfl ?_
  refine ev_f (by decide) ?_
  iterate 3 refine ev_nx rfl ?_
  refine ev_si rfl rfl (by decide) rfl rfl rfl rfl (f_in _ _ _ _) ?_
  rw [w3]
  refine ev_nx rfl ?_
  refine ev_t (by decide) ?_
  refine ev_nx rfl ?_
  refine ev_v rfl rfl rfl rfl rfl rfl (Mq_0 hJ) rfl (g_asItIs hJ ok) (fun rv h2 q => ?_)
  obtain ⟨rfl, hJ2⟩ := q
  iterate 6 refine ev_nx rfl ?_
  refine ev_v rfl rfl rfl rfl rfl rfl (MJ_0 hJ2) rfl (g_says mo (by omega) (by omega) (by omega) hJ2) (fun rv h4 qq => ?_)
  obtain ⟨rfl, -, hJ4⟩ := qq
  have hQ := MJ_Q hJ4
  iterate 3 refine ev_nx rfl ?_
  exact H 5 0 (none, rgt K c t j r g (msg z.2.2.2.1 z.2.2.1 m) z55) h4 _ _ rfl (by show rgt K c t j r g (msg z.2.2.2.1 z.2.2.1 m) z55 ≤ 8; omega) (fun b e => (by cases e)) hQ
end XI
end
section
/-! the reference: readBy, canBe, greatest, tries -/
def JN (z : aZ) (y : aY) (st re rl br pt_ : List Nat) (wo : List Int32) (h : aH) : Prop := ∃ nw, nw.length = 29 ∧ JB z y st nw re rl br pt_ wo h
def rbl (k : Nat) : List Nat := if k < 14 then (ll z5 z5 z5 0 0 0).set k 1 else if k < 19 then (ll z5 z5 z5 0 0 0).set (14 + k - 14) 1 else if k < 24 then (ll z5 z5 z5 0 0 0).set (14 + k - 19) 3 else ll z5 z5 z5 0 0 0
theorem rbl_e : ∀ k : Fin 25, rbl k.val = ll (wrK k.val) z5 z5 (wrC k.val) (wrT k.val) (wrJ k.val) := by decide +kernel
theorem zfl_all : ∀ (n k : Nat) (l : List Nat), k + n = l.length → zfl n k l = l.take k ++ List.replicate n 0
  | 0, k, l, h => by rw [zfl, List.take_of_length_le (by omega)]; simp
  | n + 1, k, l, h => by
    rw [zfl, zfl_all n (k + 1) _ (by rw [List.length_set]; omega), List.take_set, List.take_succ_eq_append_getElem (by omega), List.set_append_right k _ (by rw [List.length_take]; omega)]
    simp [List.length_take, Nat.min_eq_left (show k ≤ l.length by omega), List.replicate_succ]
theorem zfl_0 {n : Nat} {l : List Nat} (h : l.length = n) : zfl n 0 l = List.replicate n 0 := by
  rw [zfl_all n 0 l (by omega)]; rfl
theorem RT_at {k s : Nat} (hk : k < 25) (hs : s < 30) : RT.getD (k * 30 + s) 0 = rdw k s := by
  unfold RT
  rw [List.getD, List.getElem?_map, List.getElem?_range (by omega)]
  show rdw ((k * 30 + s) / 30) ((k * 30 + s) % 30) = _
  rw [show (k * 30 + s) / 30 = k by omega, show (k * 30 + s) % 30 = s by omega]
section XJ
variable {d : Nat} {h : aH} {z : aZ} {y : aY} {st nw be ge re rl br pt_ : List Nat} {wo : List Int32} {ss sr : List Nat}
theorem f_readBy {k s : Nat} (hJ : JN z y st re rl br pt_ wo h) (hk : k < 25) (hs : s < 31) : Ec (d + 3) m_X9_readBy [.ref 0, .int (nI k), .int (nI s)] h (fun v h' => v = some (.int (nI (rdw k s))) ∧ JN z y st re rl br pt_ wo h') := by
  obtain ⟨nw, hn, be, ge, hbe, hge, rfl⟩ := hJ
  refine ec_in [some (.ref 0), some (.int (nI k)), some (.int (nI s)), none] rfl rfl ?_
  have ok : lok (wrK k) z5 z5 (wrC k) (wrT k) (wrJ k) := by
    have := wr_ok ⟨k, hk⟩
    exact ⟨this.1, ⟨rfl, by decide⟩, ⟨rfl, by decide⟩, this.2⟩
  have K1 : ∀ l3, Ev (d + 3) m_X9_readBy 78 [some (.ref 0), some (.int (nI k)), some (.int (nI s)), l3] [] (XM z y st (rbl k) be ge re rl br pt_ wo) (fun v h' => v = some (.int (nI (rdw k s))) ∧ JN z y st re rl br pt_ wo h') := by
    intro l3
    rw [rbl_e ⟨k, hk⟩]
    show Ev (d + 3) m_X9_readBy 78 _ [] (XM z y st (ll (wrK k) z5 z5 (wrC k) (wrT k) (wrJ k)) be ge re rl br pt_ wo) _
    iterate 4 refine ev_nx rfl ?_
    refine ev_vv rfl rfl rfl rfl rfl rfl rfl rfl (f_beat6 ok hbe hge hs) ?_
    iterate 3 refine ev_nx rfl ?_
    refine ev_vi rfl rfl rfl rfl rfl rfl rfl rfl (f_readOf6 (bst_ok ok hs)) ?_
    exact ev_ri rfl rfl rfl ⟨rfl, _, ll_len (bst_ok ok hs), _, _, rfl, cry_len, rfl⟩
  have hz : (ll z5 z5 z5 0 0 0).length = 29 := rfl
  have K2 : Ev (d + 3) m_X9_readBy 21 [some (.ref 0), some (.int (nI k)), some (.int (nI s)), some (.int (nI 29))] [] (XM z y st (ll z5 z5 z5 0 0 0) be ge re rl br pt_ wo) (fun v h' => v = some (.int (nI (rdw k s))) ∧ JN z y st re rl br pt_ wo h') := by
    rw [rbl] at K1
    iterate 3 refine ev_nx rfl ?_
    refine ev_ge (fun b24 => ?_) (fun b24 => ?_)
    · iterate 3 refine ev_nx rfl ?_
      refine ev_ge (fun b40 => ?_) (fun b40 => ?_)
      · iterate 3 refine ev_nx rfl ?_
        refine ev_ge (fun b62 => ?_) (fun b62 => ?_)
        · first | (rw [if_pos b24] at K1; exact K1 _) | (rw [if_neg (by omega), if_pos b40] at K1; exact K1 _) | (rw [if_neg (by omega), if_neg (by omega), if_pos b62] at K1; exact K1 _) | (rw [if_neg (by omega), if_neg (by omega), if_neg (by omega)] at K1; exact K1 _)
        · iterate 4 refine ev_nx rfl ?_
          refine ev_add rfl ?_
          refine ev_nx rfl ?_
          refine ev_sub rfl (by omega) ?_
          refine ev_nx rfl ?_
          refine ev_sN rfl rfl (by omega) ?_
          first | (rw [if_pos b24] at K1; exact K1 _) | (rw [if_neg (by omega), if_pos b40] at K1; exact K1 _) | (rw [if_neg (by omega), if_neg (by omega), if_pos b62] at K1; exact K1 _) | (rw [if_neg (by omega), if_neg (by omega), if_neg (by omega)] at K1; exact K1 _)
      · iterate 4 refine ev_nx rfl ?_
        refine ev_add rfl ?_
        refine ev_nx rfl ?_
        refine ev_sub rfl (by omega) ?_
        refine ev_nx rfl ?_
        refine ev_sN rfl rfl (by omega) ?_
        refine ev_nx rfl ?_
        first | (rw [if_pos b24] at K1; exact K1 _) | (rw [if_neg (by omega), if_pos b40] at K1; exact K1 _) | (rw [if_neg (by omega), if_neg (by omega), if_pos b62] at K1; exact K1 _) | (rw [if_neg (by omega), if_neg (by omega), if_neg (by omega)] at K1; exact K1 _)
    · iterate 4 refine ev_nx rfl ?_
      refine ev_sN rfl rfl (by omega) ?_
      refine ev_nx rfl ?_
      first | (rw [if_pos b24] at K1; exact K1 _) | (rw [if_neg (by omega), if_pos b40] at K1; exact K1 _) | (rw [if_neg (by omega), if_neg (by omega), if_pos b62] at K1; exact K1 _) | (rw [if_neg (by omega), if_neg (by omega), if_neg (by omega)] at K1; exact K1 _)
  have H : ∀ r q nw, q + r = 29 → nw.length = 29 → zfl r q nw = ll z5 z5 z5 0 0 0 → Ev (d + 3) m_X9_readBy 2 [some (.ref 0), some (.int (nI k)), some (.int (nI s)), some (.int (nI q))] [] (XM z y st nw be ge re rl br pt_ wo) (fun v h' => v = some (.int (nI (rdw k s))) ∧ JN z y st re rl br pt_ wo h') := by
    intro r
    induction r with
    | zero =>
      intro q nw hq hn e
      obtain rfl : q = 29 := by omega
      obtain rfl : nw = ll z5 z5 z5 0 0 0 := e
      iterate 3 refine ev_nx rfl ?_
      refine ev_ge (fun b5 => ?_) (fun b5 => absurd b5 (by omega))
      exact K2
    | succ r ih =>
      intro q nw hq hn e
      iterate 3 refine ev_nx rfl ?_
      refine ev_ge (fun b5 => absurd b5 (by omega)) (fun b5 => ?_)
      iterate 4 refine ev_nx rfl ?_
      refine ev_sN rfl rfl (by first | omega | (simp only [List.length_set, List.length_replicate]; omega)) ?_
      refine ev_inc rfl ⟨rfl, by decide⟩ rfl rfl ?_
      refine ev_nx rfl ?_
      exact ih (q + 1) _ (by omega) (by rw [List.length_set, hn]) e
  iterate 2 refine ev_nx rfl ?_
  exact H 29 0 nw rfl hn (by rw [zfl_0 hn]; rfl)
theorem JN_0 (hJ : JN z y st re rl br pt_ wo h) : h[0]? = some (xo z.1.1 z.1.2.1 z.1.2.2.1 z.1.2.2.2.1 z.1.2.2.2.2.1 z.1.2.2.2.2.2 y.1 y.2.1 y.2.2.1) := by
  obtain ⟨nw, hn, be, ge, hbe, hge, rfl⟩ := hJ; rfl
theorem JN_9 (hJ : JN z y st re rl br pt_ wo h) : h[9]? = some (ar z.2.2.2.2.2.2.1) := by
  obtain ⟨nw, hn, be, ge, hbe, hge, rfl⟩ := hJ; rfl
theorem JN_19 (hJ : JN z y st re rl br pt_ wo h) : h[19]? = some (ar pt_) := by
  obtain ⟨nw, hn, be, ge, hbe, hge, rfl⟩ := hJ; rfl
theorem JN_s {p' : List Nat} (hJ : JN z y st re rl br pt_ wo h) : JN z y st re rl br p' wo (h.set 19 (ar p')) := by
  obtain ⟨nw, hn, be, ge, hbe, hge, rfl⟩ := hJ; exact ⟨nw, hn, be, ge, hbe, hge, rfl⟩
/-- what was seen, in two rows and in one -/
def snO (ss sr sn : List Nat) (n : Nat) : Prop := sn.length = 16 ∧ n ≤ 8 ∧ ∀ p, p < n → sn.getD (2 * p) 0 = ss.getD p 0 ∧ sn.getD (2 * p + 1) 0 = sr.getD p 0 ∧ ss.getD p 0 < 30 ∧ sr.getD p 0 < 32
theorem lp_cb {k w n : Nat} {T : Nat} {QQ : Option Value → aH → Prop} (hs : snO ss sr z.2.2.2.2.2.2.1 n) (hn : z.1.2.2.2.2.1 = n) (hk : k < 25) (kk : ∀ h1 l4, JN z y st re rl br pt_ wo h1 → Ev (d + 4) m_X9_canBe 68 [some (.ref 0), some (.int (nI w)), some (.int (nI k)), some (.int (nI T)), l4] [] h1 QQ) : ∀ r p h1, p + r = n → T = b2n (agr ss sr RT k r p) → JN z y st re rl br pt_ wo h1 → Ev (d + 4) m_X9_canBe 15 [some (.ref 0), some (.int (nI w)), some (.int (nI k)), some (.int (nI 1)), some (.int (nI p))] [] h1 QQ := by
  have hs1 := hs.1
  have hs2 := hs.2.1
  intro r
  induction r with
  | zero =>
    intro p h1 hp hT hJ1
    obtain rfl : T = 1 := hT
    iterate 2 refine ev_nx rfl ?_
    refine ev_gf rfl rfl (JN_0 hJ1) rfl ?_
    rw [hn]
    refine ev_nx rfl ?_
    refine ev_ge (fun b21 => ?_) (fun b21 => absurd b21 (by omega))
    exact kk h1 _ hJ1
  | succ r ih =>
    intro p h1 hp hT hJ1
    obtain ⟨e1, e2, e3, e4⟩ := hs.2.2 p (by omega)
    rw [agr, RT_at hk e3] at hT
    have hrd := rdw_lt hk (show ss.getD p 0 < 31 by omega)
    have Z : ∀ h2, JN z y st re rl br pt_ wo h2 → T = 0 → Ev (d + 4) m_X9_canBe 15 [some (.ref 0), some (.int (nI w)), some (.int (nI k)), some (.int (nI 0)), some (.int (nI (p + 1)))] [] h2 QQ := by
      rintro h2 hJ2 rfl
      iterate 2 refine ev_nx rfl ?_
      refine ev_gf rfl rfl (JN_0 hJ2) rfl ?_
      rw [hn]
      refine ev_nx rfl ?_
      refine ev_ge (fun b21 => ?_) (fun b21 => ?_)
      · exact kk h2 _ hJ2
      · iterate 2 refine ev_nx rfl ?_
        refine ev_t (by decide) ?_
        exact kk h2 _ hJ2
    iterate 2 refine ev_nx rfl ?_
    refine ev_gf rfl rfl (JN_0 hJ1) rfl ?_
    rw [hn]
    refine ev_nx rfl ?_
    refine ev_ge (fun b21 => absurd b21 (by omega)) (fun b21 => ?_)
    iterate 2 refine ev_nx rfl ?_
    refine ev_f (by decide) ?_
    iterate 3 refine ev_nx rfl ?_
    refine ev_gf rfl rfl (JN_0 hJ1) rfl ?_
    iterate 2 refine ev_nx rfl ?_
    refine ev_mul rfl ?_
    refine ev_lN rfl (JN_9 hJ1) (by omega) ?_
    rw [e1]
    refine ev_v rfl rfl rfl rfl rfl rfl (JN_0 hJ1) rfl (f_readBy hJ1 hk (by omega)) (fun rv h2 q => ?_)
    obtain ⟨rfl, hJ2⟩ := q
    refine ev_nx rfl ?_
    refine ev_gf rfl rfl (JN_0 hJ2) rfl ?_
    iterate 2 refine ev_nx rfl ?_
    refine ev_mul rfl ?_
    refine ev_nx rfl ?_
    refine ev_add rfl ?_
    refine ev_lN rfl (JN_9 hJ2) (by omega) ?_
    rw [e2]
    refine ev_nx rfl ?_
    refine ev_ne (fun b53 => ?_) (fun b53 => ?_)
    · iterate 2 refine ev_nx rfl ?_
      refine ev_inc rfl ⟨rfl, by decide⟩ rfl rfl ?_
      refine ev_nx rfl ?_
      first | exact ih (p + 1) h2 (by omega) (by rw [hT, if_pos b53]) hJ2 | exact Z h2 hJ2 (by rw [hT, if_neg b53]; rfl)
    · iterate 3 refine ev_nx rfl ?_
      refine ev_inc rfl ⟨rfl, by decide⟩ rfl rfl ?_
      refine ev_nx rfl ?_
      first | exact ih (p + 1) h2 (by omega) (by rw [hT, if_pos b53]) hJ2 | exact Z h2 hJ2 (by rw [hT, if_neg b53]; rfl)
theorem f_canBe {n : Nat} (hs : snO ss sr z.2.2.2.2.2.2.1 n) (hn : z.1.2.2.2.2.1 = n) (hJ : JN z y st re rl br pt_ wo h) : Ec (d + 4) m_X9_canBe [.ref 0] h (fun v h' => v = some (.int (nI (psr ss sr n 25 0 0))) ∧ JN z y st re rl br pt_ wo h') := by
  refine ec_in [some (.ref 0), none, none, none, none] rfl rfl ?_
  have H : ∀ r k w h1 l3 l4, k + r = 25 → JN z y st re rl br pt_ wo h1 → am_nl [some (.ref 0), some (.int (nI w)), some (.int (nI k)), l3] 4 = true → Ev (d + 4) m_X9_canBe 4 [some (.ref 0), some (.int (nI w)), some (.int (nI k)), l3, l4] [] h1 (fun v h' => v = some (.int (nI (psr ss sr n r k w))) ∧ JN z y st re rl br pt_ wo h') := by
    intro r
    induction r with
    | zero =>
      intro k w h1 l3 l4 hk hJ1 hnl
      iterate 3 refine ev_nx rfl ?_
      refine ev_ge (fun b7 => ?_) (fun b7 => absurd b7 (by omega))
      refine ev_nx rfl ?_
      exact ev_ri rfl rfl rfl ⟨rfl, hJ1⟩
    | succ r ih =>
      intro k w h1 l3 l4 hk hJ1 hnl
      rw [psr]
      iterate 3 refine ev_nx rfl ?_
      refine ev_ge (fun b7 => absurd b7 (by omega)) (fun b7 => ?_)
      iterate 4 refine ev_nx rfl ?_
      refine lp_cb hs hn (by omega) (fun h2 l4 hJ2 => ?_) n 0 h1 (by omega) rfl hJ1
      cases hA : agr ss sr RT k n 0 with
      | true =>
        show Ev (d + 4) m_X9_canBe 68 [some (.ref 0), some (.int (nI w)), some (.int (nI k)), some (.int (nI 1)), l4] [] h2 _
        rw [if_pos rfl]
        iterate 3 refine ev_nx rfl ?_
        refine ev_f (by decide) ?_
        iterate 2 refine ev_nx rfl ?_
        refine ev_sh1 rfl (by omega) ?_
        refine ev_nx rfl ?_
        refine ev_or rfl ?_
        refine ev_nx rfl ?_
        refine ev_inc rfl ⟨rfl, by decide⟩ rfl rfl ?_
        refine ev_nx rfl ?_
        exact ih (k + 1) _ h2 _ _ (by omega) hJ2 rfl
      | false =>
        show Ev (d + 4) m_X9_canBe 68 [some (.ref 0), some (.int (nI w)), some (.int (nI k)), some (.int (nI 0)), l4] [] h2 _
        rw [if_neg (by decide)]
        iterate 3 refine ev_nx rfl ?_
        refine ev_t (by decide) ?_
        refine ev_nx rfl ?_
        refine ev_or rfl ?_
        rw [Nat.or_zero]
        refine ev_nx rfl ?_
        refine ev_inc rfl ⟨rfl, by decide⟩ rfl rfl ?_
        refine ev_nx rfl ?_
        exact ih (k + 1) _ h2 _ _ (by omega) hJ2 rfl
  iterate 4 refine ev_nx rfl ?_
  exact H 25 0 0 h _ _ rfl hJ rfl
theorem f_greatest {w s : Nat} (hw : w < 2147483648) (hs : s < 30) (hJ : JN z y st re rl br pt_ wo h) (hp : pt_.length = 32) : Ec (d + 4) m_X9_greatest [.ref 0, .int (nI w), .int (nI s)] h (fun v h' => v = some (.int (nI (gpt RT w s))) ∧ ∃ P, P.length = 32 ∧ JN z y st re rl br P wo h') := by
  refine ec_in [some (.ref 0), some (.int (nI w)), some (.int (nI s)), none, none, none] rfl rfl ?_
  have H : ∀ r k P m h1 l5, k + r = 25 → P.length = 32 → (∀ x ∈ P, x ≤ k) → m ≤ k → JN z y st re rl br P wo h1 → Ev (d + 4) m_X9_greatest 29 [some (.ref 0), some (.int (nI w)), some (.int (nI s)), some (.int (nI m)), some (.int (nI k)), l5] [] h1 (fun v h' => v = some (.int (nI (gpr RT w s r k P m).2)) ∧ ∃ P, P.length = 32 ∧ JN z y st re rl br P wo h') := by
    intro r
    induction r with
    | zero =>
      intro k P m h1 l5 hk hP hPl hm hJ1
      iterate 3 refine ev_nx rfl ?_
      refine ev_ge (fun b33 => ?_) (fun b33 => absurd b33 (by omega))
      refine ev_nx rfl ?_
      exact ev_ri rfl rfl rfl ⟨rfl, P, hP, hJ1⟩
    | succ r ih =>
      intro k P m h1 l5 hk hP hPl hm hJ1
      have hrd := rdw_lt (show k < 25 by omega) (show s < 31 by omega)
      have hb := bt_lt w k
      have hPr : P.getD (rdw k s) 0 ≤ k := by
        rw [List.getD, List.getElem?_eq_getElem (by omega)]; exact hPl _ (List.getElem_mem _)
      rw [gpr, RT_at (by omega) hs]
      have hP2 : ∀ x ∈ P.set (rdw k s) (P.getD (rdw k s) 0 + 1), x ≤ k + 1 := by
        intro x hx
        rcases List.mem_or_eq_of_mem_set hx with q | q
        · have := hPl x q; omega
        · omega
      iterate 3 refine ev_nx rfl ?_
      refine ev_ge (fun b33 => absurd b33 (by omega)) (fun b33 => ?_)
      iterate 2 refine ev_nx rfl ?_
      refine ev_shr rfl (by omega) (by omega) ?_
      refine ev_nx rfl ?_
      refine ev_bit rfl hw ?_
      iterate 2 refine ev_nx rfl ?_
      refine ev_ne (fun b43 => ?_) (fun b43 => ?_)
      · refine ev_inc rfl ⟨rfl, by decide⟩ rfl rfl ?_
        refine ev_nx rfl ?_
        first | (rw [if_neg b43]; exact ih (k + 1) P m h1 _ (by omega) hP (fun x hx => by have := hPl x hx; omega) (by omega) hJ1) | (rw [if_pos b43, Nat.max_eq_left (by omega)]; exact ih (k + 1) _ _ h3 _ (by omega) (by rw [List.length_set, hP]) hP2 (by omega) hJ3) | (rw [if_pos b43, Nat.max_eq_right (by omega)]; exact ih (k + 1) _ _ h3 _ (by omega) (by rw [List.length_set, hP]) hP2 (by omega) hJ3)
      · iterate 3 refine ev_nx rfl ?_
        refine ev_v rfl rfl rfl rfl rfl rfl (JN_0 hJ1) rfl (f_readBy hJ1 (by omega) (by omega)) (fun rv h2 q => ?_)
        obtain ⟨rfl, hJ2⟩ := q
        iterate 2 refine ev_nx rfl ?_
        refine ev_gf rfl rfl (JN_0 hJ2) rfl ?_
        iterate 2 refine ev_nx rfl ?_
        refine ev_lN rfl (JN_19 hJ2) (by omega) ?_
        refine ev_nx rfl ?_
        refine ev_add rfl ?_
        refine ev_sN rfl (JN_19 hJ2) (by omega) ?_
        have hJ3 : JN z y st re rl br (P.set (rdw k s) (P.getD (rdw k s) 0 + 1)) wo (h2.set 19 (ar (P.set (rdw k s) (P.getD (rdw k s) 0 + 1)))) := JN_s hJ2
        generalize h2.set 19 (ar (P.set (rdw k s) (P.getD (rdw k s) 0 + 1))) = h3 at hJ3 ⊢
        refine ev_nx rfl ?_
        refine ev_gf rfl rfl (JN_0 hJ3) rfl ?_
        refine ev_nx rfl ?_
        refine ev_lN rfl (JN_19 hJ3) (by rw [List.length_set]; omega) ?_
        rw [gd_s (by omega)]
        iterate 2 refine ev_nx rfl ?_
        refine ev_leq (fun b74 => ?_) (fun b74 => ?_)
        · iterate 2 refine ev_nx rfl ?_
          refine ev_inc rfl ⟨rfl, by decide⟩ rfl rfl ?_
          refine ev_nx rfl ?_
          first | (rw [if_neg b43]; exact ih (k + 1) P m h1 _ (by omega) hP (fun x hx => by have := hPl x hx; omega) (by omega) hJ1) | (rw [if_pos b43, Nat.max_eq_left (by omega)]; exact ih (k + 1) _ _ h3 _ (by omega) (by rw [List.length_set, hP]) hP2 (by omega) hJ3) | (rw [if_pos b43, Nat.max_eq_right (by omega)]; exact ih (k + 1) _ _ h3 _ (by omega) (by rw [List.length_set, hP]) hP2 (by omega) hJ3)
        · refine ev_nx rfl ?_
          refine ev_gf rfl rfl (JN_0 hJ3) rfl ?_
          refine ev_nx rfl ?_
          refine ev_lN rfl (JN_19 hJ3) (by rw [List.length_set]; omega) ?_
          rw [gd_s (by omega)]
          iterate 2 refine ev_nx rfl ?_
          refine ev_inc rfl ⟨rfl, by decide⟩ rfl rfl ?_
          refine ev_nx rfl ?_
          first | (rw [if_neg b43]; exact ih (k + 1) P m h1 _ (by omega) hP (fun x hx => by have := hPl x hx; omega) (by omega) hJ1) | (rw [if_pos b43, Nat.max_eq_left (by omega)]; exact ih (k + 1) _ _ h3 _ (by omega) (by rw [List.length_set, hP]) hP2 (by omega) hJ3) | (rw [if_pos b43, Nat.max_eq_right (by omega)]; exact ih (k + 1) _ _ h3 _ (by omega) (by rw [List.length_set, hP]) hP2 (by omega) hJ3)
  have Z : ∀ r k P h1, k + r = 32 → P.length = 32 → zfl r k P = z32 → JN z y st re rl br P wo h1 → Ev (d + 4) m_X9_greatest 5 [some (.ref 0), some (.int (nI w)), some (.int (nI s)), some (.int (nI 0)), some (.int (nI k)), none] [] h1 (fun v h' => v = some (.int (nI (gpt RT w s))) ∧ ∃ P, P.length = 32 ∧ JN z y st re rl br P wo h') := by
    intro r
    induction r with
    | zero =>
      intro k P h1 hk hP e hJ1
      obtain rfl : P = z32 := e
      iterate 3 refine ev_nx rfl ?_
      refine ev_gt (fun b9 => ?_) (fun b9 => absurd b9 (by omega))
      iterate 2 refine ev_nx rfl ?_
      exact H 25 0 z32 0 h1 _ rfl rfl (fun x hx => by rw [List.eq_of_mem_replicate hx]; exact Nat.le_refl _) (by omega) hJ1
    | succ r ih =>
      intro k P h1 hk hP e hJ1
      iterate 3 refine ev_nx rfl ?_
      refine ev_gt (fun b9 => absurd b9 (by omega)) (fun b9 => ?_)
      refine ev_nx rfl ?_
      refine ev_gf rfl rfl (JN_0 hJ1) rfl ?_
      iterate 2 refine ev_nx rfl ?_
      refine ev_sN rfl (JN_19 hJ1) (by omega) ?_
      refine ev_inc rfl ⟨rfl, by decide⟩ rfl rfl ?_
      refine ev_nx rfl ?_
      exact ih (k + 1) _ _ (by omega) (by rw [List.length_set, hP]) e (JN_s hJ1)
  iterate 4 refine ev_nx rfl ?_
  exact Z 32 0 pt_ h rfl hp (zfl_0 hp) hJ
/-- the sign that is best told apart by, and its greatest part -/
def mtr (w : Nat) : Nat → Nat → Nat × Nat → Nat × Nat
  | 0, _, b => b
  | r + 1, s, b => mtr w r (s + 1) (if gpt RT w s < b.2 then (s, gpt RT w s) else b)
def trA (w what : Nat) : Int32 := if pcn w < 2 then -(nI 4) else if what = 0 then nI (mtr w 29 1 (0, gpt RT w 0)).1 else nI (mtr w 29 1 (0, gpt RT w 0)).2
theorem pcn_le (w : Nat) : pcn w ≤ 30 := by
  have pl : ∀ n k, pc_ w n k ≤ n := by
    intro n
    induction n with
    | zero => intro k; exact Nat.le_refl _
    | succ n ih => intro k; rw [pc_]; have := ih (k + 1); have := bt_lt w k; omega
  exact pl 30 0
theorem psr_lt : ∀ r k w n, k + r = 25 → w < 2 ^ 25 → psr ss sr n r k w < 2 ^ 25 := by
  intro r
  induction r with
  | zero => intro k w n _ hw; exact hw
  | succ r ih =>
    intro k w n hk hw
    rw [psr]
    refine ih (k + 1) _ n (by omega) ?_
    split
    · refine Nat.or_lt_two_pow hw ?_
      rw [Nat.one_mul]
      exact Nat.pow_lt_pow_right (by decide) (by omega)
    · exact hw
theorem f_tries {n what : Nat} (hs : snO ss sr z.2.2.2.2.2.2.1 n) (hn : z.1.2.2.2.2.1 = n) (hJ : JN z y st re rl br pt_ wo h) (hp : pt_.length = 32) (hwh : what ≤ 1) : Ec (d + 5) m_X9_tries [.ref 0, .int (nI what)] h (fun v h' => v = some (.int (trA (psr ss sr n 25 0 0) what)) ∧ ∃ P, P.length = 32 ∧ JN z y st re rl br P wo h') := by
  refine ec_in [some (.ref 0), some (.int (nI what)), none, none, none, none, none, none] rfl rfl ?_
  have w1 : wi (nI what) (nI 0) (nI 1) = 1 := by rw [wi_n (by omega) (by omega) (by omega), if_pos (by omega)]
  have hW := psr_lt (ss := ss) (sr := sr) 25 0 0 n rfl (by decide)
  generalize hWe : psr ss sr n 25 0 0 = W at hW ⊢
  have hpc := pcn_le W
  have H : ∀ r s b P h1 l6 l7, s + r = 30 → b.1 < 30 → b.2 ≤ 25 → P.length = 32 → JN z y st re rl br P wo h1 → am_nl [some (.ref 0), some (.int (nI what)), some (.int (nI W)), some (.int (nI b.1)), some (.int (nI b.2)), some (.int (nI s)), l6] 7 = true → Ev (d + 5) m_X9_tries 36 [some (.ref 0), some (.int (nI what)), some (.int (nI W)), some (.int (nI b.1)), some (.int (nI b.2)), some (.int (nI s)), l6, l7] [] h1 (fun v h' => v = some (.int (if what = 0 then nI (mtr W r s b).1 else nI (mtr W r s b).2)) ∧ ∃ P, P.length = 32 ∧ JN z y st re rl br P wo h') := by
    intro r
    induction r with
    | zero =>
      intro s b P h1 l6 l7 hs1 hb1 hb2 hP hJ1 hnl
      rw [mtr]
      iterate 3 refine ev_nx rfl ?_
      refine ev_ge (fun b40 => ?_) (fun b40 => absurd b40 (by omega))
      iterate 2 refine ev_nx rfl ?_
      refine ev_ne0 (fun b105 => ?_) (fun b105 => ?_)
      · refine ev_nx rfl ?_
        exact ev_ri rfl rfl rfl ⟨by first | rw [if_neg b105] | rw [if_pos b105], P, hP, hJ1⟩
      · iterate 2 refine ev_nx rfl ?_
        exact ev_ri rfl rfl rfl ⟨by first | rw [if_neg b105] | rw [if_pos b105], P, hP, hJ1⟩
    | succ r ih =>
      intro s b P h1 l6 l7 hs1 hb1 hb2 hP hJ1 hnl
      have hg := gpt_le (R := RT) W s
      rw [mtr]
      iterate 3 refine ev_nx rfl ?_
      refine ev_ge (fun b40 => absurd b40 (by omega)) (fun b40 => ?_)
      iterate 3 refine ev_nx rfl ?_
      refine ev_v rfl rfl rfl rfl rfl rfl (JN_0 hJ1) rfl (f_greatest (by omega) (by omega) hJ1 hP) (fun rv h2 q => ?_)
      obtain ⟨rfl, P2, hP2, hJ2⟩ := q
      iterate 3 refine ev_nx rfl ?_
      skip
      refine ev_nx rfl ?_
      refine ev_if (fun q => absurd (show nI b.1 = -(nI 4) by simpa [am_c2] using q) (eo_c (show b.1 < 1000 by omega))) (fun _ => ?_)
      iterate 3 refine ev_nx rfl ?_
      refine ev_ge (fun b62 => ?_) (fun b62 => ?_)
      · rw [if_neg (show ¬ gpt RT W s < b.2 by omega)]
        iterate 3 refine ev_nx rfl ?_
        refine ev_nx rfl ?_
        refine ev_t (by decide) ?_
        iterate 3 refine ev_nx rfl ?_
        refine ev_nx rfl ?_
        refine ev_t (by decide) ?_
        iterate 2 refine ev_nx rfl ?_
        refine ev_inc rfl ⟨rfl, by decide⟩ rfl rfl ?_
        refine ev_nx rfl ?_
        exact ih (s + 1) b P2 h2 _ _ (by omega) hb1 hb2 hP2 hJ2 rfl
      · iterate 5 refine ev_nx rfl ?_
        refine ev_f (by decide) ?_
        iterate 5 refine ev_nx rfl ?_
        refine ev_f (by decide) ?_
        iterate 3 refine ev_nx rfl ?_
        refine ev_inc rfl ⟨rfl, by decide⟩ rfl rfl ?_
        refine ev_nx rfl ?_
        rw [if_pos b62]
        exact ih (s + 1) (s, gpt RT W s) P2 h2 _ _ (by omega) (by show s < 30; omega) hg hP2 hJ2 rfl
  have hg := gpt_le (R := RT) W 0
  have G : ∀ h1, JN z y st re rl br pt_ wo h1 → Ev (d + 5) m_X9_tries 36 [some (.ref 0), some (.int (nI what)), some (.int (nI W)), some (.int (-(nI 4))), some (.int (nI 0)), some (.int (nI 0)), none, none] [] h1 (fun v h' => v = some (.int (if what = 0 then nI (mtr W 29 1 (0, gpt RT W 0)).1 else nI (mtr W 29 1 (0, gpt RT W 0)).2)) ∧ ∃ P, P.length = 32 ∧ JN z y st re rl br P wo h') := by
    intro h1 hJ1
    iterate 3 refine ev_nx rfl ?_
    refine ev_ge (fun b40 => absurd b40 (by omega)) (fun b40 => ?_)
    iterate 3 refine ev_nx rfl ?_
    refine ev_v rfl rfl rfl rfl rfl rfl (JN_0 hJ1) rfl (f_greatest (by omega) (by omega) hJ1 hp) (fun rv h2 q => ?_)
    obtain ⟨rfl, P2, hP2, hJ2⟩ := q
    iterate 4 refine ev_nx rfl ?_
    refine ev_t (by decide) ?_
    iterate 5 refine ev_nx rfl ?_
    refine ev_f (by decide) ?_
    iterate 5 refine ev_nx rfl ?_
    refine ev_f (by decide) ?_
    iterate 3 refine ev_nx rfl ?_
    refine ev_inc rfl ⟨rfl, by decide⟩ rfl rfl ?_
    refine ev_nx rfl ?_
    exact H 29 1 (0, gpt RT W 0) P2 h2 _ _ rfl (by show 0 < 30; decide) hg hP2 hJ2 rfl
  rw [trA]
  iterate 3 refine ev_nx rfl ?_
  refine ev_si rfl rfl (by decide) rfl rfl rfl rfl (f_in _ _ _ _) ?_
  rw [w1]
  refine ev_nx rfl ?_
  refine ev_t (by decide) ?_
  refine ev_nx rfl ?_
  refine ev_v rfl rfl rfl rfl rfl rfl (JN_0 hJ) rfl (f_canBe hs hn hJ) (fun rv h1 q => ?_)
  obtain ⟨rfl, hJ1⟩ := q
  rw [hWe]
  iterate 2 refine ev_nx rfl ?_
  refine ev_si rfl rfl (by decide) rfl rfl rfl rfl (f_bits (by omega)) ?_
  iterate 2 refine ev_nx rfl ?_
  refine ev_ge (fun b21 => ?_) (fun b21 => ?_)
  · iterate 6 refine ev_nx rfl ?_
    rw [if_neg (by omega)]
    exact G h1 hJ1
  · refine ev_nx rfl ?_
    rw [if_pos b21]
    exact ev_ri rfl rfl rfl ⟨rfl, pt_, hp, hJ1⟩
end XJ
end
section
/-! the reference: what is told of it, seen, heard, forgotten, kept -/
section XK
variable {d : Nat} {h : aH} {z : aZ} {y : aY} {st nw be ge re rl br pt_ : List Nat} {wo : List Int32} {K S G : List Nat} {c t j : Nat}
/-- numbers of a line: kind, standing, got -/
def ndA (K S G : List Nat) (p w : Nat) : Nat := if w = 0 then K.getD p 0 else if w = 1 then S.getD p 0 else G.getD p 0
def wrA (c t j : Nat) (p w : Nat) : Nat := if w = 0 then bt c p else if w = 1 then bt t p else bt j p
theorem g_needle {p w : Nat} (ok : lok K S G c t j) (hJ : Mq z y (ll K S G c t j) h) (hp : p < 5) (hw : w ≤ 2) : Ec (d + 2) m_X9_needle [.ref 0, .int (nI p), .int (nI w)] h (rt (.int (nI (ndA K S G p w))) h) := by
  obtain ⟨nw, be, ge, re, rl, br, pt_, wo, hln, rfl⟩ := hJ
  have hl := ll_len ok
  have w1 : wi (nI p) (nI 0) (nI 4) = 1 := by rw [wi_n (by omega) (by omega) (by omega), if_pos (by omega)]
  have w2 : wi (nI w) (nI 0) (nI 2) = 1 := by rw [wi_n (by omega) (by omega) (by omega), if_pos (by omega)]
  refine ec_in [some (.ref 0), some (.int (nI p)), some (.int (nI w))] rfl rfl ?_
  refine ev_nx rfl ?_
  refine ev_si rfl rfl (by decide) rfl rfl rfl rfl (f_isPlace _ _) ?_
  rw [w1]
  refine ev_nx rfl ?_
  refine ev_f (by decide) ?_
  iterate 3 refine ev_nx rfl ?_
  refine ev_si rfl rfl (by decide) rfl rfl rfl rfl (f_in _ _ _ _) ?_
  rw [w2]
  refine ev_nx rfl ?_
  refine ev_t (by decide) ?_
  iterate 4 refine ev_nx rfl ?_
  refine ev_ne0 (fun b23 => ?_) (fun b23 => ?_)
  · iterate 3 refine ev_nx rfl ?_
    refine ev_ne (fun b35 => ?_) (fun b35 => ?_)
    · iterate 2 refine ev_nx rfl ?_
      refine ev_add rfl ?_
      refine ev_lN rfl rfl (by omega) ?_
      first | rw [ll_K ok p hp] | rw [ll_S ok p hp] | rw [ll_G ok p hp]
      exact ev_ri rfl rfl rfl ⟨vI (by unfold ndA; (repeat' split) <;> first | rfl | omega), rfl⟩
    · iterate 2 refine ev_nx rfl ?_
      refine ev_add rfl ?_
      refine ev_nx rfl ?_
      refine ev_lN rfl rfl (by omega) ?_
      first | rw [ll_K ok p hp] | rw [ll_S ok p hp] | rw [ll_G ok p hp]
      exact ev_ri rfl rfl rfl ⟨vI (by unfold ndA; (repeat' split) <;> first | rfl | omega), rfl⟩
  · iterate 2 refine ev_nx rfl ?_
    refine ev_add rfl ?_
    refine ev_nx rfl ?_
    refine ev_lN rfl rfl (by omega) ?_
    first | rw [ll_K ok p hp] | rw [ll_S ok p hp] | rw [ll_G ok p hp]
    exact ev_ri rfl rfl rfl ⟨vI (by unfold ndA; (repeat' split) <;> first | rfl | omega), rfl⟩
theorem g_wire {p w : Nat} (ok : lok K S G c t j) (hJ : Mq z y (ll K S G c t j) h) (hp : p < 5) (hw : w ≤ 2) : Ec (d + 2) m_X9_wire [.ref 0, .int (nI p), .int (nI w)] h (rt (.int (nI (wrA c t j p w))) h) := by
  obtain ⟨nw, be, ge, re, rl, br, pt_, wo, hln, rfl⟩ := hJ
  have hl := ll_len ok
  have h4 := bt_4 ok.2.2.2.2.2
  have w1 : wi (nI p) (nI 0) (nI 4) = 1 := by rw [wi_n (by omega) (by omega) (by omega), if_pos (by omega)]
  have w2 : wi (nI w) (nI 0) (nI 2) = 1 := by rw [wi_n (by omega) (by omega) (by omega), if_pos (by omega)]
  refine ec_in [some (.ref 0), some (.int (nI p)), some (.int (nI w))] rfl rfl ?_
  refine ev_nx rfl ?_
  refine ev_si rfl rfl (by decide) rfl rfl rfl rfl (f_isPlace _ _) ?_
  rw [w1]
  refine ev_nx rfl ?_
  refine ev_f (by decide) ?_
  iterate 3 refine ev_nx rfl ?_
  refine ev_si rfl rfl (by decide) rfl rfl rfl rfl (f_in _ _ _ _) ?_
  rw [w2]
  refine ev_nx rfl ?_
  refine ev_t (by decide) ?_
  iterate 2 refine ev_nx rfl ?_
  refine ev_ne0 (fun b19 => ?_) (fun b19 => ?_)
  · iterate 3 refine ev_nx rfl ?_
    refine ev_ne (fun b35 => ?_) (fun b35 => ?_)
    · iterate 3 refine ev_nx rfl ?_
      refine ev_ne (fun b51 => ?_) (fun b51 => ?_)
      · iterate 4 refine ev_nx rfl ?_
        refine ev_add rfl ?_
        refine ev_lN rfl rfl (by omega) ?_
        rw [ll_j p (by omega)]
        exact ev_ri rfl rfl rfl ⟨vI (by unfold wrA; (repeat' split) <;> first | rfl | omega | (subst b51; omega)), rfl⟩
      · iterate 2 refine ev_nx rfl ?_
        exact ev_ri rfl rfl rfl ⟨vI (by unfold wrA; (repeat' split) <;> first | rfl | omega | (subst b51; omega)), rfl⟩
    · iterate 4 refine ev_nx rfl ?_
      refine ev_add rfl ?_
      refine ev_lN rfl rfl (by omega) ?_
      rw [ll_t p hp]
      refine ev_nx rfl ?_
      exact ev_ri rfl rfl rfl ⟨vI (by unfold wrA; (repeat' split) <;> first | rfl | omega | (subst b51; omega)), rfl⟩
  · iterate 4 refine ev_nx rfl ?_
    refine ev_add rfl ?_
    refine ev_lN rfl rfl (by omega) ?_
    rw [ll_c p hp]
    refine ev_nx rfl ?_
    exact ev_ri rfl rfl rfl ⟨vI (by unfold wrA; (repeat' split) <;> first | rfl | omega | (subst b51; omega)), rfl⟩
def spA (l : List Nat) : Option Nat → Int32
  | none => nI l.length
  | some k => if k < l.length then nI (l.getD k 0) else -(nI 4)
theorem wi_oI {k : Option Nat} {n : Nat} (hn : n < 65536) (hk : ∀ q, k = some q → q ≤ n) : wi (oI k) (-(nI 1)) (nI n) = 1 := by
  cases k with
  | none =>
    show wi (-(nI 1)) (-(nI 1)) (nI n) = 1
    unfold wi
    rw [if_pos ⟨Int32.le_refl _, Int32.le_of_lt (lt_m1 (by omega))⟩]
  | some k => unfold wi; rw [if_pos ⟨Int32.le_of_lt (lt_m1 (by have := hk k rfl; omega)), nI_le (hk k rfl) (by omega)⟩]
theorem g_spelt {m : Nat} {k : Option Nat} (mo : mok z.2.2.2.1 z.2.2.1 z.1.2.1) (hJ : Mq z y st h) (hm : m < z.1.2.1) (hk : ∀ q, k = some q → q ≤ 7) : Ec (d + 2) m_X9_spelt [.ref 0, .int (nI m), .int (oI k)] h (rt (.int (spA (msg z.2.2.2.1 z.2.2.1 m) k)) h) := by
  have h6 := mo.2.2.2.2
  have h8 := mok8 mo (show m < 6 by omega)
  have hzl := mo.2.2.1
  have hsl := mo.1
  have hml := msg_len mo.1 (show m < 6 by omega) h8
  have w1 : wi (nI m) (nI 0) (nI (z.1.2.1 - 1)) = 1 := by rw [wi_n (by omega) (by omega) (by omega), if_pos (by omega)]
  have w3 := wi_oI (n := 7) (by omega) hk
  refine ec_in [some (.ref 0), some (.int (nI m)), some (.int (oI k))] rfl rfl ?_
  iterate 2 refine ev_nx rfl ?_
  refine ev_vi rfl rfl rfl rfl rfl rfl (Mq_0 hJ) rfl (f_isMessage hJ (by omega)) ?_
  rw [w1]
  refine ev_nx rfl ?_
  refine ev_f (by decide) ?_
  iterate 3 refine ev_nx rfl ?_
  refine ev_si rfl rfl (by decide) rfl rfl rfl rfl (f_in _ _ _ _) ?_
  rw [w3]
  refine ev_nx rfl ?_
  refine ev_t (by decide) ?_
  refine ev_nx rfl ?_
  skip
  cases k with
  | none =>
    refine ev_nx rfl ?_
    refine ev_f (by decide) ?_
    refine ev_nx rfl ?_
    refine ev_gf rfl rfl (Mq_0 hJ) rfl ?_
    refine ev_nx rfl ?_
    refine ev_lN rfl (Mq_3 hJ) (by omega) ?_
    refine ev_nx rfl ?_
    exact ev_ri rfl rfl rfl ⟨by rw [spA, hml], rfl⟩
  | some k =>
    have hk7 := hk k rfl
    refine ev_nx rfl ?_
    refine ev_ge0 ?_
    iterate 2 refine ev_nx rfl ?_
    refine ev_gf rfl rfl (Mq_0 hJ) rfl ?_
    refine ev_nx rfl ?_
    refine ev_lN rfl (Mq_3 hJ) (by omega) ?_
    refine ev_nx rfl ?_
    refine ev_ge (fun b40 => ?_) (fun b40 => ?_)
    · refine ev_nx rfl ?_
      first | exact ev_ri rfl rfl rfl ⟨by rw [spA, if_pos (by omega), msg_at (by omega), Nat.mul_comm], rfl⟩ | exact ev_ri rfl rfl rfl ⟨by rw [spA, if_neg (by omega)], rfl⟩
    · refine ev_nx rfl ?_
      refine ev_gf rfl rfl (Mq_0 hJ) rfl ?_
      iterate 2 refine ev_nx rfl ?_
      refine ev_mul rfl ?_
      refine ev_nx rfl ?_
      refine ev_add rfl ?_
      refine ev_lN rfl (Mq_4 hJ) (by omega) ?_
      refine ev_nx rfl ?_
      first | exact ev_ri rfl rfl rfl ⟨by rw [spA, if_pos (by omega), msg_at (by omega), Nat.mul_comm], rfl⟩ | exact ev_ri rfl rfl rfl ⟨by rw [spA, if_neg (by omega)], rfl⟩
theorem g_reads (ok : lok K S G c t j) (hJ : Mq z y (ll K S G c t j) h) : Ec (d + 2) m_X9_reads [.ref 0] h (rt (.int (nI (rdS S))) h) := by
  obtain ⟨nw, be, ge, re, rl, br, pt_, wo, hln, rfl⟩ := hJ
  refine ec_in [some (.ref 0)] rfl rfl ?_
  iterate 3 refine ev_nx rfl ?_
  refine ev_vi rfl rfl rfl rfl rfl rfl rfl rfl (f_readOf5 ok) ?_
  exact ev_ri rfl rfl rfl ⟨rfl, rfl⟩
/-! sums of bits -/
theorem sm_c (ok : lok K S G c t j) : smr (ll K S G c t j) 0 5 0 = bt c 0 + (bt c 1 + (bt c 2 + (bt c 3 + (bt c 4 + 0)))) := rfl
theorem sm_t (ok : lok K S G c t j) : smr (ll K S G c t j) 5 5 0 = bt t 0 + (bt t 1 + (bt t 2 + (bt t 3 + (bt t 4 + 0)))) := rfl
theorem sm_j (ok : lok K S G c t j) : smr (ll K S G c t j) 10 4 0 = bt j 0 + (bt j 1 + (bt j 2 + (bt j 3 + 0))) := rfl
theorem pcn_5 : ∀ c : Fin 32, bt c.val 0 + (bt c.val 1 + (bt c.val 2 + (bt c.val 3 + (bt c.val 4 + 0)))) = pcn c.val := by decide +kernel
theorem pcn_4 : ∀ c : Fin 16, bt c.val 0 + (bt c.val 1 + (bt c.val 2 + (bt c.val 3 + 0))) = pcn c.val := by decide +kernel
theorem g_sumc {a : Nat} (ok : lok K S G c t j) (hA : h[a]? = some (ar (ll K S G c t j))) (ha : a < 100000) : Ec d m_X9_sum [.ref a, .int (nI 0), .int (nI 5)] h (rt (.int (nI (pcn c))) h) := by
  have hl := ll_len ok
  have := f_sum (d := d) hA ha (i := 0) (n := 5) (by omega) (by omega)
  rw [sm_c ok, pcn_5 ⟨c, ok.2.2.2.1⟩] at this
  exact this
theorem g_sumt {a : Nat} (ok : lok K S G c t j) (hA : h[a]? = some (ar (ll K S G c t j))) (ha : a < 100000) : Ec d m_X9_sum [.ref a, .int (nI 5), .int (nI 5)] h (rt (.int (nI (pcn t))) h) := by
  have hl := ll_len ok
  have := f_sum (d := d) hA ha (i := 5) (n := 5) (by omega) (by omega)
  rw [sm_t ok, pcn_5 ⟨t, ok.2.2.2.2.1⟩] at this
  exact this
theorem g_sumj {a : Nat} (ok : lok K S G c t j) (hA : h[a]? = some (ar (ll K S G c t j))) (ha : a < 100000) : Ec d m_X9_sum [.ref a, .int (nI 10), .int (nI 4)] h (rt (.int (nI (pcn j))) h) := by
  have hl := ll_len ok
  have := f_sum (d := d) hA ha (i := 10) (n := 4) (by omega) (by omega)
  rw [sm_j ok, pcn_4 ⟨j, ok.2.2.2.2.2⟩] at this
  exact this
theorem g_notUpright (ok : lok K S G c t j) (hJ : Mq z y (ll K S G c t j) h) : Ec d m_X9_notUpright [.ref 0] h (rt (.int (nI (nuz S))) h) := by
  obtain ⟨nw, be, ge, re, rl, br, pt_, wo, hln, rfl⟩ := hJ
  have hl := ll_len ok
  refine ec_in [some (.ref 0), none, none] rfl rfl ?_
  have H : ∀ p n (Q1 : Option Value → aH → Prop), p < 5 → Ev d m_X9_notUpright 4 [some (.ref 0), some (.int (nI (n + nu1 (S.getD p 0)))), some (.int (nI (p + 1)))] [] (XM z y (ll K S G c t j) nw be ge re rl br pt_ wo) Q1 → Ev d m_X9_notUpright 4 [some (.ref 0), some (.int (nI n)), some (.int (nI p))] [] (XM z y (ll K S G c t j) nw be ge re rl br pt_ wo) Q1 := by
    intro p n Q1 hp k
    have h3 : S.getD p 0 < 3 := gd3 ok.2.1.2 (by have := ok.2.1.1; omega)
    iterate 3 refine ev_nx rfl ?_
    refine ev_ge (fun b6 => absurd b6 (by omega)) (fun b6 => ?_)
    iterate 5 refine ev_nx rfl ?_
    refine ev_add rfl ?_
    refine ev_lN rfl rfl (by omega) ?_
    rw [ll_S ok p hp]
    refine ev_nx rfl ?_
    refine ev_ne0 (fun b19 => ?_) (fun b19 => ?_)
    · refine ev_nx rfl ?_
      refine ev_add rfl ?_
      refine ev_nx rfl ?_
      refine ev_inc rfl ⟨rfl, by decide⟩ rfl rfl ?_
      refine ev_nx rfl ?_
      first | (rw [nu1, if_neg b19] at k; exact k) | (rw [nu1, if_pos b19] at k; exact k)
    · iterate 2 refine ev_nx rfl ?_
      refine ev_add rfl ?_
      refine ev_nx rfl ?_
      refine ev_inc rfl ⟨rfl, by decide⟩ rfl rfl ?_
      refine ev_nx rfl ?_
      first | (rw [nu1, if_neg b19] at k; exact k) | (rw [nu1, if_pos b19] at k; exact k)
  iterate 4 refine ev_nx rfl ?_
  refine H 0 0 _ (by decide) (H 1 _ _ (by decide) (H 2 _ _ (by decide) (H 3 _ _ (by decide) (H 4 _ _ (by decide) ?_))))
  iterate 3 refine ev_nx rfl ?_
  refine ev_ge (fun b6 => ?_) (fun b6 => absurd b6 (by omega))
  refine ev_nx rfl ?_
  exact ev_ri rfl rfl rfl ⟨vI (by unfold nuz; omega), rfl⟩
def ctA (me c t j : Nat) (S : List Nat) (un ke sm hm le w : Nat) : Int32 := match w with
  | 0 => nI me
  | 1 => nI (pcn c)
  | 2 => nI (pcn t)
  | 3 => nI (pcn j)
  | 4 => nI (nuz S)
  | 5 => nI un
  | 6 => nI ke
  | 7 => nI sm
  | 8 => nI hm
  | _ => nI le
theorem g_count {w : Nat} (ok : lok K S G c t j) (hJ : Mq z y (ll K S G c t j) h) (hw : w ≤ 9) : Ec (d + 1) m_X9_count [.ref 0, .int (nI w)] h (rt (.int (ctA z.1.2.1 c t j S z.1.2.2.1 z.1.2.2.2.1 z.1.2.2.2.2.1 z.1.2.2.2.2.2 z.1.1 w)) h) := by
  have hJ0 := hJ
  obtain ⟨nw, be, ge, re, rl, br, pt_, wo, hln, rfl⟩ := hJ
  refine ec_in [some (.ref 0), some (.int (nI w))] rfl rfl ?_
  refine ev_nx rfl ?_
  rcases (show w = 0 ∨ w = 1 ∨ w = 2 ∨ w = 3 ∨ w = 4 ∨ w = 5 ∨ w = 6 ∨ w = 7 ∨ w = 8 ∨ w = 9 by omega) with rfl | rfl | rfl | rfl | rfl | rfl | rfl | rfl | rfl | rfl
  · refine ev_nx (pc' := 56) rfl ?_
    iterate 2 refine ev_nx rfl ?_
    exact ev_ri rfl rfl rfl ⟨rfl, rfl⟩
  · refine ev_nx (pc' := 61) rfl ?_
    iterate 4 refine ev_nx rfl ?_
    refine ev_si rfl rfl (by decide) rfl rfl rfl rfl (g_sumc ok rfl (by decide)) ?_
    exact ev_ri rfl rfl rfl ⟨rfl, rfl⟩
  · refine ev_nx (pc' := 71) rfl ?_
    iterate 4 refine ev_nx rfl ?_
    refine ev_si rfl rfl (by decide) rfl rfl rfl rfl (g_sumt ok rfl (by decide)) ?_
    exact ev_ri rfl rfl rfl ⟨rfl, rfl⟩
  · refine ev_nx (pc' := 81) rfl ?_
    iterate 4 refine ev_nx rfl ?_
    refine ev_si rfl rfl (by decide) rfl rfl rfl rfl (g_sumj ok rfl (by decide)) ?_
    exact ev_ri rfl rfl rfl ⟨rfl, rfl⟩
  · refine ev_nx (pc' := 92) rfl ?_
    refine ev_nx rfl ?_
    refine ev_vi rfl rfl rfl rfl rfl rfl rfl rfl (g_notUpright ok hJ0) ?_
    exact ev_ri rfl rfl rfl ⟨rfl, rfl⟩
  · refine ev_nx (pc' := 97) rfl ?_
    iterate 2 refine ev_nx rfl ?_
    exact ev_ri rfl rfl rfl ⟨rfl, rfl⟩
  · refine ev_nx (pc' := 102) rfl ?_
    iterate 2 refine ev_nx rfl ?_
    exact ev_ri rfl rfl rfl ⟨rfl, rfl⟩
  · refine ev_nx (pc' := 107) rfl ?_
    iterate 2 refine ev_nx rfl ?_
    exact ev_ri rfl rfl rfl ⟨rfl, rfl⟩
  · refine ev_nx (pc' := 112) rfl ?_
    iterate 2 refine ev_nx rfl ?_
    exact ev_ri rfl rfl rfl ⟨rfl, rfl⟩
  · refine ev_nx (pc' := 117) rfl ?_
    iterate 2 refine ev_nx rfl ?_
    exact ev_ri rfl rfl rfl ⟨rfl, rfl⟩
end XK
end
section
/-! the reference: deeds -/
def zle (z : aZ) (v : Nat) : aZ := ((v, z.1.2), z.2)
def zme (z : aZ) (v : Nat) : aZ := ((z.1.1, v, z.1.2.2), z.2)
def zun (z : aZ) (v : Nat) : aZ := ((z.1.1, z.1.2.1, v, z.1.2.2.2), z.2)
def zke (z : aZ) (v : Nat) : aZ := ((z.1.1, z.1.2.1, z.1.2.2.1, v, z.1.2.2.2.2), z.2)
def zsm (z : aZ) (v : Nat) : aZ := ((z.1.1, z.1.2.1, z.1.2.2.1, z.1.2.2.2.1, v, z.1.2.2.2.2.2), z.2)
def zhm (z : aZ) (v : Nat) : aZ := ((z.1.1, z.1.2.1, z.1.2.2.1, z.1.2.2.2.1, z.1.2.2.2.2.1, v), z.2)
def ztx (z : aZ) (l : List Nat) : aZ := (z.1, (l, z.2.2))
def zsz (z : aZ) (l : List Nat) : aZ := (z.1, (z.2.1, l, z.2.2.2))
def zsp (z : aZ) (l : List Nat) : aZ := (z.1, (z.2.1, z.2.2.1, l, z.2.2.2.2))
def zbk (z : aZ) (l : List Nat) : aZ := (z.1, (z.2.1, z.2.2.1, z.2.2.2.1, l, z.2.2.2.2.2))
def zkp (z : aZ) (l : List Nat) : aZ := (z.1, (z.2.1, z.2.2.1, z.2.2.2.1, z.2.2.2.2.1, l, z.2.2.2.2.2.2))
def zsn (z : aZ) (l : List Nat) : aZ := (z.1, (z.2.1, z.2.2.1, z.2.2.2.1, z.2.2.2.2.1, z.2.2.2.2.2.1, l, z.2.2.2.2.2.2.2))
def zhd (z : aZ) (l : List Nat) : aZ := (z.1, (z.2.1, z.2.2.1, z.2.2.2.1, z.2.2.2.2.1, z.2.2.2.2.2.1, z.2.2.2.2.2.2.1, l))
theorem ev_pM {d : Nat} {m : aM} {pc np r x a : Nat} {L : aL} {S : List Value} {h : aH} {Q : Option Value → aH → Prop} {y : Nat × Nat × Nat × Nat × FieldType × Bool} {fs : List Value} {v : Value} (hc : am_cd m pc = some (.putfield x, np, r)) (hy : am_fs[r]? = some y) (hh : h[a]? = some (.inr (.inr (y.2.2.1, fs)))) (hl : Nat.blt y.2.2.2.1 fs.length = true) (hn : narrow y.2.2.2.2.1 v = v) (hf : fits y.2.2.2.2.1 v = true) (hfin : y.2.2.2.2.2 = false) (k : Ev d m np L S (h.set a (.inr (.inr (y.2.2.1, fs.set y.2.2.2.1 v)))) Q) (ha : a < 100000 := by omega) : Ev d m pc L (v :: .ref a :: S) h Q :=
  ev_pf hc hy hh (Nat.le_of_ble_eq_true hl) hn hf hfin k ha
section XL
variable {d : Nat} {h : aH} {z : aZ} {y : aY} {st nw be ge re rl br pt_ : List Nat} {wo : List Int32} {K S G : List Nat} {c t j : Nat}
theorem g_write {x : Nat} (hJ : Mq z y st h) (hx : 32 ≤ x ∧ x ≤ 126) (hl : z.1.1 ≤ 200) (ht : z.2.1.length = 200) : Ec (d + 1) m_X9_write [.ref 0, .int (nI x)] h (fun v h' => v = some (.int (if z.1.1 < 200 then nI (z.1.1 + 1) else -(nI 3))) ∧ Mq (if z.1.1 < 200 then zle (ztx z (z.2.1.set z.1.1 x)) (z.1.1 + 1) else z) y st h') := by
  have w1 : wi (nI x) (nI 32) (nI 126) = 1 := by rw [wi_n (by omega) (by omega) (by omega), if_pos (by omega)]
  obtain ⟨nw, be, ge, re, rl, br, pt_, wo, hln, rfl⟩ := hJ
  refine ec_in [some (.ref 0), some (.int (nI x))] rfl rfl ?_
  iterate 3 refine ev_nx rfl ?_
  refine ev_si rfl rfl (by decide) rfl rfl rfl rfl (f_in _ _ _ _) ?_
  rw [w1]
  refine ev_nx rfl ?_
  refine ev_t (by decide) ?_
  iterate 4 refine ev_nx rfl ?_
  refine ev_ne (fun b20 => ?_) (fun b20 => ?_)
  · iterate 5 refine ev_nx rfl ?_
    refine ev_sN rfl rfl (by first | omega | (simp only [List.length_set, List.length_replicate]; omega)) ?_
    iterate 4 refine ev_nx rfl ?_
    refine ev_add rfl ?_
    refine ev_pM rfl rfl rfl rfl rfl rfl rfl ?_
    iterate 2 refine ev_nx rfl ?_
    simp only [if_pos (show z.1.1 < 200 by omega)]
    exact ev_ri rfl rfl rfl ⟨rfl, nw, be, ge, re, rl, br, pt_, wo, hln, rfl⟩
  · refine ev_nx rfl ?_
    simp only [if_neg (show ¬ z.1.1 < 200 by omega)]
    exact ev_ri rfl rfl rfl ⟨rfl, nw, be, ge, re, rl, br, pt_, wo, hln, rfl⟩
theorem g_wipe (hJ : Mq z y st h) : Ec d m_X9_wipe [.ref 0] h (fun v h' => v = some (.int (nI z.1.1)) ∧ Mq (zle z 0) y st h') := by
  obtain ⟨nw, be, ge, re, rl, br, pt_, wo, hln, rfl⟩ := hJ
  refine ec_in [some (.ref 0), none] rfl rfl ?_
  iterate 5 refine ev_nx rfl ?_
  refine ev_pM rfl rfl rfl rfl rfl rfl rfl ?_
  refine ev_nx rfl ?_
  exact ev_ri rfl rfl rfl ⟨rfl, nw, be, ge, re, rl, br, pt_, wo, hln, rfl⟩
theorem g_see {s r : Nat} (hJ : Mq z y st h) (hs : s ≤ 29) (hr : r ≤ 31) (hm : z.1.2.2.2.2.1 ≤ 8) (hl : z.2.2.2.2.2.2.1.length = 16) : Ec (d + 1) m_X9_see [.ref 0, .int (nI s), .int (nI r)] h (fun v h' => v = some (.int (if z.1.2.2.2.2.1 < 8 then nI (z.1.2.2.2.2.1 + 1) else -(nI 3))) ∧ Mq (if z.1.2.2.2.2.1 < 8 then zsm (zsn z ((z.2.2.2.2.2.2.1.set (2 * z.1.2.2.2.2.1) s).set (2 * z.1.2.2.2.2.1 + 1) r)) (z.1.2.2.2.2.1 + 1) else z) y st h') := by
  have w1 : wi (nI s) (nI 0) (nI 29) = 1 := by rw [wi_n (by omega) (by omega) (by omega), if_pos (by omega)]
  have w2 : wi (nI r) (nI 0) (nI 31) = 1 := by rw [wi_n (by omega) (by omega) (by omega), if_pos (by omega)]
  obtain ⟨nw, be, ge, re, rl, br, pt_, wo, hln, rfl⟩ := hJ
  refine ec_in [some (.ref 0), some (.int (nI s)), some (.int (nI r))] rfl rfl ?_
  iterate 3 refine ev_nx rfl ?_
  refine ev_si rfl rfl (by decide) rfl rfl rfl rfl (f_in _ _ _ _) ?_
  rw [w1]
  refine ev_nx rfl ?_
  refine ev_f (by decide) ?_
  iterate 3 refine ev_nx rfl ?_
  refine ev_si rfl rfl (by decide) rfl rfl rfl rfl (f_in _ _ _ _) ?_
  rw [w2]
  refine ev_nx rfl ?_
  refine ev_t (by decide) ?_
  iterate 4 refine ev_nx rfl ?_
  refine ev_ne (fun b28 => ?_) (fun b28 => ?_)
  · iterate 5 refine ev_nx rfl ?_
    refine ev_mul rfl ?_
    refine ev_nx rfl ?_
    refine ev_sN rfl rfl (by first | omega | (simp only [List.length_set, List.length_replicate]; omega)) ?_
    iterate 5 refine ev_nx rfl ?_
    refine ev_mul rfl ?_
    refine ev_nx rfl ?_
    refine ev_add rfl ?_
    refine ev_nx rfl ?_
    refine ev_sN rfl rfl (by first | omega | (simp only [List.length_set, List.length_replicate]; omega)) ?_
    iterate 4 refine ev_nx rfl ?_
    refine ev_add rfl ?_
    refine ev_pM rfl rfl rfl rfl rfl rfl rfl ?_
    iterate 2 refine ev_nx rfl ?_
    simp only [if_pos (show z.1.2.2.2.2.1 < 8 by omega)]
    exact ev_ri rfl rfl rfl ⟨rfl, nw, be, ge, re, rl, br, pt_, wo, hln, rfl⟩
  · refine ev_nx rfl ?_
    simp only [if_neg (show ¬ z.1.2.2.2.2.1 < 8 by omega)]
    exact ev_ri rfl rfl rfl ⟨rfl, nw, be, ge, re, rl, br, pt_, wo, hln, rfl⟩
theorem g_hear1 {s : Nat} (hJ : Mq z y st h) (hm : z.1.2.2.2.2.2 ≤ 8) (hl : z.2.2.2.2.2.2.2.length = 8) : Ev (d + 1) m_X9_hear 18 [some (.ref 0), some (.int (nI s))] [] h (fun v h' => v = some (.int (if z.1.2.2.2.2.2 < 8 then nI (z.1.2.2.2.2.2 + 1) else -(nI 3))) ∧ Mq (if z.1.2.2.2.2.2 < 8 then zhm (zhd z (z.2.2.2.2.2.2.2.set z.1.2.2.2.2.2 s)) (z.1.2.2.2.2.2 + 1) else z) y st h') := by
  obtain ⟨nw, be, ge, re, rl, br, pt_, wo, hln, rfl⟩ := hJ
  iterate 4 refine ev_nx rfl ?_
  refine ev_ne (fun b24 => ?_) (fun b24 => ?_)
  · iterate 5 refine ev_nx rfl ?_
    refine ev_sN rfl rfl (by first | omega | (simp only [List.length_set, List.length_replicate]; omega)) ?_
    iterate 4 refine ev_nx rfl ?_
    refine ev_add rfl ?_
    refine ev_pM rfl rfl rfl rfl rfl rfl rfl ?_
    iterate 2 refine ev_nx rfl ?_
    simp only [if_pos (show z.1.2.2.2.2.2 < 8 by omega)]
    exact ev_ri rfl rfl rfl ⟨rfl, nw, be, ge, re, rl, br, pt_, wo, hln, rfl⟩
  · refine ev_nx rfl ?_
    simp only [if_neg (show ¬ z.1.2.2.2.2.2 < 8 by omega)]
    exact ev_ri rfl rfl rfl ⟨rfl, nw, be, ge, re, rl, br, pt_, wo, hln, rfl⟩
theorem g_hear {s : Nat} (hJ : Mq z y st h) (hs : s ≤ 19 ∨ s = 31) (hm : z.1.2.2.2.2.2 ≤ 8) (hl : z.2.2.2.2.2.2.2.length = 8) : Ec (d + 1) m_X9_hear [.ref 0, .int (nI s)] h (fun v h' => v = some (.int (if z.1.2.2.2.2.2 < 8 then nI (z.1.2.2.2.2.2 + 1) else -(nI 3))) ∧ Mq (if z.1.2.2.2.2.2 < 8 then zhm (zhd z (z.2.2.2.2.2.2.2.set z.1.2.2.2.2.2 s)) (z.1.2.2.2.2.2 + 1) else z) y st h') := by
  refine ec_in [some (.ref 0), some (.int (nI s))] rfl rfl ?_
  rcases hs with hs | rfl
  · have w1 : wi (nI s) (nI 0) (nI 19) = 1 := by rw [wi_n (by omega) (by omega) (by omega), if_pos (by omega)]
    iterate 3 refine ev_nx rfl ?_
    refine ev_si rfl rfl (by decide) rfl rfl rfl rfl (f_in _ _ _ _) ?_
    rw [w1]
    refine ev_nx rfl ?_
    refine ev_t (by decide) ?_
    exact g_hear1 hJ hm hl
  · have w1 : wi (nI 31) (nI 0) (nI 19) = 0 := by decide
    iterate 3 refine ev_nx rfl ?_
    refine ev_si rfl rfl (by decide) rfl rfl rfl rfl (f_in _ _ _ _) ?_
    rw [w1]
    refine ev_nx rfl ?_
    refine ev_f (by decide) ?_
    iterate 3 refine ev_nx rfl ?_
    refine ev_t (by decide) ?_
    exact g_hear1 hJ hm hl
theorem g_forget {w : Nat} (hJ : Mq z y st h) (hw : w ≤ 1) : Ec (d + 1) m_X9_forget [.ref 0, .int (nI w)] h (fun v h' => v = some (.int (nI (if w = 0 then z.1.2.2.2.2.1 else z.1.2.2.2.2.2))) ∧ Mq (if w = 0 then zsm z 0 else zhm z 0) y st h') := by
  have w1 : wi (nI w) (nI 0) (nI 1) = 1 := by rw [wi_n (by omega) (by omega) (by omega), if_pos (by omega)]
  obtain ⟨nw, be, ge, re, rl, br, pt_, wo, hln, rfl⟩ := hJ
  refine ec_in [some (.ref 0), some (.int (nI w)), none] rfl rfl ?_
  rcases (show w = 0 ∨ w = 1 by omega) with rfl | rfl
  · iterate 3 refine ev_nx rfl ?_
    refine ev_si rfl rfl (by decide) rfl rfl rfl rfl (f_in _ _ _ _) ?_
    rw [w1]
    refine ev_nx rfl ?_
    refine ev_t (by decide) ?_
    iterate 2 refine ev_nx rfl ?_
    refine ev_f (by decide) ?_
    iterate 7 refine ev_nx rfl ?_
    refine ev_f (by decide) ?_
    iterate 2 refine ev_nx rfl ?_
    refine ev_pM rfl rfl rfl rfl rfl rfl rfl ?_
    iterate 4 refine ev_nx rfl ?_
    refine ev_t (by decide) ?_
    iterate 2 refine ev_nx rfl ?_
    refine ev_pM rfl rfl rfl rfl rfl rfl rfl ?_
    refine ev_nx rfl ?_
    exact ev_ri rfl rfl rfl ⟨rfl, nw, be, ge, re, rl, br, pt_, wo, hln, rfl⟩
  · iterate 3 refine ev_nx rfl ?_
    refine ev_si rfl rfl (by decide) rfl rfl rfl rfl (f_in _ _ _ _) ?_
    rw [w1]
    refine ev_nx rfl ?_
    refine ev_t (by decide) ?_
    iterate 2 refine ev_nx rfl ?_
    refine ev_t (by decide) ?_
    iterate 6 refine ev_nx rfl ?_
    refine ev_t (by decide) ?_
    iterate 2 refine ev_nx rfl ?_
    refine ev_pM rfl rfl rfl rfl rfl rfl rfl ?_
    iterate 4 refine ev_nx rfl ?_
    refine ev_f (by decide) ?_
    iterate 2 refine ev_nx rfl ?_
    refine ev_pM rfl rfl rfl rfl rfl rfl rfl ?_
    refine ev_nx rfl ?_
    exact ev_ri rfl rfl rfl ⟨rfl, nw, be, ge, re, rl, br, pt_, wo, hln, rfl⟩
/-! the book -/
def ntb (st : List Nat) (un : Nat) (bk : List Nat) : List Nat := if un = 8 then brg st (bsg 29 0 203 0 bk) 0 (29 * 7) 29 0 else brg st bk 0 (29 * un) 29 0
def ntu (un : Nat) : Nat := if un = 8 then 8 else un + 1
def znt (st : List Nat) (z : aZ) : aZ := zun (zbk z (ntb st z.1.2.2.1 z.2.2.2.2.1)) (ntu z.1.2.2.1)
theorem bsg_len {i k : Nat} : ∀ n q (B : List Nat), (bsg i k n q B).length = B.length
  | 0, _, _ => rfl
  | n + 1, q, B => by rw [bsg, bsg_len n, List.length_set]
theorem bring_n {A B C : List Nat} {a b i k n : Nat} (hC : C = brg A B i k n 0) (hab : a ≠ b) (ha : a < 100000 ∧ b < 100000) (h1 : i + n ≤ A.length ∧ A.length < 10000) (h2 : k + n ≤ B.length ∧ B.length < 10000) (h : aH) (hA : h[a]? = some (ar A)) (hB : h[b]? = some (ar B)) : Ec d m_X9_bring [.ref a, .int (nI i), .ref b, .int (nI k), .int (nI n)] h (rtv (h.set b (ar C))) := by
  rw [hC]; exact f_bring hA hB hab ha h1 h2
theorem bring_s {B C : List Nat} {b i k n : Nat} (hC : C = bsg i k n 0 B) (hb : b < 100000) (h1 : i + n ≤ B.length ∧ B.length < 10000) (h2 : k + n ≤ B.length) (h : aH) (hB : h[b]? = some (ar B)) : Ec d m_X9_bring [.ref b, .int (nI i), .ref b, .int (nI k), .int (nI n)] h (rtv (h.set b (ar C))) := by
  rw [hC]; exact f_bringS hB hb h1 h2
theorem f_notes (hs : st.length = 29) (hb : z.2.2.2.2.1.length = 232) (hu : z.1.2.2.1 ≤ 8) : Ec (d + 1) m_X9_notes [.ref 0] (XM z y st nw be ge re rl br pt_ wo) (rtv (XM (znt st z) y st nw be ge re rl br pt_ wo)) := by
  refine ec_in [some (.ref 0)] rfl rfl ?_
  by_cases h8 : z.1.2.2.1 = 8
  · obtain ⟨B1, e1⟩ : ∃ B1, B1 = bsg 29 0 203 0 z.2.2.2.2.1 := ⟨_, rfl⟩
    have l1 : B1.length = 232 := by rw [e1, bsg_len, hb]
    obtain ⟨B2, e2⟩ : ∃ B2, B2 = brg st B1 0 (29 * 7) 29 0 := ⟨_, rfl⟩
    have e : znt st z = zun (zbk z B2) 8 := by rw [znt, ntb, ntu, if_pos h8, if_pos h8, e2, e1]
    have H1 := bring_s (d := d) (b := 7) e1 (by decide) (by omega) (by omega)
    have H2 := bring_n (d := d) (a := 5) (b := 7) e2 (by decide) (by decide) (by omega) (by omega)
    rw [e]
    clear e e1 e2
    iterate 4 refine ev_nx rfl ?_
    refine ev_ne (fun b6 => absurd b6 (by omega)) (fun b6 => ?_)
    iterate 7 refine ev_nx rfl ?_
    refine ev_sv rfl rfl (by decide) rfl rfl rfl rfl (H1 _ rfl) ?_
    iterate 4 refine ev_nx rfl ?_
    refine ev_sub rfl (by omega) ?_
    rw [show z.1.2.2.1 - 1 = 7 by omega]
    refine ev_pM rfl rfl rfl rfl rfl rfl rfl ?_
    iterate 8 refine ev_nx rfl ?_
    refine ev_mul rfl ?_
    refine ev_nx rfl ?_
    refine ev_sv rfl rfl (by decide) rfl rfl rfl rfl (H2 _ rfl rfl) ?_
    iterate 4 refine ev_nx rfl ?_
    refine ev_add rfl ?_
    refine ev_pM rfl rfl rfl rfl rfl rfl rfl ?_
    exact ev_rt rfl ⟨rfl, rfl⟩
  · obtain ⟨B2, e2⟩ : ∃ B2, B2 = brg st z.2.2.2.2.1 0 (29 * z.1.2.2.1) 29 0 := ⟨_, rfl⟩
    have e : znt st z = zun (zbk z B2) (z.1.2.2.1 + 1) := by rw [znt, ntb, ntu, if_neg h8, if_neg h8, e2]
    have H2 := bring_n (d := d) (a := 5) (b := 7) e2 (by decide) (by decide) (by omega) (by omega)
    rw [e]
    clear e e2
    iterate 4 refine ev_nx rfl ?_
    refine ev_ne (fun b6 => ?_) (fun b6 => absurd b6 (by omega))
    iterate 8 refine ev_nx rfl ?_
    refine ev_mul rfl ?_
    refine ev_nx rfl ?_
    refine ev_sv rfl rfl (by decide) rfl rfl rfl rfl (H2 _ rfl rfl) ?_
    iterate 4 refine ev_nx rfl ?_
    refine ev_add rfl ?_
    refine ev_pM rfl rfl rfl rfl rfl rfl rfl ?_
    exact ev_rt rfl ⟨rfl, rfl⟩
theorem g_send {s : Nat} (ok : lok K S G c t j) (hJ : Mq z y (ll K S G c t j) h) (hs : s ≤ 30) (hb : z.2.2.2.2.1.length = 232) (hu : z.1.2.2.1 ≤ 8) : Ec (d + 3) m_X9_send [.ref 0, .int (nI s)] h (fun v h' => v = some (.int (nI (rdS (bst K (cry s c t j) S G)))) ∧ Mq (znt (ll K S G c t j) z) y (ll K (bst K (cry s c t j) S G) (cry s c t j) c t j) h') := by
  have w1 : wi (nI s) (nI 0) (nI 30) = 1 := by rw [wi_n (by omega) (by omega) (by omega), if_pos (by omega)]
  obtain ⟨nw, be, ge, re, rl, br, pt_, wo, hln, rfl⟩ := hJ
  refine ec_in [some (.ref 0), some (.int (nI s))] rfl rfl ?_
  iterate 3 refine ev_nx rfl ?_
  refine ev_si rfl rfl (by decide) rfl rfl rfl rfl (f_in _ _ _ _) ?_
  rw [w1]
  refine ev_nx rfl ?_
  refine ev_t (by decide) ?_
  refine ev_nx rfl ?_
  refine ev_vv rfl rfl rfl rfl rfl rfl rfl rfl (f_notes (ll_len ok) hb hu) ?_
  iterate 4 refine ev_nx rfl ?_
  refine ev_vv rfl rfl rfl rfl rfl rfl rfl rfl (f_beat5 ok hln.2.1 hln.2.2.1 (by omega)) ?_
  iterate 3 refine ev_nx rfl ?_
  refine ev_vi rfl rfl rfl rfl rfl rfl rfl rfl (f_readOf5 (bst_ok ok (by omega))) ?_
  exact ev_ri rfl rfl rfl ⟨rfl, nw, _, _, re, rl, br, pt_, wo, ⟨hln.1, rfl, cry_len, hln.2.2.2⟩, rfl⟩
theorem g_cut {p : Nat} (ok : lok K S G c t j) (hJ : Mq z y (ll K S G c t j) h) (hp : p < 5) (hb : z.2.2.2.2.1.length = 232) (hu : z.1.2.2.1 ≤ 8) : Ec (d + 2) m_X9_cut [.ref 0, .int (nI p)] h (fun v h' => v = some (.int (if bt c p = 1 then -(nI 2) else nI (pcn (c ||| 1 * 2 ^ p)))) ∧ Mq (if bt c p = 1 then z else znt (ll K S G c t j) z) y (if bt c p = 1 then ll K S G c t j else ll K S G (c ||| 1 * 2 ^ p) t j) h') := by
  have w1 : wi (nI p) (nI 0) (nI 4) = 1 := by rw [wi_n (by omega) (by omega) (by omega), if_pos (by omega)]
  obtain ⟨nw, be, ge, re, rl, br, pt_, wo, hln, rfl⟩ := hJ
  have hl := ll_len ok
  have hbt := bt_lt c p
  have ok2 : lok K S G (c ||| 1 * 2 ^ p) t j := ⟨ok.1, ok.2.1, ok.2.2.1, or32 ok.2.2.2.1 (p2_32 hp), ok.2.2.2.2⟩
  refine ec_in [some (.ref 0), some (.int (nI p))] rfl rfl ?_
  refine ev_nx rfl ?_
  refine ev_si rfl rfl (by decide) rfl rfl rfl rfl (f_isPlace _ _) ?_
  rw [w1]
  refine ev_nx rfl ?_
  refine ev_t (by decide) ?_
  iterate 4 refine ev_nx rfl ?_
  refine ev_add rfl ?_
  refine ev_lN rfl rfl (by omega) ?_
  rw [ll_c p hp]
  iterate 2 refine ev_nx rfl ?_
  refine ev_ne (fun b18 => ?_) (fun b18 => ?_)
  · refine ev_nx rfl ?_
    refine ev_vv rfl rfl rfl rfl rfl rfl rfl rfl (f_notes (ll_len ok) hb hu) ?_
    iterate 4 refine ev_nx rfl ?_
    refine ev_add rfl ?_
    refine ev_nx rfl ?_
    refine ev_sN rfl rfl (by omega) ?_
    rw [ll_c1 p hp ok.2.2.2.1]
    iterate 4 refine ev_nx rfl ?_
    refine ev_si rfl rfl (by decide) rfl rfl rfl rfl (g_sumc ok2 rfl (by decide)) ?_
    simp only [if_neg b18]
    exact ev_ri rfl rfl rfl ⟨rfl, nw, be, ge, re, rl, br, pt_, wo, hln, rfl⟩
  · refine ev_nx rfl ?_
    simp only [if_pos b18]
    exact ev_ri rfl rfl rfl ⟨rfl, nw, be, ge, re, rl, br, pt_, wo, hln, rfl⟩
theorem xor32 {a b : Nat} (ha : a < 32) (hb : b < 32) : a ^^^ b < 32 := Nat.xor_lt_two_pow (n := 5) ha hb
theorem g_turn {p : Nat} (ok : lok K S G c t j) (hJ : Mq z y (ll K S G c t j) h) (hp : p < 5) (hb : z.2.2.2.2.1.length = 232) (hu : z.1.2.2.1 ≤ 8) : Ec (d + 2) m_X9_turn [.ref 0, .int (nI p)] h (fun v h' => v = some (.int (nI (pcn (t ^^^ 1 * 2 ^ p)))) ∧ Mq (znt (ll K S G c t j) z) y (ll K S G c (t ^^^ 1 * 2 ^ p) j) h') := by
  have w1 : wi (nI p) (nI 0) (nI 4) = 1 := by rw [wi_n (by omega) (by omega) (by omega), if_pos (by omega)]
  obtain ⟨nw, be, ge, re, rl, br, pt_, wo, hln, rfl⟩ := hJ
  have hl := ll_len ok
  have hbt := bt_lt t p
  have ok2 : lok K S G c (t ^^^ 1 * 2 ^ p) j := ⟨ok.1, ok.2.1, ok.2.2.1, ok.2.2.2.1, xor32 ok.2.2.2.2.1 (p2_32 hp), ok.2.2.2.2.2⟩
  refine ec_in [some (.ref 0), some (.int (nI p))] rfl rfl ?_
  refine ev_nx rfl ?_
  refine ev_si rfl rfl (by decide) rfl rfl rfl rfl (f_isPlace _ _) ?_
  rw [w1]
  refine ev_nx rfl ?_
  refine ev_t (by decide) ?_
  refine ev_nx rfl ?_
  refine ev_vv rfl rfl rfl rfl rfl rfl rfl rfl (f_notes (ll_len ok) hb hu) ?_
  iterate 4 refine ev_nx rfl ?_
  refine ev_add rfl ?_
  iterate 5 refine ev_nx rfl ?_
  refine ev_add rfl ?_
  refine ev_lN rfl rfl (by omega) ?_
  rw [ll_t p hp]
  refine ev_sub rfl (by omega) ?_
  refine ev_sN rfl rfl (by omega) ?_
  rw [ll_tx p hp ok.2.2.2.2.1]
  iterate 4 refine ev_nx rfl ?_
  refine ev_si rfl rfl (by decide) rfl rfl rfl rfl (g_sumt ok2 rfl (by decide)) ?_
  exact ev_ri rfl rfl rfl ⟨rfl, nw, be, ge, re, rl, br, pt_, wo, hln, rfl⟩
theorem or16 {a b : Nat} (ha : a < 16) (hb : b < 16) : a ||| b < 16 := Nat.or_lt_two_pow (n := 4) ha hb
theorem p2_16 {p : Nat} (hp : p < 4) : 1 * 2 ^ p < 16 := by
  rcases c4 hp with rfl | rfl | rfl | rfl <;> decide
theorem g_touch {p : Nat} (ok : lok K S G c t j) (hJ : Mq z y (ll K S G c t j) h) (hp : p < 4) (hb : z.2.2.2.2.1.length = 232) (hu : z.1.2.2.1 ≤ 8) : Ec (d + 2) m_X9_touch [.ref 0, .int (nI p)] h (fun v h' => v = some (.int (if bt j p = 1 then -(nI 2) else nI (pcn (j ||| 1 * 2 ^ p)))) ∧ Mq (if bt j p = 1 then z else znt (ll K S G c t j) z) y (if bt j p = 1 then ll K S G c t j else ll K S G c t (j ||| 1 * 2 ^ p)) h') := by
  have w1 : wi (nI p) (nI 0) (nI 3) = 1 := by rw [wi_n (by omega) (by omega) (by omega), if_pos (by omega)]
  obtain ⟨nw, be, ge, re, rl, br, pt_, wo, hln, rfl⟩ := hJ
  have hl := ll_len ok
  have hbt := bt_lt j p
  have ok2 : lok K S G c t (j ||| 1 * 2 ^ p) := ⟨ok.1, ok.2.1, ok.2.2.1, ok.2.2.2.1, ok.2.2.2.2.1, or16 ok.2.2.2.2.2 (p2_16 hp)⟩
  refine ec_in [some (.ref 0), some (.int (nI p))] rfl rfl ?_
  iterate 3 refine ev_nx rfl ?_
  refine ev_si rfl rfl (by decide) rfl rfl rfl rfl (f_in _ _ _ _) ?_
  rw [w1]
  refine ev_nx rfl ?_
  refine ev_t (by decide) ?_
  iterate 4 refine ev_nx rfl ?_
  refine ev_add rfl ?_
  refine ev_lN rfl rfl (by omega) ?_
  rw [ll_j p hp]
  iterate 2 refine ev_nx rfl ?_
  refine ev_ne (fun b21 => ?_) (fun b21 => ?_)
  · refine ev_nx rfl ?_
    refine ev_vv rfl rfl rfl rfl rfl rfl rfl rfl (f_notes (ll_len ok) hb hu) ?_
    iterate 4 refine ev_nx rfl ?_
    refine ev_add rfl ?_
    refine ev_nx rfl ?_
    refine ev_sN rfl rfl (by omega) ?_
    rw [ll_j1 p hp ok.2.2.2.2.2]
    iterate 4 refine ev_nx rfl ?_
    refine ev_si rfl rfl (by decide) rfl rfl rfl rfl (g_sumj ok2 rfl (by decide)) ?_
    simp only [if_neg b21]
    exact ev_ri rfl rfl rfl ⟨rfl, nw, be, ge, re, rl, br, pt_, wo, hln, rfl⟩
  · refine ev_nx rfl ?_
    simp only [if_pos b21]
    exact ev_ri rfl rfl rfl ⟨rfl, nw, be, ge, re, rl, br, pt_, wo, hln, rfl⟩
theorem g_change {p q : Nat} (ok : lok K S G c t j) (hJ : Mq z y (ll K S G c t j) h) (hp : p < 5) (hq : q < 5) (hpq : p ≠ q) (hb : z.2.2.2.2.1.length = 232) (hu : z.1.2.2.1 ≤ 8) : Ec (d + 2) m_X9_change [.ref 0, .int (nI p), .int (nI q)] h (fun v h' => v = some (.int (nI ((swp K p q).getD p 0))) ∧ Mq (znt (ll K S G c t j) z) y (ll (swp K p q) (swp S p q) (swp G p q) c t j) h') := by
  have w1 : wi (nI p) (nI 0) (nI 4) = 1 := by rw [wi_n (by omega) (by omega) (by omega), if_pos (by omega)]
  have w2 : wi (nI q) (nI 0) (nI 4) = 1 := by rw [wi_n (by omega) (by omega) (by omega), if_pos (by omega)]
  obtain ⟨nw, be, ge, re, rl, br, pt_, wo, hln, rfl⟩ := hJ
  have hl := ll_len ok
  have ok2 := lok_sw ok hp hq
  have hl2 := ll_len ok2
  refine ec_in [some (.ref 0), some (.int (nI p)), some (.int (nI q))] rfl rfl ?_
  refine ev_nx rfl ?_
  refine ev_si rfl rfl (by decide) rfl rfl rfl rfl (f_isPlace _ _) ?_
  rw [w1]
  refine ev_nx rfl ?_
  refine ev_f (by decide) ?_
  refine ev_nx rfl ?_
  refine ev_si rfl rfl (by decide) rfl rfl rfl rfl (f_isPlace _ _) ?_
  rw [w2]
  refine ev_nx rfl ?_
  refine ev_f (by decide) ?_
  iterate 3 refine ev_nx rfl ?_
  refine ev_ne (fun b16 => ?_) (fun b16 => absurd b16 (by omega))
  refine ev_nx rfl ?_
  refine ev_vv rfl rfl rfl rfl rfl rfl rfl rfl (f_notes (ll_len ok) hb hu) ?_
  iterate 4 refine ev_nx rfl ?_
  refine ev_sv rfl rfl (by decide) rfl rfl rfl rfl (f_changes ok rfl (by decide) hp hq) ?_
  iterate 4 refine ev_nx rfl ?_
  refine ev_add rfl ?_
  refine ev_lN rfl rfl (by omega) ?_
  rw [ll_K ok2 p hp]
  exact ev_ri rfl rfl rfl ⟨rfl, nw, be, ge, re, rl, br, pt_, wo, hln, rfl⟩
theorem g_undo (hJ : Mq z y st h) (hs : st.length = 29) (hb : z.2.2.2.2.1.length = 232) (hu : z.1.2.2.1 ≤ 8) : Ec (d + 1) m_X9_undo [.ref 0] h (fun v h' => v = some (.int (if z.1.2.2.1 = 0 then -(nI 2) else nI (z.1.2.2.1 - 1))) ∧ Mq (if z.1.2.2.1 = 0 then z else zun z (z.1.2.2.1 - 1)) y (if z.1.2.2.1 = 0 then st else brg z.2.2.2.2.1 st (29 * (z.1.2.2.1 - 1)) 0 29 0) h') := by
  obtain ⟨nw, be, ge, re, rl, br, pt_, wo, hln, rfl⟩ := hJ
  refine ec_in [some (.ref 0)] rfl rfl ?_
  by_cases hE : z.1.2.2.1 = 0
  · simp only [if_pos hE]
    iterate 3 refine ev_nx rfl ?_
    refine ev_ne0 (fun b4 => absurd b4 (by omega)) (fun b4 => ?_)
    refine ev_nx rfl ?_
    exact ev_ri rfl rfl rfl ⟨rfl, nw, be, ge, re, rl, br, pt_, wo, hln, rfl⟩
  obtain ⟨B2, e2⟩ : ∃ B2, B2 = brg z.2.2.2.2.1 st (29 * (z.1.2.2.1 - 1)) 0 29 0 := ⟨_, rfl⟩
  have H2 := bring_n (d := d) (a := 7) (b := 5) e2 (by decide) (by decide) (by omega) (by omega)
  simp only [if_neg hE]
  rw [← e2]
  clear e2
  iterate 3 refine ev_nx rfl ?_
  refine ev_ne0 (fun b4 => ?_) (fun b4 => absurd b4 (by omega))
  iterate 4 refine ev_nx rfl ?_
  refine ev_sub rfl (by omega) ?_
  refine ev_pM rfl rfl rfl rfl rfl rfl rfl ?_
  iterate 5 refine ev_nx rfl ?_
  refine ev_mul rfl ?_
  iterate 4 refine ev_nx rfl ?_
  refine ev_sv rfl rfl (by decide) rfl rfl rfl rfl (H2 _ rfl rfl) ?_
  iterate 2 refine ev_nx rfl ?_
  exact ev_ri rfl rfl rfl ⟨rfl, nw, be, ge, re, rl, br, pt_, wo, hln, rfl⟩
theorem g_keep (hJ : Mq z y st h) (hs : st.length = 29) (hb : z.2.2.2.2.2.1.length = 58) (hu : z.1.2.2.2.1 ≤ 2) : Ec (d + 1) m_X9_keep [.ref 0] h (fun v h' => v = some (.int (if z.1.2.2.2.1 = 2 then -(nI 3) else nI (z.1.2.2.2.1 + 1))) ∧ Mq (if z.1.2.2.2.1 = 2 then z else zke (zkp z (brg st z.2.2.2.2.2.1 0 (29 * z.1.2.2.2.1) 29 0)) (z.1.2.2.2.1 + 1)) y st h') := by
  obtain ⟨nw, be, ge, re, rl, br, pt_, wo, hln, rfl⟩ := hJ
  refine ec_in [some (.ref 0)] rfl rfl ?_
  by_cases hE : z.1.2.2.2.1 = 2
  · simp only [if_pos hE]
    iterate 4 refine ev_nx rfl ?_
    refine ev_ne (fun b5 => absurd b5 (by omega)) (fun b5 => ?_)
    refine ev_nx rfl ?_
    exact ev_ri rfl rfl rfl ⟨rfl, nw, be, ge, re, rl, br, pt_, wo, hln, rfl⟩
  obtain ⟨B2, e2⟩ : ∃ B2, B2 = brg st z.2.2.2.2.2.1 0 (29 * z.1.2.2.2.1) 29 0 := ⟨_, rfl⟩
  have H2 := bring_n (d := d) (a := 5) (b := 8) e2 (by decide) (by decide) (by omega) (by omega)
  simp only [if_neg hE]
  rw [← e2]
  clear e2
  iterate 4 refine ev_nx rfl ?_
  refine ev_ne (fun b5 => ?_) (fun b5 => absurd b5 (by omega))
  iterate 8 refine ev_nx rfl ?_
  refine ev_mul rfl ?_
  refine ev_nx rfl ?_
  refine ev_sv rfl rfl (by decide) rfl rfl rfl rfl (H2 _ rfl rfl) ?_
  iterate 4 refine ev_nx rfl ?_
  refine ev_add rfl ?_
  refine ev_pM rfl rfl rfl rfl rfl rfl rfl ?_
  iterate 2 refine ev_nx rfl ?_
  exact ev_ri rfl rfl rfl ⟨rfl, nw, be, ge, re, rl, br, pt_, wo, hln, rfl⟩
theorem g_back (hJ : Mq z y st h) (hs : st.length = 29) (hb : z.2.2.2.2.2.1.length = 58) (hu : z.1.2.2.2.1 ≤ 2) : Ec (d + 1) m_X9_back [.ref 0] h (fun v h' => v = some (.int (if z.1.2.2.2.1 = 0 then -(nI 2) else nI (z.1.2.2.2.1 - 1))) ∧ Mq (if z.1.2.2.2.1 = 0 then z else zun (zke z (z.1.2.2.2.1 - 1)) 0) y (if z.1.2.2.2.1 = 0 then st else brg z.2.2.2.2.2.1 st (29 * (z.1.2.2.2.1 - 1)) 0 29 0) h') := by
  obtain ⟨nw, be, ge, re, rl, br, pt_, wo, hln, rfl⟩ := hJ
  refine ec_in [some (.ref 0)] rfl rfl ?_
  by_cases hE : z.1.2.2.2.1 = 0
  · simp only [if_pos hE]
    iterate 3 refine ev_nx rfl ?_
    refine ev_ne0 (fun b4 => absurd b4 (by omega)) (fun b4 => ?_)
    refine ev_nx rfl ?_
    exact ev_ri rfl rfl rfl ⟨rfl, nw, be, ge, re, rl, br, pt_, wo, hln, rfl⟩
  obtain ⟨B2, e2⟩ : ∃ B2, B2 = brg z.2.2.2.2.2.1 st (29 * (z.1.2.2.2.1 - 1)) 0 29 0 := ⟨_, rfl⟩
  have H2 := bring_n (d := d) (a := 8) (b := 5) e2 (by decide) (by decide) (by omega) (by omega)
  simp only [if_neg hE]
  rw [← e2]
  clear e2
  iterate 3 refine ev_nx rfl ?_
  refine ev_ne0 (fun b4 => ?_) (fun b4 => absurd b4 (by omega))
  iterate 4 refine ev_nx rfl ?_
  refine ev_sub rfl (by omega) ?_
  refine ev_pM rfl rfl rfl rfl rfl rfl rfl ?_
  iterate 5 refine ev_nx rfl ?_
  refine ev_mul rfl ?_
  iterate 4 refine ev_nx rfl ?_
  refine ev_sv rfl rfl (by decide) rfl rfl rfl rfl (H2 _ rfl rfl) ?_
  iterate 2 refine ev_nx rfl ?_
  refine ev_pM rfl rfl rfl rfl rfl rfl rfl ?_
  iterate 2 refine ev_nx rfl ?_
  exact ev_ri rfl rfl rfl ⟨rfl, nw, be, ge, re, rl, br, pt_, wo, hln, rfl⟩
end XL
end
section
/-! the reference: mend, fits, chances, days -/
section XN
variable {d : Nat} {h : aH} {z : aZ} {y : aY} {st nw be ge re rl br pt_ : List Nat} {wo : List Int32} {K S G : List Nat} {c t j : Nat}
theorem g_mend {p : Nat} (ok : lok K S G c t j) (hJ : Mq z y (ll K S G c t j) h) (hp : p < 5) (hb : z.2.2.2.2.1.length = 232) (hu : z.1.2.2.1 ≤ 8) : Ec (d + 3) m_X9_mend [.ref 0, .int (nI p)] h (fun v h' => v = some (.int (if bt (mdw c t j) p = 0 then -(nI 2) else nI (pcn (clr c (1 * 2 ^ p) ||| clr t (1 * 2 ^ p) ||| clr j (mdj (1 * 2 ^ p)))))) ∧ Mq (if bt (mdw c t j) p = 0 then z else znt (ll K S G c t j) z) y (if bt (mdw c t j) p = 0 then ll K S G c t j else ll K S G (clr c (1 * 2 ^ p)) (clr t (1 * 2 ^ p)) (clr j (mdj (1 * 2 ^ p)))) h') := by
  have w1 : wi (nI p) (nI 0) (nI 4) = 1 := by rw [wi_n (by omega) (by omega) (by omega), if_pos (by omega)]
  obtain ⟨nw, be, ge, re, rl, br, pt_, wo, hln, rfl⟩ := hJ
  have hl := ll_len ok
  have hbt := bt_lt (mdw c t j) p
  have ok2 : lok K S G (clr c (1 * 2 ^ p)) (clr t (1 * 2 ^ p)) (clr j (mdj (1 * 2 ^ p))) := lok_md ok
  refine ec_in [some (.ref 0), some (.int (nI p)), none, none] rfl rfl ?_
  by_cases hE : bt (mdw c t j) p = 0
  · simp only [if_pos hE]
    refine ev_nx rfl ?_
    refine ev_si rfl rfl (by decide) rfl rfl rfl rfl (f_isPlace _ _) ?_
    rw [w1]
    refine ev_nx rfl ?_
    refine ev_t (by decide) ?_
    iterate 3 refine ev_nx rfl ?_
    refine ev_si rfl rfl (by decide) rfl rfl rfl rfl (f_mayMend ok rfl (by decide) hp) ?_
    rw [hE]
    refine ev_nx rfl ?_
    refine ev_f (by decide) ?_
    refine ev_nx rfl ?_
    exact ev_ri rfl rfl rfl ⟨rfl, nw, be, ge, re, rl, br, pt_, wo, hln, rfl⟩
  simp only [if_neg hE]
  have HM := f_mends (d := d + 2) (h := XM (znt (ll K S G c t j) z) y (ll K S G c t j) nw be ge re rl br pt_ wo) (a := 5) ok rfl (by decide) hp
  generalize clr c (1 * 2 ^ p) = c2 at ok2 HM ⊢
  generalize clr t (1 * 2 ^ p) = t2 at ok2 HM ⊢
  generalize clr j (mdj (1 * 2 ^ p)) = j2 at ok2 HM ⊢
  have hl2 := ll_len ok2
  have H : ∀ q n (Q1 : Option Value → aH → Prop), q < 5 → Ev (d + 3) m_X9_mend 39 [some (.ref 0), some (.int (nI p)), some (.int (nI (n + bt (c2 ||| t2 ||| j2) q))), some (.int (nI (q + 1)))] [] (XM (znt (ll K S G c t j) z) y (ll K S G c2 t2 j2) nw be ge re rl br pt_ wo) Q1 → Ev (d + 3) m_X9_mend 39 [some (.ref 0), some (.int (nI p)), some (.int (nI n)), some (.int (nI q))] [] (XM (znt (ll K S G c t j) z) y (ll K S G c2 t2 j2) nw be ge re rl br pt_ wo) Q1 := by
    intro q n Q1 hq k
    have e : bt (c2 ||| t2 ||| j2) q = if bt c2 q = 1 ∨ bt t2 q = 1 ∨ bt j2 q = 1 then 1 else 0 := by
      rw [bt_or, bt_or]; (repeat' split) <;> omega
    have b1 := bt_lt c2 q
    have b2 := bt_lt t2 q
    have b3 := bt_lt j2 q
    rw [e] at k
    clear e
    iterate 3 refine ev_nx rfl ?_
    refine ev_ge (fun b41 => absurd b41 (by omega)) (fun b41 => ?_)
    iterate 5 refine ev_nx rfl ?_
    refine ev_add rfl ?_
    refine ev_lN rfl rfl (by omega) ?_
    rw [ll_c q hq]
    iterate 2 refine ev_nx rfl ?_
    refine ev_eq (fun b54 => ?_) (fun b54 => ?_)
    · iterate 2 refine ev_nx rfl ?_
      refine ev_add rfl ?_
      refine ev_nx rfl ?_
      refine ev_inc rfl ⟨rfl, by decide⟩ rfl rfl ?_
      refine ev_nx rfl ?_
      first | (rw [if_pos (by omega)] at k; exact k) | (rw [if_neg (by omega)] at k; exact k)
    · iterate 4 refine ev_nx rfl ?_
      refine ev_add rfl ?_
      refine ev_lN rfl rfl (by omega) ?_
      rw [ll_t q hq]
      iterate 2 refine ev_nx rfl ?_
      refine ev_eq (fun b66 => ?_) (fun b66 => ?_)
      · iterate 2 refine ev_nx rfl ?_
        refine ev_add rfl ?_
        refine ev_nx rfl ?_
        refine ev_inc rfl ⟨rfl, by decide⟩ rfl rfl ?_
        refine ev_nx rfl ?_
        first | (rw [if_pos (by omega)] at k; exact k) | (rw [if_neg (by omega)] at k; exact k)
      · iterate 3 refine ev_nx rfl ?_
        refine ev_si rfl rfl (by decide) rfl rfl rfl rfl (f_touches ok2 rfl (by decide) (mm_t1 ok2.2.2.2.2.2 hq)) ?_
        refine ev_nx rfl ?_
        refine ev_eq0 (fun b77 => ?_) (fun b77 => ?_)
        · refine ev_nx rfl ?_
          refine ev_add rfl ?_
          refine ev_nx rfl ?_
          refine ev_inc rfl ⟨rfl, by decide⟩ rfl rfl ?_
          refine ev_nx rfl ?_
          first | (rw [if_pos (by omega)] at k; exact k) | (rw [if_neg (by omega)] at k; exact k)
        · iterate 2 refine ev_nx rfl ?_
          refine ev_add rfl ?_
          refine ev_nx rfl ?_
          refine ev_inc rfl ⟨rfl, by decide⟩ rfl rfl ?_
          refine ev_nx rfl ?_
          first | (rw [if_pos (by omega)] at k; exact k) | (rw [if_neg (by omega)] at k; exact k)
  have hj2 := ok2.2.2.2.2.2
  have hc32 : c2 ||| t2 ||| j2 < 32 := or32 (or32 ok2.2.2.2.1 ok2.2.2.2.2.1) (by omega)
  have e5 : bt (c2 ||| t2 ||| j2) 0 + (bt (c2 ||| t2 ||| j2) 1 + (bt (c2 ||| t2 ||| j2) 2 + (bt (c2 ||| t2 ||| j2) 3 + (bt (c2 ||| t2 ||| j2) 4 + 0)))) = pcn (c2 ||| t2 ||| j2) := pcn_5 ⟨c2 ||| t2 ||| j2, hc32⟩
  refine ev_nx rfl ?_
  refine ev_si rfl rfl (by decide) rfl rfl rfl rfl (f_isPlace _ _) ?_
  rw [w1]
  refine ev_nx rfl ?_
  refine ev_t (by decide) ?_
  iterate 3 refine ev_nx rfl ?_
  refine ev_si rfl rfl (by decide) rfl rfl rfl rfl (f_mayMend ok rfl (by decide) hp) ?_
  rw [show bt (mdw c t j) p = 1 by omega]
  refine ev_nx rfl ?_
  refine ev_t (by decide) ?_
  refine ev_nx rfl ?_
  refine ev_vv rfl rfl rfl rfl rfl rfl rfl rfl (f_notes (ll_len ok) hb hu) ?_
  iterate 3 refine ev_nx rfl ?_
  refine ev_sv rfl rfl (by decide) rfl rfl rfl rfl HM ?_
  iterate 4 refine ev_nx rfl ?_
  refine H 0 0 _ (by decide) (H 1 _ _ (by decide) (H 2 _ _ (by decide) (H 3 _ _ (by decide) (H 4 _ _ (by decide) ?_))))
  iterate 3 refine ev_nx rfl ?_
  refine ev_ge (fun b41 => ?_) (fun b41 => absurd b41 (by omega))
  refine ev_nx rfl ?_
  exact ev_ri rfl rfl rfl ⟨vI (by rw [← e5]; omega), nw, be, ge, re, rl, br, pt_, wo, hln, rfl⟩
theorem Mq_10 (hJ : Mq z y st h) : h[10]? = some (ar z.2.2.2.2.2.2.2) := by
  obtain ⟨nw, be, ge, re, rl, br, pt_, wo, _, rfl⟩ := hJ; rfl
theorem lp_ft {m w T : Nat} {QQ : Option Value → aH → Prop} (mo : mok z.2.2.2.1 z.2.2.1 z.1.2.1) (hJ : Mq z y st h) (hm : m < 6) (hd8 : z.2.2.2.2.2.2.2.length = 8) (hn : z.1.2.2.2.2.2 ≤ 8) (h32 : ∀ s ∈ z.2.2.2.2.2.2.2, s < 32) (he : z.2.2.1.getD m 0 = z.1.2.2.2.2.2) (kk : ∀ l4, Ev d m_X9_fits 93 [some (.ref 0), some (.int (nI w)), some (.int (nI m)), some (.int (nI T)), l4] [] h QQ) : ∀ r k, k + r = z.1.2.2.2.2.2 → T = b2n (lik ((z.2.2.2.2.2.2.2.take z.1.2.2.2.2.2).drop k) ((msg z.2.2.2.1 z.2.2.1 m).drop k)) → Ev d m_X9_fits 34 [some (.ref 0), some (.int (nI w)), some (.int (nI m)), some (.int (nI 1)), some (.int (nI k))] [] h QQ := by
  have hsl := mo.1
  intro r
  induction r with
  | zero =>
    intro k hk hT
    rw [List.drop_eq_nil_of_le (by rw [List.length_take]; omega), List.drop_eq_nil_of_le (by rw [msg_len mo.1 hm (by omega)]; omega)] at hT
    obtain rfl : T = 1 := hT
    iterate 2 refine ev_nx rfl ?_
    refine ev_gf rfl rfl (Mq_0 hJ) rfl ?_
    refine ev_nx rfl ?_
    refine ev_ge (fun b40 => ?_) (fun b40 => absurd b40 (by omega))
    exact kk _
  | succ r ih =>
    intro k hk hT
    rw [tk_drop (by omega) (by omega), msg_drop mo.1 hm (by omega) (by omega)] at hT
    unfold lik at hT
    have g1 : z.2.2.2.2.2.2.2.getD k 0 < 32 := gd3 h32 (by omega)
    have g2 : z.2.2.2.1.getD (m * 8 + k) 0 < 31 := gd3 mo.2.1 (by omega)
    have Z : T = 0 → Ev d m_X9_fits 34 [some (.ref 0), some (.int (nI w)), some (.int (nI m)), some (.int (nI 0)), some (.int (nI (k + 1)))] [] h QQ := by
      rintro rfl
      iterate 2 refine ev_nx rfl ?_
      refine ev_gf rfl rfl (Mq_0 hJ) rfl ?_
      refine ev_nx rfl ?_
      refine ev_ge (fun b40 => ?_) (fun b40 => ?_)
      · exact kk _
      · iterate 2 refine ev_nx rfl ?_
        refine ev_t (by decide) ?_
        exact kk _
    iterate 2 refine ev_nx rfl ?_
    refine ev_gf rfl rfl (Mq_0 hJ) rfl ?_
    refine ev_nx rfl ?_
    refine ev_ge (fun b40 => absurd b40 (by omega)) (fun b40 => ?_)
    iterate 2 refine ev_nx rfl ?_
    refine ev_f (by decide) ?_
    refine ev_nx rfl ?_
    refine ev_gf rfl rfl (Mq_0 hJ) rfl ?_
    refine ev_nx rfl ?_
    refine ev_lN rfl (Mq_10 hJ) (by omega) ?_
    iterate 2 refine ev_nx rfl ?_
    refine ev_eq (fun b56 => ?_) (fun b56 => ?_)
    · iterate 3 refine ev_nx rfl ?_
      refine ev_inc rfl ⟨rfl, by decide⟩ rfl rfl ?_
      refine ev_nx rfl ?_
      first | (rw [if_pos b56] at hT; exact ih (k + 1) (by omega) hT) | (rw [if_neg b56, if_pos b78] at hT; exact ih (k + 1) (by omega) hT) | (rw [if_neg b56, if_neg b78] at hT; exact Z hT)
    · refine ev_nx rfl ?_
      refine ev_gf rfl rfl (Mq_0 hJ) rfl ?_
      refine ev_nx rfl ?_
      refine ev_lN rfl (Mq_10 hJ) (by omega) ?_
      refine ev_nx rfl ?_
      refine ev_gf rfl rfl (Mq_0 hJ) rfl ?_
      iterate 2 refine ev_nx rfl ?_
      refine ev_mul rfl ?_
      refine ev_nx rfl ?_
      refine ev_add rfl ?_
      rw [show 8 * m + k = m * 8 + k by omega]
      refine ev_lN rfl (Mq_4 hJ) (by omega) ?_
      refine ev_nx rfl ?_
      refine ev_ne (fun b78 => ?_) (fun b78 => ?_)
      · iterate 2 refine ev_nx rfl ?_
        refine ev_inc rfl ⟨rfl, by decide⟩ rfl rfl ?_
        refine ev_nx rfl ?_
        first | (rw [if_pos b56] at hT; exact ih (k + 1) (by omega) hT) | (rw [if_neg b56, if_pos b78] at hT; exact ih (k + 1) (by omega) hT) | (rw [if_neg b56, if_neg b78] at hT; exact Z hT)
      · iterate 3 refine ev_nx rfl ?_
        refine ev_inc rfl ⟨rfl, by decide⟩ rfl rfl ?_
        refine ev_nx rfl ?_
        first | (rw [if_pos b56] at hT; exact ih (k + 1) (by omega) hT) | (rw [if_neg b56, if_pos b78] at hT; exact ih (k + 1) (by omega) hT) | (rw [if_neg b56, if_neg b78] at hT; exact Z hT)
theorem g_fits (mo : mok z.2.2.2.1 z.2.2.1 z.1.2.1) (hJ : Mq z y st h) (hd8 : z.2.2.2.2.2.2.2.length = 8) (hn : z.1.2.2.2.2.2 ≤ 8) (h32 : ∀ s ∈ z.2.2.2.2.2.2.2, s < 32) : Ec d m_X9_fits [.ref 0] h (rt (.int (nI (fts (z.2.2.2.2.2.2.2.take z.1.2.2.2.2.2) z.2.2.2.1 z.2.2.1 z.1.2.1 0 0))) h) := by
  have h6 := mo.2.2.2.2
  have hzl := mo.2.2.1
  refine ec_in [some (.ref 0), none, none, none, none] rfl rfl ?_
  have H : ∀ r m w l3 l4, m + r = z.1.2.1 → am_nl [some (.ref 0), some (.int (nI w)), some (.int (nI m)), l3] 4 = true → Ev d m_X9_fits 4 [some (.ref 0), some (.int (nI w)), some (.int (nI m)), l3, l4] [] h (rt (.int (nI (fts (z.2.2.2.2.2.2.2.take z.1.2.2.2.2.2) z.2.2.2.1 z.2.2.1 r m w))) h) := by
    intro r
    induction r with
    | zero =>
      intro m w l3 l4 hm hnl
      iterate 2 refine ev_nx rfl ?_
      refine ev_gf rfl rfl (Mq_0 hJ) rfl ?_
      refine ev_nx rfl ?_
      refine ev_ge (fun b9 => ?_) (fun b9 => absurd b9 (by omega))
      refine ev_nx rfl ?_
      exact ev_ri rfl rfl rfl ⟨rfl, rfl⟩
    | succ r ih =>
      intro m w l3 l4 hm hnl
      have h8 := mok8 mo (show m < 6 by omega)
      rw [fts]
      have K1 : lik (z.2.2.2.2.2.2.2.take z.1.2.2.2.2.2) (msg z.2.2.2.1 z.2.2.1 m) = true → ∀ l4, Ev d m_X9_fits 93 [some (.ref 0), some (.int (nI w)), some (.int (nI m)), some (.int (nI 1)), l4] [] h (rt (.int (nI (fts (z.2.2.2.2.2.2.2.take z.1.2.2.2.2.2) z.2.2.2.1 z.2.2.1 r (m + 1) (if lik (z.2.2.2.2.2.2.2.take z.1.2.2.2.2.2) (msg z.2.2.2.1 z.2.2.1 m) then w ||| 1 * 2 ^ m else w)))) h) := by
        intro e l4
        rw [e, if_pos rfl]
        iterate 3 refine ev_nx rfl ?_
        refine ev_f (by decide) ?_
        iterate 2 refine ev_nx rfl ?_
        refine ev_sh1 rfl (by omega) ?_
        refine ev_nx rfl ?_
        refine ev_or rfl ?_
        refine ev_nx rfl ?_
        refine ev_inc rfl ⟨rfl, by decide⟩ rfl rfl ?_
        refine ev_nx rfl ?_
        exact ih (m + 1) _ _ _ (by omega) rfl
      have K0 : lik (z.2.2.2.2.2.2.2.take z.1.2.2.2.2.2) (msg z.2.2.2.1 z.2.2.1 m) = false → ∀ l4, Ev d m_X9_fits 93 [some (.ref 0), some (.int (nI w)), some (.int (nI m)), some (.int (nI 0)), l4] [] h (rt (.int (nI (fts (z.2.2.2.2.2.2.2.take z.1.2.2.2.2.2) z.2.2.2.1 z.2.2.1 r (m + 1) (if lik (z.2.2.2.2.2.2.2.take z.1.2.2.2.2.2) (msg z.2.2.2.1 z.2.2.1 m) then w ||| 1 * 2 ^ m else w)))) h) := by
        intro e l4
        rw [e, if_neg (by decide)]
        iterate 3 refine ev_nx rfl ?_
        refine ev_t (by decide) ?_
        refine ev_nx rfl ?_
        refine ev_or rfl ?_
        rw [Nat.or_zero]
        refine ev_nx rfl ?_
        refine ev_inc rfl ⟨rfl, by decide⟩ rfl rfl ?_
        refine ev_nx rfl ?_
        exact ih (m + 1) _ _ _ (by omega) rfl
      have hml := msg_len mo.1 (show m < 6 by omega) h8
      by_cases he : z.2.2.1.getD m 0 = z.1.2.2.2.2.2
      · iterate 2 refine ev_nx rfl ?_
        refine ev_gf rfl rfl (Mq_0 hJ) rfl ?_
        refine ev_nx rfl ?_
        refine ev_ge (fun b9 => absurd b9 (by omega)) (fun b9 => ?_)
        refine ev_nx rfl ?_
        refine ev_gf rfl rfl (Mq_0 hJ) rfl ?_
        refine ev_nx rfl ?_
        refine ev_lN rfl (Mq_3 hJ) (by omega) ?_
        refine ev_nx rfl ?_
        refine ev_gf rfl rfl (Mq_0 hJ) rfl ?_
        refine ev_nx rfl ?_
        refine ev_ne (fun b22 => absurd b22 (by omega)) (fun b22 => ?_)
        iterate 5 refine ev_nx rfl ?_
        refine lp_ft (T := b2n (lik (z.2.2.2.2.2.2.2.take z.1.2.2.2.2.2) (msg z.2.2.2.1 z.2.2.1 m))) mo hJ (by omega) hd8 hn h32 he (fun l4 => ?_) z.1.2.2.2.2.2 0 (by omega) (by rw [List.drop_zero, List.drop_zero])
        cases hL : lik (z.2.2.2.2.2.2.2.take z.1.2.2.2.2.2) (msg z.2.2.2.1 z.2.2.1 m) with
        | true =>
          have := K1 hL l4
          rw [hL] at this
          exact this
        | false =>
          have := K0 hL l4
          rw [hL] at this
          exact this
      · have hL : lik (z.2.2.2.2.2.2.2.take z.1.2.2.2.2.2) (msg z.2.2.2.1 z.2.2.1 m) = false := lik_len _ _ (by rw [hml, List.length_take]; omega)
        iterate 2 refine ev_nx rfl ?_
        refine ev_gf rfl rfl (Mq_0 hJ) rfl ?_
        refine ev_nx rfl ?_
        refine ev_ge (fun b9 => absurd b9 (by omega)) (fun b9 => ?_)
        refine ev_nx rfl ?_
        refine ev_gf rfl rfl (Mq_0 hJ) rfl ?_
        refine ev_nx rfl ?_
        refine ev_lN rfl (Mq_3 hJ) (by omega) ?_
        refine ev_nx rfl ?_
        refine ev_gf rfl rfl (Mq_0 hJ) rfl ?_
        refine ev_nx rfl ?_
        refine ev_ne (fun b22 => ?_) (fun b22 => absurd b22 (by omega))
        iterate 6 refine ev_nx rfl ?_
        refine ev_gf rfl rfl (Mq_0 hJ) rfl ?_
        refine ev_nx rfl ?_
        refine ev_ge (fun b40 => ?_) (fun b40 => ?_)
        · exact K0 hL _
        · iterate 2 refine ev_nx rfl ?_
          refine ev_t (by decide) ?_
          exact K0 hL _
  iterate 4 refine ev_nx rfl ?_
  exact H z.1.2.1 0 0 _ _ (by omega) rfl
/-! chances -/
def slk (s w x : Nat) : Nat := if s = w then (if s = 0 then 10 else 10 - x) else if w = 0 then x else 0
theorem slk_le {s w x : Nat} (hx : x ≤ 10) : slk s w x ≤ 10 := by unfold slk; (repeat' split) <;> omega
def lyk (S : List Nat) (s x : Nat) : Nat → Nat → Nat → Nat
  | 0, _, a => a
  | n + 1, p, a => lyk S s x n (p + 1) (a * slk (S.getD p 0) (pt s p) x)
/-- of 100000, how often a sign is right -/
def lky (K : List Nat) (c t j s x : Nat) : Nat := lyk (bst K (cry s c t j) z5 z5) s x 5 0 1
theorem lyk_le {S : List Nat} {s x : Nat} (hx : x ≤ 10) : ∀ n p a, lyk S s x n p a ≤ a * 10 ^ n := by
  intro n
  induction n with
  | zero => intro p a; simp [lyk]
  | succ n ih =>
    intro p a
    rw [lyk]
    refine Nat.le_trans (ih _ _) ?_
    rw [Nat.pow_succ', ← Nat.mul_assoc]
    exact Nat.mul_le_mul_right _ (Nat.mul_le_mul_left _ (slk_le hx))
theorem lky_le {s x : Nat} (hx : x ≤ 10) : lky K c t j s x ≤ 100000 := by
  have := lyk_le (S := bst K (cry s c t j) z5 z5) (s := s) hx 5 0 1
  exact this
theorem g_likely {s x : Nat} (hJ : MJ z y st K c t j h) (hs : s < 31) (hx : x ≤ 10) : Ec (d + 3) m_X9_likely [.ref 0, .int (nI s), .int (nI x)] h (fun v h' => v = some (.int (nI (lky K c t j s x))) ∧ MJ z y st K c t j h') := by
  obtain ⟨re, rl, br, pt_, wo, hl, S, G, ok, be, ge, hbe, hge, rfl⟩ := hJ
  refine ec_in [some (.ref 0), some (.int (nI s)), some (.int (nI x)), none, none, none, none] rfl rfl ?_
  have okz := lok_rest ok
  have okb := bst_ok okz hs
  have hll := ll_len okb
  have H : ∀ n p a be ge l5 l6, p + n = 5 → be.length = 5 → ge.length = 5 → am_nl [some (.ref 0), some (.int (nI s)), some (.int (nI x)), some (.int (nI a)), some (.int (nI p)), l5] 6 = true → Ev (d + 3) m_X9_likely 18 [some (.ref 0), some (.int (nI s)), some (.int (nI x)), some (.int (nI a)), some (.int (nI p)), l5, l6] [] (XM z y st (ll K (bst K (cry s c t j) z5 z5) (cry s c t j) c t j) be ge re rl br pt_ wo) (fun v h' => v = some (.int (nI (lyk (bst K (cry s c t j) z5 z5) s x n p a))) ∧ MJ z y st K c t j h') := by
    intro n
    induction n with
    | zero =>
      intro p a be ge l5 l6 hp hbe hge hnl
      iterate 3 refine ev_nx rfl ?_
      refine ev_ge (fun b21 => ?_) (fun b21 => absurd b21 (by omega))
      refine ev_nx rfl ?_
      exact ev_ri rfl rfl rfl ⟨rfl, re, rl, br, pt_, wo, hl, _, _, okb, be, ge, hbe, hge, rfl⟩
    | succ n ih =>
      intro p a be ge l5 l6 hp hbe hge hnl
      have hpt := pt_lt hs (show p < 5 by omega)
      have hst : (bst K (cry s c t j) z5 z5).getD p 0 < 3 := gd3 okb.2.1.2 (by rw [okb.2.1.1]; omega)
      rw [lyk]
      iterate 3 refine ev_nx rfl ?_
      refine ev_ge (fun b21 => absurd b21 (by omega)) (fun b21 => ?_)
      iterate 4 refine ev_nx rfl ?_
      refine ev_mul rfl ?_
      refine ev_nx rfl ?_
      refine ev_add rfl ?_
      rw [show 5 * s + p = s * 5 + p by omega]
      refine ev_lN rfl rfl ⟨show s * 5 + p < 155 by omega, by omega, by decide⟩ ?_
      show Ev _ _ _ _ (.int (nI (pt s p)) :: _) _ _
      iterate 5 refine ev_nx rfl ?_
      refine ev_add rfl ?_
      refine ev_lN rfl rfl (by omega) ?_
      rw [ll_S okb p (by omega)]
      iterate 5 refine ev_nx rfl ?_
      refine ev_ne (fun b54 => ?_) (fun b54 => ?_)
      · iterate 2 refine ev_nx rfl ?_
        refine ev_ne0 (fun b76 => ?_) (fun b76 => ?_)
        · refine ev_nx rfl ?_
          refine ev_mul rfl ?_
          refine ev_nx rfl ?_
          refine ev_inc rfl ⟨rfl, by decide⟩ rfl rfl ?_
          refine ev_nx rfl ?_
          first | (rw [slk, if_pos b54, if_pos (by omega)]; exact ih (p + 1) _ be ge _ _ (by omega) hbe hge rfl) | (rw [slk, if_pos b54, if_neg (by omega)]; exact ih (p + 1) _ be ge _ _ (by omega) hbe hge rfl) | (rw [slk, if_neg b54, if_pos b76]; exact ih (p + 1) _ be ge _ _ (by omega) hbe hge rfl) | (rw [slk, if_neg b54, if_neg b76]; exact ih (p + 1) _ be ge _ _ (by omega) hbe hge rfl)
        · iterate 2 refine ev_nx rfl ?_
          refine ev_mul rfl ?_
          refine ev_nx rfl ?_
          refine ev_inc rfl ⟨rfl, by decide⟩ rfl rfl ?_
          refine ev_nx rfl ?_
          first | (rw [slk, if_pos b54, if_pos (by omega)]; exact ih (p + 1) _ be ge _ _ (by omega) hbe hge rfl) | (rw [slk, if_pos b54, if_neg (by omega)]; exact ih (p + 1) _ be ge _ _ (by omega) hbe hge rfl) | (rw [slk, if_neg b54, if_pos b76]; exact ih (p + 1) _ be ge _ _ (by omega) hbe hge rfl) | (rw [slk, if_neg b54, if_neg b76]; exact ih (p + 1) _ be ge _ _ (by omega) hbe hge rfl)
      · iterate 2 refine ev_nx rfl ?_
        refine ev_ne0 (fun b59 => ?_) (fun b59 => ?_)
        · iterate 2 refine ev_nx rfl ?_
          refine ev_sub rfl (by omega) ?_
          refine ev_nx rfl ?_
          refine ev_mul rfl ?_
          refine ev_nx rfl ?_
          refine ev_inc rfl ⟨rfl, by decide⟩ rfl rfl ?_
          refine ev_nx rfl ?_
          first | (rw [slk, if_pos b54, if_pos (by omega)]; exact ih (p + 1) _ be ge _ _ (by omega) hbe hge rfl) | (rw [slk, if_pos b54, if_neg (by omega)]; exact ih (p + 1) _ be ge _ _ (by omega) hbe hge rfl) | (rw [slk, if_neg b54, if_pos b76]; exact ih (p + 1) _ be ge _ _ (by omega) hbe hge rfl) | (rw [slk, if_neg b54, if_neg b76]; exact ih (p + 1) _ be ge _ _ (by omega) hbe hge rfl)
        · iterate 2 refine ev_nx rfl ?_
          refine ev_mul rfl ?_
          refine ev_nx rfl ?_
          refine ev_inc rfl ⟨rfl, by decide⟩ rfl rfl ?_
          refine ev_nx rfl ?_
          first | (rw [slk, if_pos b54, if_pos (by omega)]; exact ih (p + 1) _ be ge _ _ (by omega) hbe hge rfl) | (rw [slk, if_pos b54, if_neg (by omega)]; exact ih (p + 1) _ be ge _ _ (by omega) hbe hge rfl) | (rw [slk, if_neg b54, if_pos b76]; exact ih (p + 1) _ be ge _ _ (by omega) hbe hge rfl) | (rw [slk, if_neg b54, if_neg b76]; exact ih (p + 1) _ be ge _ _ (by omega) hbe hge rfl)
  iterate 3 refine ev_nx rfl ?_
  refine ev_vv rfl rfl rfl rfl rfl rfl rfl rfl (f_rests ok) ?_
  iterate 4 refine ev_nx rfl ?_
  refine ev_vv rfl rfl rfl rfl rfl rfl rfl rfl (f_beat6 okz hbe hge hs) ?_
  iterate 2 refine ev_nx rfl ?_
  exact H 5 0 1 _ _ _ _ rfl rfl cry_len rfl
theorem f_divisor : ∀ b a, a < 2147483648 → b < 2147483648 → Ec d m_X9_divisor [.int (nI a), .int (nI b)] h (rt (.int (nI (Nat.gcd a b))) h) := by
  have H : ∀ n x0 y0 x b l4, b < n → x < 2147483648 → b < 2147483648 → Ev d m_X9_divisor 4 [some (.int (nI x0)), some (.int (nI y0)), some (.int (nI x)), some (.int (nI b)), l4] [] h (rt (.int (nI (Nat.gcd x b))) h) := by
    intro n
    induction n with
    | zero => intro x0 y0 x b l4 hn; omega
    | succ n ih =>
      intro x0 y0 x b l4 hn hx hb
      iterate 2 refine ev_nx rfl ?_
      refine ev_le0 (fun b5 => ?_) (fun b5 => ?_)
      · refine ev_nx rfl ?_
        subst b5
        exact ev_ri rfl rfl rfl ⟨by rw [Nat.gcd_zero_right], rfl⟩
      · iterate 2 refine ev_nx rfl ?_
        refine ev_rem rfl (by omega) (by omega) ?_
        iterate 6 refine ev_nx rfl ?_
        rw [Nat.gcd_comm x b, Nat.gcd_rec b x, Nat.gcd_comm (x % b) b]
        have hm := Nat.mod_lt x b5
        exact ih x0 y0 b (x % b) _ (by omega) hb (by omega)
  intro b a ha hb
  refine ec_in [some (.int (nI a)), some (.int (nI b)), none, none, none] rfl rfl ?_
  iterate 4 refine ev_nx rfl ?_
  exact H (b + 1) a b a b _ (by omega) ha hb
def ptA (up w : Nat) : Nat := if w = 0 then up / Nat.gcd up 100000 else 100000 / Nat.gcd up 100000
theorem f_part {up w : Nat} (hu : up < 2147483648) (hw : w ≤ 1) : Ec (d + 1) m_X9_part [.int (nI up), .int (nI w)] h (rt (.int (nI (ptA up w))) h) := by
  refine ec_in [some (.int (nI up)), some (.int (nI w)), none] rfl rfl ?_
  have g0 : 0 < Nat.gcd up 100000 := Nat.gcd_pos_of_pos_right _ (by decide)
  have g1 : Nat.gcd up 100000 ≤ 100000 := Nat.gcd_le_right _ (by decide)
  have k1 : (100000 : Int32) = nI 100000 := rfl
  refine ev_nx rfl ?_
  refine ev_nx rfl ?_
  show Ev _ _ _ _ (.int (nI 100000) :: _) _ _
  refine ev_si rfl rfl (by decide) rfl rfl rfl rfl (f_divisor 100000 up hu (by decide)) ?_
  iterate 3 refine ev_nx rfl ?_
  refine ev_ne0 (fun b8 => ?_) (fun b8 => ?_)
  · refine ev_nx rfl ?_
    show Ev _ _ _ _ (.int (nI 100000) :: _) _ _
    refine ev_nx rfl ?_
    refine ev_div rfl (by omega) (by omega) ?_
    exact ev_ri rfl rfl rfl ⟨vI (by unfold ptA; first | rw [if_pos b8] | rw [if_neg b8]), rfl⟩
  · iterate 2 refine ev_nx rfl ?_
    refine ev_div rfl (by omega) (by omega) ?_
    refine ev_nx rfl ?_
    exact ev_ri rfl rfl rfl ⟨vI (by unfold ptA; first | rw [if_pos b8] | rw [if_neg b8]), rfl⟩
theorem g_odds {s x w : Nat} (ok : lok K S G c t j) (hJ : Mq z y (ll K S G c t j) h) (hs : s ≤ 29) (hx : x ≤ 10) (hw : w ≤ 1) : Ec (d + 4) m_X9_odds [.ref 0, .int (nI s), .int (nI x), .int (nI w)] h (fun v h' => v = some (.int (nI (ptA (lky K c t j s x) w))) ∧ Mq z y (ll K S G c t j) h') := by
  have w1 : wi (nI s) (nI 0) (nI 29) = 1 := by rw [wi_n (by omega) (by omega) (by omega), if_pos (by omega)]
  have w2 : wi (nI x) (nI 0) (nI 10) = 1 := by rw [wi_n (by omega) (by omega) (by omega), if_pos (by omega)]
  have w3 : wi (nI w) (nI 0) (nI 1) = 1 := by rw [wi_n (by omega) (by omega) (by omega), if_pos (by omega)]
  have hle := lky_le (K := K) (c := c) (t := t) (j := j) (s := s) hx
  refine ec_in [some (.ref 0), some (.int (nI s)), some (.int (nI x)), some (.int (nI w))] rfl rfl ?_
  iterate 3 refine ev_nx rfl ?_
  refine ev_si rfl rfl (by decide) rfl rfl rfl rfl (f_in _ _ _ _) ?_
  rw [w1]
  refine ev_nx rfl ?_
  refine ev_f (by decide) ?_
  iterate 3 refine ev_nx rfl ?_
  refine ev_si rfl rfl (by decide) rfl rfl rfl rfl (f_in _ _ _ _) ?_
  rw [w2]
  refine ev_nx rfl ?_
  refine ev_f (by decide) ?_
  iterate 3 refine ev_nx rfl ?_
  refine ev_si rfl rfl (by decide) rfl rfl rfl rfl (f_in _ _ _ _) ?_
  rw [w3]
  refine ev_nx rfl ?_
  refine ev_t (by decide) ?_
  refine ev_nx rfl ?_
  refine ev_v rfl rfl rfl rfl rfl rfl (Mq_0 hJ) rfl (g_asItIs hJ ok) (fun rv h1 q => ?_)
  obtain ⟨rfl, hJ1⟩ := q
  iterate 3 refine ev_nx rfl ?_
  refine ev_v rfl rfl rfl rfl rfl rfl (MJ_0 hJ1) rfl (g_likely hJ1 (by omega) hx) (fun rv h2 q => ?_)
  obtain ⟨rfl, hJ2⟩ := q
  refine ev_nx rfl ?_
  refine ev_si rfl rfl (by decide) rfl rfl rfl rfl (f_part (by omega) hw) ?_
  exact ev_ri rfl rfl rfl ⟨rfl, MJ_Q hJ2⟩
/-- the sum over some signs -/
def sml (f : Nat → Nat) : List Nat → Nat
  | [] => 0
  | s :: l => f s + sml f l
theorem g_mean {m x w : Nat} (mo : mok z.2.2.2.1 z.2.2.1 z.1.2.1) (ok : lok K S G c t j) (hJ : Mq z y (ll K S G c t j) h) (hm : m < z.1.2.1) (hx : x ≤ 10) (hw : w ≤ 1) : Ec (d + 4) m_X9_mean [.ref 0, .int (nI m), .int (nI x), .int (nI w)] h (fun v h' => v = some (.int (nI (ptA (sml (fun s => lky K c t j s x) (msg z.2.2.2.1 z.2.2.1 m)) w))) ∧ Mq z y (ll K S G c t j) h') := by
  have h6 := mo.2.2.2.2
  have h8 := mok8 mo (show m < 6 by omega)
  have hzl := mo.2.2.1
  have hsl := mo.1
  have hml := msg_len mo.1 (show m < 6 by omega) h8
  have w1 : wi (nI m) (nI 0) (nI (z.1.2.1 - 1)) = 1 := by rw [wi_n (by omega) (by omega) (by omega), if_pos (by omega)]
  have w2 : wi (nI x) (nI 0) (nI 10) = 1 := by rw [wi_n (by omega) (by omega) (by omega), if_pos (by omega)]
  have w3 : wi (nI w) (nI 0) (nI 1) = 1 := by rw [wi_n (by omega) (by omega) (by omega), if_pos (by omega)]
  refine ec_in [some (.ref 0), some (.int (nI m)), some (.int (nI x)), some (.int (nI w)), none, none] rfl rfl ?_
  have sl : ∀ l : List Nat, sml (fun s => lky K c t j s x) l ≤ 100000 * l.length := by
    intro l
    induction l with
    | nil => exact Nat.le_refl _
    | cons s l ih =>
      have := lky_le (K := K) (c := c) (t := t) (j := j) (s := s) hx
      rw [sml, List.length_cons]
      omega
  have H : ∀ n k a h1, k + n = z.2.2.1.getD m 0 → a ≤ 100000 * k → MJ z y (ll K S G c t j) K c t j h1 → Ev (d + 4) m_X9_mean 39 [some (.ref 0), some (.int (nI m)), some (.int (nI x)), some (.int (nI w)), some (.int (nI a)), some (.int (nI k))] [] h1 (fun v h' => v = some (.int (nI (ptA (a + sml (fun s => lky K c t j s x) ((msg z.2.2.2.1 z.2.2.1 m).drop k)) w))) ∧ Mq z y (ll K S G c t j) h') := by
    intro n
    induction n with
    | zero =>
      intro k a h1 hk ha hJ1
      rw [List.drop_eq_nil_of_le (by omega)]
      iterate 2 refine ev_nx rfl ?_
      refine ev_gf rfl rfl (MJ_0 hJ1) rfl ?_
      refine ev_nx rfl ?_
      refine ev_lN rfl (Mq_3 (MJ_Q hJ1)) (by omega) ?_
      refine ev_nx rfl ?_
      refine ev_ge (fun b47 => ?_) (fun b47 => absurd b47 (by omega))
      iterate 2 refine ev_nx rfl ?_
      refine ev_si rfl rfl (by decide) rfl rfl rfl rfl (f_part (by omega) hw) ?_
      exact ev_ri rfl rfl rfl ⟨rfl, MJ_Q hJ1⟩
    | succ n ih =>
      intro k a h1 hk ha hJ1
      rw [msg_drop mo.1 (by omega) h8 (by omega), sml]
      have hsk : z.2.2.2.1.getD (m * 8 + k) 0 < 31 := gd3 mo.2.1 (by omega)
      have hle := lky_le (K := K) (c := c) (t := t) (j := j) (s := z.2.2.2.1.getD (m * 8 + k) 0) hx
      iterate 2 refine ev_nx rfl ?_
      refine ev_gf rfl rfl (MJ_0 hJ1) rfl ?_
      refine ev_nx rfl ?_
      refine ev_lN rfl (Mq_3 (MJ_Q hJ1)) (by omega) ?_
      refine ev_nx rfl ?_
      refine ev_ge (fun b47 => absurd b47 (by omega)) (fun b47 => ?_)
      iterate 3 refine ev_nx rfl ?_
      refine ev_gf rfl rfl (MJ_0 hJ1) rfl ?_
      iterate 2 refine ev_nx rfl ?_
      refine ev_mul rfl ?_
      refine ev_nx rfl ?_
      refine ev_add rfl ?_
      rw [show 8 * m + k = m * 8 + k by omega]
      refine ev_lN rfl (Mq_4 (MJ_Q hJ1)) (by omega) ?_
      refine ev_nx rfl ?_
      refine ev_v rfl rfl rfl rfl rfl rfl (MJ_0 hJ1) rfl (g_likely hJ1 hsk hx) (fun rv h2 q => ?_)
      obtain ⟨rfl, hJ2⟩ := q
      refine ev_add rfl ?_
      refine ev_nx rfl ?_
      refine ev_inc rfl ⟨rfl, by decide⟩ rfl rfl ?_
      refine ev_nx rfl ?_
      rw [← Nat.add_assoc]
      exact ih (k + 1) _ h2 (by omega) (by omega) hJ2
  iterate 2 refine ev_nx rfl ?_
  refine ev_vi rfl rfl rfl rfl rfl rfl (Mq_0 hJ) rfl (f_isMessage hJ (by omega)) ?_
  rw [w1]
  refine ev_nx rfl ?_
  refine ev_f (by decide) ?_
  iterate 3 refine ev_nx rfl ?_
  refine ev_si rfl rfl (by decide) rfl rfl rfl rfl (f_in _ _ _ _) ?_
  rw [w2]
  refine ev_nx rfl ?_
  refine ev_f (by decide) ?_
  iterate 3 refine ev_nx rfl ?_
  refine ev_si rfl rfl (by decide) rfl rfl rfl rfl (f_in _ _ _ _) ?_
  rw [w3]
  refine ev_nx rfl ?_
  refine ev_t (by decide) ?_
  iterate 3 refine ev_nx rfl ?_
  refine ev_v rfl rfl rfl rfl rfl rfl (Mq_0 hJ) rfl (g_asItIs hJ ok) (fun rv h1 q => ?_)
  obtain ⟨rfl, hJ1⟩ := q
  iterate 2 refine ev_nx rfl ?_
  have := H (z.2.2.1.getD m 0) 0 0 h1 (by omega) (by omega) hJ1
  rw [List.drop_zero, Nat.zero_add] at this
  exact this
end XN
end
section
/-! the reference: draw, day -/
def dr (z k : Nat) : Nat := (7919 * z + 6151 * k + 1) * (7919 * z + 6151 * k + 1) % 65521
theorem dr_lt (z k : Nat) : dr z k < 65521 := Nat.mod_lt _ (by decide)
theorem draw_e {z k : Nat} (hz : z ≤ 9999) (hk : k < 1000) : ((((7919 : Int64) * (nI z).toInt64 + 6151 * (nI k).toInt64 + Int64.ofNat 1) * (7919 * (nI z).toInt64 + 6151 * (nI k).toInt64 + Int64.ofNat 1)) - (((7919 : Int64) * (nI z).toInt64 + 6151 * (nI k).toInt64 + Int64.ofNat 1) * (7919 * (nI z).toInt64 + 6151 * (nI k).toInt64 + Int64.ofNat 1)) / 65521 * 65521).toInt32 = nI (dr z k) := by
  rw [nI_l (by omega), nI_l (by omega)]
  rw [show (7919 : Int64) = lN 7919 from rfl, show (6151 : Int64) = lN 6151 from rfl, show Int64.ofNat 1 = lN 1 from rfl, show (65521 : Int64) = lN 65521 from rfl]
  rw [lN_mul, lN_mul, lN_add, lN_add, lN_mul, pk_lRem ?_ (by decide) (by decide), lN_i]
  · rfl
  · have h1 : 7919 * z + 6151 * k + 1 ≤ 100000000 := by omega
    exact Nat.lt_of_le_of_lt (Nat.mul_le_mul h1 h1) (by decide)
/-- a line, how many are right, how many muddles -/
abbrev aD : Type := aN × Nat × Nat
def lokN (x : aN) : Prop := lok x.1 x.2.1 x.2.2.1 x.2.2.2.1 x.2.2.2.2.1 x.2.2.2.2.2
def llN (x : aN) : List Nat := ll x.1 x.2.1 x.2.2.1 x.2.2.2.1 x.2.2.2.2.1 x.2.2.2.2.2
def dyB (s : Nat) (x : aN) : aN := (x.1, bst x.1 (cry s x.2.2.2.1 x.2.2.2.2.1 x.2.2.2.2.2) x.2.1 x.2.2.1, cry s x.2.2.2.1 x.2.2.2.2.1 x.2.2.2.2.2, x.2.2.2)
def dyC (p : Nat) (x : aN) : aN := (x.1, x.2.1, x.2.2.1, x.2.2.2.1 ||| 1 * 2 ^ p, x.2.2.2.2.1, x.2.2.2.2.2)
def dyM (p : Nat) (x : aN) : aN := (x.1, x.2.1, x.2.2.1, clr x.2.2.2.1 (1 * 2 ^ p), clr x.2.2.2.2.1 (1 * 2 ^ p), clr x.2.2.2.2.2 (mdj (1 * 2 ^ p)))
def dyS (p q : Nat) (x : aN) : aN := (swp x.1 p q, swp x.2.1 p q, swp x.2.2.1 p q, x.2.2.2)
def dst (d : Nat) (s : aD) : aD :=
  if d % 8 < 5 then (dyB (d / 8 % 31) s.1, s.2.1 + (if rdS (dyB (d / 8 % 31) s.1).2.1 = d / 8 % 31 then 1 else 0), s.2.2 + (if rdS (dyB (d / 8 % 31) s.1).2.1 = 31 then 1 else 0))
  else if d % 8 = 5 then (dyC (d / 64 % 5) s.1, s.2)
  else if d % 8 = 6 then (dyM (d / 64 % 5) s.1, s.2)
  else (dyS (d / 64 % 5) ((d / 64 % 5 + 1) % 5) s.1, s.2)
def dyr (z : Nat) : Nat → Nat → aD → aD
  | 0, _, s => s
  | n + 1, k, s => dyr z n (k + 1) (dst (dr z k) s)
def dyA (w : Nat) (s : aD) : Nat := if w = 0 then s.2.1 else if w = 1 then s.2.2 else pcn s.1.2.2.2.1
section XO
variable {d : Nat} {h : aH} {z : aZ} {y : aY} {st nw be ge re rl br pt_ : List Nat} {wo : List Int32} {K S G : List Nat} {c t j : Nat}
theorem f_draw {zz k : Nat} (hz : zz ≤ 9999) (hk : k < 1000) : Ec d m_X9_draw [.int (nI zz), .int (nI k)] h (rt (.int (nI (dr zz k))) h) := by
  refine ec_in [some (.int (nI zz)), some (.int (nI k)), none, none] rfl rfl ?_
  iterate 18 refine ev_nx rfl ?_
  exact ev_ri rfl rfl rfl ⟨congrArg (fun v => some (Value.int v)) (draw_e hz hk), rfl⟩
theorem lokN_B {s : Nat} {x : aN} (ok : lokN x) (hs : s < 31) : lokN (dyB s x) := bst_ok ok hs
theorem lokN_C {p : Nat} {x : aN} (ok : lokN x) (hp : p < 5) : lokN (dyC p x) := ⟨ok.1, ok.2.1, ok.2.2.1, or32 ok.2.2.2.1 (p2_32 hp), ok.2.2.2.2⟩
theorem lokN_M {p : Nat} {x : aN} (ok : lokN x) : lokN (dyM p x) := lok_md ok
theorem lokN_S {p q : Nat} {x : aN} (ok : lokN x) (hp : p < 5) (hq : q < 5) : lokN (dyS p q x) := lok_sw ok hp hq
theorem lokN_d {dd : Nat} {s : aD} (ok : lokN s.1) : lokN (dst dd s).1 := by
  have h1 : dd / 8 % 31 < 31 := Nat.mod_lt _ (by decide)
  have h2 : dd / 64 % 5 < 5 := Nat.mod_lt _ (by decide)
  have h3 : (dd / 64 % 5 + 1) % 5 < 5 := Nat.mod_lt _ (by decide)
  unfold dst
  split
  · exact lokN_B ok h1
  · split
    · exact lokN_C ok h2
    · split
      · exact lokN_M ok
      · exact lokN_S ok h2 h3
theorem g_day {zz n w : Nat} {x : aN} (ok : lokN x) (hJ : Mq z y (llN x) h) (hz : zz ≤ 9999) (hn : 1 ≤ n ∧ n ≤ 60) (hw : w ≤ 2) : Ec (d + 3) m_X9_day [.ref 0, .int (nI zz), .int (nI n), .int (nI w)] h (fun v h' => v = some (.int (nI (dyA w (dyr zz n 0 (x, 0, 0))))) ∧ Mq z y (llN x) h') := by
  have w1 : wi (nI zz) (nI 0) (nI 9999) = 1 := by rw [wi_n (by omega) (by omega) (by omega), if_pos (by omega)]
  have w2 : wi (nI n) (nI 1) (nI 60) = 1 := by rw [wi_n (by omega) (by omega) (by omega), if_pos (by omega)]
  have w3 : wi (nI w) (nI 0) (nI 2) = 1 := by rw [wi_n (by omega) (by omega) (by omega), if_pos (by omega)]
  refine ec_in [some (.ref 0), some (.int (nI zz)), some (.int (nI n)), some (.int (nI w)), none, none, none, none, none, none, none] rfl rfl ?_
  obtain ⟨nw, be, ge, re, rl, br, pt_, wo, hln, rfl⟩ := hJ
  generalize hst : llN x = st at *
  have hs29 : st.length = 29 := by rw [← hst]; exact ll_len ok
  have H : ∀ m k (s : aD) be ge l7 l8 l9 l10, k + m = n → lokN s.1 → s.2.1 ≤ k → s.2.2 ≤ k → be.length = 5 → ge.length = 5 → am_nl [l7] 1 = true → am_nl [l8] 1 = true → am_nl [l9] 1 = true → Ev (d + 3) m_X9_day 45 [some (.ref 0), some (.int (nI zz)), some (.int (nI n)), some (.int (nI w)), some (.int (nI s.2.1)), some (.int (nI s.2.2)), some (.int (nI k)), l7, l8, l9, l10] [] (XM z y st (llN s.1) be ge re rl br pt_ wo) (fun v h' => v = some (.int (nI (dyA w (dyr zz m k s)))) ∧ Mq z y st h') := by
    intro m
    induction m with
    | zero =>
      intro k s be ge l7 l8 l9 l10 hk oks hs1 hs2 hbe hge n7 n8 n9
      rw [dyr]
      iterate 3 refine ev_nx rfl ?_
      refine ev_ge (fun b48 => ?_) (fun b48 => absurd b48 (by omega))
      iterate 2 refine ev_nx rfl ?_
      refine ev_ne0 (fun b210 => ?_) (fun b210 => ?_)
      · iterate 3 refine ev_nx rfl ?_
        refine ev_ne (fun b220 => ?_) (fun b220 => ?_)
        · iterate 4 refine ev_nx rfl ?_
          refine ev_si rfl rfl (by decide) rfl rfl rfl rfl (g_sumc oks rfl (by decide)) ?_
          exact ev_ri rfl rfl rfl ⟨vI (by unfold dyA; (repeat' split) <;> omega), _, be, ge, re, rl, br, pt_, wo, ⟨ll_len oks, hbe, hge, hln.2.2.2⟩, rfl⟩
        · iterate 2 refine ev_nx rfl ?_
          exact ev_ri rfl rfl rfl ⟨vI (by unfold dyA; (repeat' split) <;> omega), _, be, ge, re, rl, br, pt_, wo, ⟨ll_len oks, hbe, hge, hln.2.2.2⟩, rfl⟩
      · iterate 2 refine ev_nx rfl ?_
        exact ev_ri rfl rfl rfl ⟨vI (by unfold dyA; (repeat' split) <;> omega), _, be, ge, re, rl, br, pt_, wo, ⟨ll_len oks, hbe, hge, hln.2.2.2⟩, rfl⟩
    | succ m ih =>
      intro k s be ge l7 l8 l9 l10 hk oks hs1 hs2 hbe hge n7 n8 n9
      rw [dyr]
      have hd := dr_lt zz k
      have okd := lokN_d (dd := dr zz k) oks
      generalize hdd : dr zz k = dd at hd okd ⊢
      have h1 : dd / 8 % 31 < 31 := Nat.mod_lt _ (by decide)
      have h2 : dd / 64 % 5 < 5 := Nat.mod_lt _ (by decide)
      have h3 : (dd / 64 % 5 + 1) % 5 < 5 := Nat.mod_lt _ (by decide)
      have hl : (llN s.1).length = 29 := ll_len oks
      have okB := lokN_B oks h1
      have hrd : rdS (dyB (dd / 8 % 31) s.1).2.1 < 32 := rdS_lt okB.2.1.1
      have c1 : dd % 8 < 5 → dst dd s = (dyB (dd / 8 % 31) s.1, s.2.1 + (if rdS (dyB (dd / 8 % 31) s.1).2.1 = dd / 8 % 31 then 1 else 0), s.2.2 + (if rdS (dyB (dd / 8 % 31) s.1).2.1 = 31 then 1 else 0)) := fun q => by rw [dst, if_pos q]
      have c2 : ¬ dd % 8 < 5 → dd % 8 = 5 → dst dd s = (dyC (dd / 64 % 5) s.1, s.2.1, s.2.2) := fun q q2 => by rw [dst, if_neg q, if_pos q2]
      have c3 : ¬ dd % 8 < 5 → ¬ dd % 8 = 5 → dd % 8 = 6 → dst dd s = (dyM (dd / 64 % 5) s.1, s.2.1, s.2.2) := fun q q2 q3 => by rw [dst, if_neg q, if_neg q2, if_pos q3]
      have c4 : ¬ dd % 8 < 5 → ¬ dd % 8 = 5 → ¬ dd % 8 = 6 → dst dd s = (dyS (dd / 64 % 5) ((dd / 64 % 5 + 1) % 5) s.1, s.2.1, s.2.2) := fun q q2 q3 => by rw [dst, if_neg q, if_neg q2, if_neg q3]
      have go : ∀ (x' : aN) (a b : Nat) (be ge : List Nat) (l7 l8 l9 l10 : Option Value), dst dd s = (x', a, b) → a ≤ k + 1 → b ≤ k + 1 → be.length = 5 → ge.length = 5 → am_nl [l7] 1 = true → am_nl [l8] 1 = true → am_nl [l9] 1 = true → Ev (d + 3) m_X9_day 203 [some (.ref 0), some (.int (nI zz)), some (.int (nI n)), some (.int (nI w)), some (.int (nI a)), some (.int (nI b)), some (.int (nI k)), l7, l8, l9, l10] [] (XM z y st (llN x') be ge re rl br pt_ wo) (fun v h' => v = some (.int (nI (dyA w (dyr zz m (k + 1) (dst dd s))))) ∧ Mq z y st h') := by
        intro x' a b be ge l7 l8 l9 l10 e ha hb hbe hge n7 n8 n9
        rw [e] at okd ⊢
        refine ev_inc rfl ⟨rfl, by decide⟩ rfl rfl ?_
        refine ev_nx rfl ?_
        exact ih (k + 1) (x', a, b) be ge _ _ _ _ (by omega) okd ha hb hbe hge n7 n8 n9
      have HM := f_mends (d := d + 2) (h := XM z y st (llN s.1) be ge re rl br pt_ wo) (a := 6) oks rfl (by decide) h2
      have HS := f_changes (d := d + 2) (h := XM z y st (llN s.1) be ge re rl br pt_ wo) (a := 6) oks rfl (by decide) h2 h3
      have HC : (llN s.1).set (0 + dd / 64 % 5) 1 = llN (dyC (dd / 64 % 5) s.1) := ll_c1 (dd / 64 % 5) h2 oks.2.2.2.1
      have HB := f_beat6 (d := d) (z := z) (y := y) (st := st) (re := re) (rk := rl) (br := br) (pt_ := pt_) (wo := wo) oks hbe hge h1
      have HR := fun be ge => f_readOf6 (d := d + 1) (z := z) (y := y) (st := st) (be := be) (ge := ge) (re := re) (rk := rl) (br := br) (pt_ := pt_) (wo := wo) okB
      iterate 3 refine ev_nx rfl ?_
      refine ev_ge (fun b48 => absurd b48 (by omega)) (fun b48 => ?_)
      iterate 2 refine ev_nx rfl ?_
      refine ev_si rfl rfl (by decide) rfl rfl rfl rfl (f_draw hz (by omega)) ?_
      rw [hdd]
      iterate 3 refine ev_nx rfl ?_
      refine ev_div rfl (by omega) (by omega) ?_
      refine ev_nx rfl ?_
      refine ev_rem rfl (by omega) (by omega) ?_
      iterate 3 refine ev_nx rfl ?_
      refine ev_div rfl (by omega) (by omega) ?_
      refine ev_nx rfl ?_
      refine ev_rem rfl (by omega) (by omega) ?_
      iterate 3 refine ev_nx rfl ?_
      refine ev_rem rfl (by omega) (by omega) ?_
      iterate 2 refine ev_nx rfl ?_
      refine ev_ge (fun b84 => ?_) (fun b84 => ?_)
      · iterate 2 refine ev_nx rfl ?_
        refine ev_rem rfl (by omega) (by omega) ?_
        iterate 2 refine ev_nx rfl ?_
        refine ev_ne (fun b150 => ?_) (fun b150 => ?_)
        · iterate 2 refine ev_nx rfl ?_
          refine ev_rem rfl (by omega) (by omega) ?_
          iterate 2 refine ev_nx rfl ?_
          refine ev_ne (fun b173 => ?_) (fun b173 => ?_)
          · iterate 5 refine ev_nx rfl ?_
            refine ev_add rfl ?_
            refine ev_nx rfl ?_
            refine ev_rem rfl (by omega) (by omega) ?_
            refine ev_sv rfl rfl (by decide) rfl rfl rfl rfl HS ?_
            exact go (dyS (dd / 64 % 5) ((dd / 64 % 5 + 1) % 5) s.1) _ _ _ _ _ _ _ _ (c4 (by omega) b150 b173) (by omega) (by omega) hbe hge rfl rfl rfl
          · iterate 3 refine ev_nx rfl ?_
            refine ev_sv rfl rfl (by decide) rfl rfl rfl rfl HM ?_
            refine ev_nx rfl ?_
            exact go (dyM (dd / 64 % 5) s.1) _ _ _ _ _ _ _ _ (c3 (by omega) b150 b173) (by omega) (by omega) hbe hge rfl rfl rfl
        · iterate 4 refine ev_nx rfl ?_
          refine ev_add rfl ?_
          refine ev_nx rfl ?_
          refine ev_sN rfl rfl (by omega) ?_
          rw [HC]
          refine ev_nx rfl ?_
          exact go (dyC (dd / 64 % 5) s.1) _ _ _ _ _ _ _ _ (c2 (by omega) b150) (by omega) (by omega) hbe hge rfl rfl rfl
      · iterate 4 refine ev_nx rfl ?_
        refine ev_vv rfl rfl rfl rfl rfl rfl rfl rfl HB ?_
        iterate 3 refine ev_nx rfl ?_
        refine ev_vi rfl rfl rfl rfl rfl rfl rfl rfl (HR _ _) ?_
        iterate 5 refine ev_nx rfl ?_
        refine ev_ne (fun b113 => ?_) (fun b113 => ?_)
        · refine ev_nx rfl ?_
          refine ev_add rfl ?_
          iterate 5 refine ev_nx rfl ?_
          refine ev_ne (fun b130 => ?_) (fun b130 => ?_)
          · refine ev_nx rfl ?_
            refine ev_add rfl ?_
            refine ev_nx rfl ?_
            refine ev_nx rfl ?_
            exact go (dyB (dd / 8 % 31) s.1) _ _ _ _ _ _ _ _ (by rw [c1 (by omega)]; first | rw [if_pos b113, if_pos b130] | rw [if_pos b113, if_neg b130] | rw [if_neg b113, if_pos b130] | rw [if_neg b113, if_neg b130]) (by omega) (by omega) rfl cry_len rfl rfl rfl
          · iterate 2 refine ev_nx rfl ?_
            refine ev_add rfl ?_
            refine ev_nx rfl ?_
            refine ev_nx rfl ?_
            exact go (dyB (dd / 8 % 31) s.1) _ _ _ _ _ _ _ _ (by rw [c1 (by omega)]; first | rw [if_pos b113, if_pos b130] | rw [if_pos b113, if_neg b130] | rw [if_neg b113, if_pos b130] | rw [if_neg b113, if_neg b130]) (by omega) (by omega) rfl cry_len rfl rfl rfl
        · iterate 2 refine ev_nx rfl ?_
          refine ev_add rfl ?_
          iterate 5 refine ev_nx rfl ?_
          refine ev_ne (fun b130 => ?_) (fun b130 => ?_)
          · refine ev_nx rfl ?_
            refine ev_add rfl ?_
            refine ev_nx rfl ?_
            refine ev_nx rfl ?_
            exact go (dyB (dd / 8 % 31) s.1) _ _ _ _ _ _ _ _ (by rw [c1 (by omega)]; first | rw [if_pos b113, if_pos b130] | rw [if_pos b113, if_neg b130] | rw [if_neg b113, if_pos b130] | rw [if_neg b113, if_neg b130]) (by omega) (by omega) rfl cry_len rfl rfl rfl
          · iterate 2 refine ev_nx rfl ?_
            refine ev_add rfl ?_
            refine ev_nx rfl ?_
            refine ev_nx rfl ?_
            exact go (dyB (dd / 8 % 31) s.1) _ _ _ _ _ _ _ _ (by rw [c1 (by omega)]; first | rw [if_pos b113, if_pos b130] | rw [if_pos b113, if_neg b130] | rw [if_neg b113, if_pos b130] | rw [if_neg b113, if_neg b130]) (by omega) (by omega) rfl cry_len rfl rfl rfl
  iterate 3 refine ev_nx rfl ?_
  refine ev_si rfl rfl (by decide) rfl rfl rfl rfl (f_in _ _ _ _) ?_
  rw [w1]
  refine ev_nx rfl ?_
  refine ev_f (by decide) ?_
  iterate 3 refine ev_nx rfl ?_
  refine ev_si rfl rfl (by decide) rfl rfl rfl rfl (f_in _ _ _ _) ?_
  rw [w2]
  refine ev_nx rfl ?_
  refine ev_f (by decide) ?_
  iterate 3 refine ev_nx rfl ?_
  refine ev_si rfl rfl (by decide) rfl rfl rfl rfl (f_in _ _ _ _) ?_
  rw [w3]
  refine ev_nx rfl ?_
  refine ev_t (by decide) ?_
  iterate 5 refine ev_nx rfl ?_
  refine ev_vv rfl rfl rfl rfl rfl rfl rfl rfl (f_asItIs hs29 hln.1) ?_
  iterate 2 refine ev_nx rfl ?_
  have HH := H n 0 (x, 0, 0) be ge none none none none (by omega) ok (Nat.le_refl 0) (Nat.le_refl 0) hln.2.1 hln.2.2.1 rfl rfl rfl
  rw [hst] at HH
  exact HH
end XO
end
section
/-! the reference: nextOrder, order -/
/-- the place from which on it falls -/
def nkf (R : List Nat) : Nat → Option Nat
  | 0 => if R.getD 1 0 < R.getD 0 0 then none else some 0
  | k + 1 => if R.getD (k + 2) 0 < R.getD (k + 1) 0 then nkf R k else some (k + 1)
/-- the last one that isn't less -/
def nif (R : List Nat) (v : Nat) : Nat → Nat
  | 0 => 0
  | i + 1 => if R.getD (i + 1) 0 < v then nif R v i else i + 1
def nrv : Nat → Nat → Nat → List Nat → List Nat
  | 0, _, _, R => R
  | n + 1, a, b, R => if a < b then nrv n (a + 1) (b - 1) (swp R a b) else R
def nxo (R : List Nat) : Option (List Nat) := match nkf R 3 with
  | none => none
  | some k => some (nrv 5 (k + 1) 4 (swp R k (nif R (R.getD k 0) 4)))
section XP
variable {d : Nat} {h : aH} {z : aZ} {y : aY} {st nw be ge re rl br pt_ : List Nat} {wo : List Int32} {K S G : List Nat} {c t j : Nat}
theorem nkf_ok {R : List Nat} : ∀ k q, nkf R k = some q → q ≤ k ∧ R.getD q 0 ≤ R.getD (q + 1) 0 := by
  intro k
  induction k with
  | zero =>
    intro q e
    rw [nkf] at e
    split at e
    · cases e
    · cases e; exact ⟨Nat.le_refl _, by simp only [Nat.zero_add]; omega⟩
  | succ k ih =>
    intro q e
    rw [nkf] at e
    split at e
    · have := ih q e; exact ⟨by omega, this.2⟩
    · cases e; exact ⟨Nat.le_refl _, by show R.getD (k + 1) 0 ≤ R.getD (k + 2) 0; omega⟩
theorem nif_ok {R : List Nat} {v q : Nat} (hq : v ≤ R.getD q 0) : ∀ i, q ≤ i → q ≤ nif R v i ∧ nif R v i ≤ i := by
  intro i
  induction i with
  | zero => intro h; exact ⟨h, Nat.le_refl _⟩
  | succ i ih =>
    intro h
    rw [nif]
    split
    · rename_i hc
      have : q ≤ i := by
        rcases Nat.lt_or_ge i q with q1 | q1
        · have : q = i + 1 := by omega
          subst this; omega
        · exact q1
      have := ih this
      omega
    · omega
theorem f_next {R : List Nat} (hR : R.length = 5) (hR5 : ∀ x ∈ R, x < 5) : Ec d m_X9_nextOrder [.ref 0] (XM z y st nw be ge re R br pt_ wo) (rt (.int (nI (if (nxo R).isSome then 1 else 0))) (XM z y st nw be ge re ((nxo R).getD R) br pt_ wo)) := by
  have hg : ∀ p, p < 5 → R.getD p 0 < 5 := fun p hp => gd3 hR5 (by omega)
  refine ec_in [some (.ref 0), none, none, none, none, none] rfl rfl ?_
  have Rv : ∀ n a b (R : List Nat) (k i : Nat) (l3 : Option Value), R.length = 5 → a ≤ 5 → b < 5 → b ≤ a + n → am_nl [l3] 1 = true → Ev d m_X9_nextOrder 92 [some (.ref 0), some (.int (nI k)), some (.int (nI i)), l3, some (.int (nI a)), some (.int (nI b))] [] (XM z y st nw be ge re R br pt_ wo) (rt (.int (nI 1)) (XM z y st nw be ge re (nrv n a b R) br pt_ wo)) := by
    intro n
    induction n with
    | zero =>
      intro a b R k i l3 hR ha hb hab hnl
      iterate 3 refine ev_nx rfl ?_
      refine ev_ge (fun b96 => ?_) (fun b96 => absurd b96 (by omega))
      refine ev_nx rfl ?_
      exact ev_ri rfl rfl rfl ⟨rfl, rfl⟩
    | succ n ih =>
      intro a b R k i l3 hR ha hb hab hnl
      rw [nrv]
      iterate 3 refine ev_nx rfl ?_
      refine ev_ge (fun b96 => ?_) (fun b96 => ?_)
      · refine ev_nx rfl ?_
        rw [if_neg (by omega)]
        exact ev_ri rfl rfl rfl ⟨rfl, rfl⟩
      · iterate 3 refine ev_nx rfl ?_
        refine ev_lN rfl rfl (by first | omega | (simp only [List.length_set, List.length_replicate]; omega)) ?_
        iterate 7 refine ev_nx rfl ?_
        refine ev_lN rfl rfl (by first | omega | (simp only [List.length_set, List.length_replicate]; omega)) ?_
        refine ev_sN rfl rfl (by omega) ?_
        iterate 4 refine ev_nx rfl ?_
        refine ev_sN rfl rfl (by rw [List.length_set]; omega) ?_
        refine ev_inc rfl ⟨rfl, by decide⟩ rfl rfl ?_
        refine ev_nx rfl ?_
        rw [pk_sub (by omega)]
        refine ev_nx rfl ?_
        rw [if_pos (by omega)]
        exact ih (a + 1) (b - 1) (swp R a b) k i _ (by rw [swp_len, hR]) (by omega) (by omega) (by omega) rfl
  have ne : ∀ {k i : Nat}, R.getD k 0 ≤ R.getD (k + 1) 0 → R.getD (i + 1) 0 < R.getD k 0 → k + 1 ≤ i + 1 → k + 1 ≤ i := by
    intro k i q1 q2 q3
    rcases Nat.lt_or_ge i (k + 1) with q | q
    · exfalso
      obtain rfl : i = k := by omega
      omega
    · exact q
  have Iv : ∀ (k : Nat) (T : Nat), k < 4 → R.getD k 0 ≤ R.getD (k + 1) 0 → Ev d m_X9_nextOrder 58 [some (.ref 0), some (.int (nI k)), some (.int (nI T)), none, none, none] [] (XM z y st nw be ge re R br pt_ wo) (rt (.int (nI 1)) (XM z y st nw be ge re (nrv 5 (k + 1) 4 (swp R k T)) br pt_ wo)) → ∀ i, i < 5 → k + 1 ≤ i → T = nif R (R.getD k 0) i → Ev d m_X9_nextOrder 37 [some (.ref 0), some (.int (nI k)), some (.int (nI i)), none, none, none] [] (XM z y st nw be ge re R br pt_ wo) (rt (.int (nI 1)) (XM z y st nw be ge re (nrv 5 (k + 1) 4 (swp R k T)) br pt_ wo)) := by
    intro k T hk hkk kk i
    induction i with
    | zero => intro h1 h2; omega
    | succ i ih =>
      intro h1 h2 hT
      have g1 := hg (i + 1) h1
      have g2 := hg k (by omega)
      rw [nif] at hT
      iterate 3 refine ev_nx rfl ?_
      refine ev_lN rfl rfl (by first | omega | (simp only [List.length_set, List.length_replicate]; omega)) ?_
      iterate 3 refine ev_nx rfl ?_
      refine ev_lN rfl rfl (by first | omega | (simp only [List.length_set, List.length_replicate]; omega)) ?_
      refine ev_nx rfl ?_
      refine ev_ge (fun b49 => ?_) (fun b49 => ?_)
      · rw [if_neg (by omega)] at hT
        subst hT
        exact kk
      · refine ev_nx rfl ?_
        rw [pk_sub (by omega), Nat.add_sub_cancel]
        refine ev_nx rfl ?_
        rw [if_pos b49] at hT
        exact ih (by omega) (ne hkk b49 h2) hT
  have Fv : ∀ (k T : Nat), k < 4 → T < 5 → Ev d m_X9_nextOrder 58 [some (.ref 0), some (.int (nI k)), some (.int (nI T)), none, none, none] [] (XM z y st nw be ge re R br pt_ wo) (rt (.int (nI 1)) (XM z y st nw be ge re (nrv 5 (k + 1) 4 (swp R k T)) br pt_ wo)) := by
    intro k T hk hT
    iterate 3 refine ev_nx rfl ?_
    refine ev_lN rfl rfl (by first | omega | (simp only [List.length_set, List.length_replicate]; omega)) ?_
    iterate 7 refine ev_nx rfl ?_
    refine ev_lN rfl rfl (by first | omega | (simp only [List.length_set, List.length_replicate]; omega)) ?_
    refine ev_sN rfl rfl (by omega) ?_
    iterate 4 refine ev_nx rfl ?_
    refine ev_sN rfl rfl (by rw [List.length_set]; omega) ?_
    iterate 2 refine ev_nx rfl ?_
    refine ev_add rfl ?_
    iterate 3 refine ev_nx rfl ?_
    exact Rv 5 (k + 1) 4 (swp R k T) k T _ (by rw [swp_len, hR]) (by omega) (by omega) (by omega) rfl
  have Gv : ∀ k, k < 4 → R.getD k 0 ≤ R.getD (k + 1) 0 → Ev d m_X9_nextOrder 29 [some (.ref 0), some (.int (nI k)), none, none, none, none] [] (XM z y st nw be ge re R br pt_ wo) (rt (.int (nI 1)) (XM z y st nw be ge re (nrv 5 (k + 1) 4 (swp R k (nif R (R.getD k 0) 4))) br pt_ wo)) := by
    intro k hk hkk
    have hni := nif_ok (R := R) (v := R.getD k 0) (q := k + 1) hkk 4 (by omega)
    iterate 2 refine ev_nx rfl ?_
    refine ev_ge0 ?_
    iterate 2 refine ev_nx rfl ?_
    exact Iv k _ hk hkk (Fv k _ hk (by omega)) 4 (by omega) (by omega) rfl
  have Kv : ∀ k, k < 4 → Ev d m_X9_nextOrder 2 [some (.ref 0), some (.int (nI k)), none, none, none, none] [] (XM z y st nw be ge re R br pt_ wo) (rt (.int (nI (if (nkf R k).isSome then 1 else 0))) (XM z y st nw be ge re (match nkf R k with
    | none => R
    | some k => nrv 5 (k + 1) 4 (swp R k (nif R (R.getD k 0) 4))) br pt_ wo)) := by
    intro k
    induction k with
    | zero =>
      intro hk
      have g1 := hg 0 (by omega)
      have g2 := hg 1 (by omega)
      rw [nkf]
      by_cases hc : R.getD 1 0 < R.getD 0 0
      · rw [if_pos hc]
        iterate 2 refine ev_nx rfl ?_
        refine ev_lt0 ?_
        iterate 3 refine ev_nx rfl ?_
        refine ev_lN rfl rfl (by first | omega | (simp only [List.length_set, List.length_replicate]; omega)) ?_
        iterate 4 refine ev_nx rfl ?_
        refine ev_add rfl ?_
        rw [show 0 + 1 = 1 from rfl]
        refine ev_lN rfl rfl (by first | omega | (simp only [List.length_set, List.length_replicate]; omega)) ?_
        refine ev_nx rfl ?_
        refine ev_leq (fun b20 => absurd b20 (by omega)) (fun b20 => ?_)
        iterate 2 refine ev_nx rfl ?_
        skip
        refine ev_nx rfl ?_
        refine ev_nx rfl ?_
        refine ev_t (by decide) ?_
        refine ev_nx rfl ?_
        refine ev_nx rfl ?_
        refine ev_f (by decide) ?_
        refine ev_nx rfl ?_
        exact ev_ri rfl rfl rfl ⟨rfl, rfl⟩
      · rw [if_neg hc]
        iterate 2 refine ev_nx rfl ?_
        refine ev_lt0 ?_
        iterate 3 refine ev_nx rfl ?_
        refine ev_lN rfl rfl (by first | omega | (simp only [List.length_set, List.length_replicate]; omega)) ?_
        iterate 4 refine ev_nx rfl ?_
        refine ev_add rfl ?_
        rw [show 0 + 1 = 1 from rfl]
        refine ev_lN rfl rfl (by first | omega | (simp only [List.length_set, List.length_replicate]; omega)) ?_
        refine ev_nx rfl ?_
        refine ev_leq (fun b20 => ?_) (fun b20 => absurd b20 (by omega))
        exact Gv 0 (by omega) (by rw [Nat.zero_add]; omega)
    | succ k ih =>
      intro hk
      have g1 := hg (k + 1) (by omega)
      have g2 := hg (k + 2) (by omega)
      rw [nkf]
      by_cases hc : R.getD (k + 2) 0 < R.getD (k + 1) 0
      · rw [if_pos hc]
        iterate 2 refine ev_nx rfl ?_
        refine ev_lt0 ?_
        iterate 3 refine ev_nx rfl ?_
        refine ev_lN rfl rfl (by first | omega | (simp only [List.length_set, List.length_replicate]; omega)) ?_
        iterate 4 refine ev_nx rfl ?_
        refine ev_add rfl ?_
        rw [show k + 1 + 1 = k + 2 from rfl]
        refine ev_lN rfl rfl (by first | omega | (simp only [List.length_set, List.length_replicate]; omega)) ?_
        refine ev_nx rfl ?_
        refine ev_leq (fun b20 => absurd b20 (by omega)) (fun b20 => ?_)
        refine ev_nx rfl ?_
        rw [pk_sub (by omega), Nat.add_sub_cancel]
        refine ev_nx rfl ?_
        exact ih (by omega)
      · rw [if_neg hc]
        iterate 2 refine ev_nx rfl ?_
        refine ev_lt0 ?_
        iterate 3 refine ev_nx rfl ?_
        refine ev_lN rfl rfl (by first | omega | (simp only [List.length_set, List.length_replicate]; omega)) ?_
        iterate 4 refine ev_nx rfl ?_
        refine ev_add rfl ?_
        rw [show k + 1 + 1 = k + 2 from rfl]
        refine ev_lN rfl rfl (by first | omega | (simp only [List.length_set, List.length_replicate]; omega)) ?_
        refine ev_nx rfl ?_
        refine ev_leq (fun b20 => ?_) (fun b20 => absurd b20 (by omega))
        exact Gv (k + 1) (by omega) (by show R.getD (k + 1) 0 ≤ R.getD (k + 2) 0; omega)
  have e1 : (if (nxo R).isSome then 1 else 0) = (if (nkf R 3).isSome then 1 else 0) := by
    unfold nxo; cases nkf R 3 <;> rfl
  have e2 : (nxo R).getD R = (match nkf R 3 with
    | none => R
    | some k => nrv 5 (k + 1) 4 (swp R k (nif R (R.getD k 0) 4))) := by
    unfold nxo; cases nkf R 3 <;> rfl
  rw [e1, e2]
  iterate 2 refine ev_nx rfl ?_
  exact Kv 3 (by omega)
/-- orders, the first ones first -/
def dpm : Nat → Nat → List (List Nat)
  | 0, _ => [[]]
  | n + 1, u => (List.range 5).flatMap (fun x => if bt u x = 0 then (dpm n (u ||| 1 * 2 ^ x)).map (x :: ·) else [])
/-- each one is the next one of that ahead -/
def chb : List (List Nat) → Bool
  | [] => true
  | R :: l => match l with
    | [] => nxo R == none
    | R' :: _ => nxo R == some R' && chb l
theorem dpm_ok : chb (dpm 5 0) = true ∧ (dpm 5 0).head? = some [0, 1, 2, 3, 4] ∧ ∀ R ∈ dpm 5 0, R.length = 5 ∧ ∀ x ∈ R, x < 5 := by decide +kernel
def prm (K R : List Nat) : List Nat := [K.getD (R.getD 0 0) 0, K.getD (R.getD 1 0) 0, K.getD (R.getD 2 0) 0, K.getD (R.getD 3 0) 0, K.getD (R.getD 4 0) 0]
/-- the better one of an order and the best ahead -/
def ost (f : List Nat → Nat) (s : Option Nat × List Nat) (R : List Nat) : Option Nat × List Nat := if btr (f R) s.1 then (some (f R), R) else s
def orA (k : Option Nat) (s : Option Nat × List Nat) : Int32 := match k with
  | none => eo1 s.1
  | some k => nI (s.2.getD k 0)
theorem prm_ok (ok : lok K S G c t j) {R : List Nat} (hR : R.length = 5) (hR5 : ∀ x ∈ R, x < 5) {S' G' : List Nat} (h2 : S'.length = 5 ∧ ∀ s ∈ S', s < 3) (h3 : G'.length = 5 ∧ ∀ s ∈ G', s < 3) : lok (prm K R) S' G' c t j := by
  refine ⟨⟨rfl, ?_⟩, h2, h3, ok.2.2.2⟩
  have hg : ∀ p, p < 5 → K.getD (R.getD p 0) 0 < 6 := fun p hp => gd3 ok.1.2 (by have := ok.1.1; have := gd3 hR5 (show p < R.length by omega); omega)
  intro s hs
  simp only [prm, List.mem_cons, List.not_mem_nil, or_false] at hs
  rcases hs with rfl | rfl | rfl | rfl | rfl
  · exact hg 0 (by decide)
  · exact hg 1 (by decide)
  · exact hg 2 (by decide)
  · exact hg 3 (by decide)
  · exact hg 4 (by decide)
end XP
end
