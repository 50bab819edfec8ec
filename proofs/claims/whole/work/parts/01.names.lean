-- ===== PART A: goes FIRST, ahead of the names: the tables' words, and 'selects' of the private methods out of them =====
/-- a private method of a class that the tables say can be made, by its rows of tables_1 -/
def lw_okq (q : MethodName × Nat) : Prop := (q.1.cls ≠ "java/lang/invoke/MethodHandle" ∧ q.1.cls ≠ "java/lang/invoke/VarHandle") ∧ Cond.instantiable q.1.cls q.2 ∈ tables_1 ∧ Cond.privateMethod q.1 ∈ tables_1 ∧ Cond.instanceMethod q.1 ∈ tables_1
theorem lw_p0 : lw_okq (⟨"LetterNeedles", "layScript", "()V"⟩, 9) := ⟨⟨by decide +kernel, by decide +kernel⟩, List.mem_of_getElem? (i := 19) (by decide +kernel), List.mem_of_getElem? (i := 268) (by decide +kernel), List.mem_of_getElem? (i := 269) (by decide +kernel)⟩
theorem lw_p1 : lw_okq (⟨"LetterNeedles$Script", "itemEnd", "(I)I"⟩, 2) := ⟨⟨by decide +kernel, by decide +kernel⟩, List.mem_of_getElem? (i := 27) (by decide +kernel), List.mem_of_getElem? (i := 284) (by decide +kernel), List.mem_of_getElem? (i := 285) (by decide +kernel)⟩
theorem lw_p2 : lw_okq (⟨"LetterNeedles$Script", "letterAt", "(I)C"⟩, 2) := ⟨⟨by decide +kernel, by decide +kernel⟩, List.mem_of_getElem? (i := 27) (by decide +kernel), List.mem_of_getElem? (i := 288) (by decide +kernel), List.mem_of_getElem? (i := 289) (by decide +kernel)⟩
theorem lw_p3 : lw_okq (⟨"LetterNeedles$Script", "needleEnd", "(I)I"⟩, 2) := ⟨⟨by decide +kernel, by decide +kernel⟩, List.mem_of_getElem? (i := 27) (by decide +kernel), List.mem_of_getElem? (i := 292) (by decide +kernel), List.mem_of_getElem? (i := 293) (by decide +kernel)⟩
theorem lw_p4 : lw_okq (⟨"LetterNeedles$Script", "figureAt", "(I)I"⟩, 2) := ⟨⟨by decide +kernel, by decide +kernel⟩, List.mem_of_getElem? (i := 27) (by decide +kernel), List.mem_of_getElem? (i := 296) (by decide +kernel), List.mem_of_getElem? (i := 297) (by decide +kernel)⟩
theorem lw_p5 : lw_okq (⟨"LetterNeedles$Script", "wireEnd", "(II)I"⟩, 2) := ⟨⟨by decide +kernel, by decide +kernel⟩, List.mem_of_getElem? (i := 27) (by decide +kernel), List.mem_of_getElem? (i := 307) (by decide +kernel), List.mem_of_getElem? (i := 308) (by decide +kernel)⟩
theorem lw_p6 : lw_okq (⟨"LetterNeedles$Script", "messageEnd", "(I)I"⟩, 2) := ⟨⟨by decide +kernel, by decide +kernel⟩, List.mem_of_getElem? (i := 27) (by decide +kernel), List.mem_of_getElem? (i := 311) (by decide +kernel), List.mem_of_getElem? (i := 312) (by decide +kernel)⟩
theorem lw_p7 : lw_okq (⟨"LetterNeedles$Script", "tellItem", "(IILLetterNeedles$Line;LLetterNeedles$Messages;)V"⟩, 2) := ⟨⟨by decide +kernel, by decide +kernel⟩, List.mem_of_getElem? (i := 27) (by decide +kernel), List.mem_of_getElem? (i := 315) (by decide +kernel), List.mem_of_getElem? (i := 316) (by decide +kernel)⟩
theorem lw_p8 : lw_okq (⟨"LetterNeedles$Script", "tellMessage", "(IILLetterNeedles$Messages;)V"⟩, 2) := ⟨⟨by decide +kernel, by decide +kernel⟩, List.mem_of_getElem? (i := 27) (by decide +kernel), List.mem_of_getElem? (i := 319) (by decide +kernel), List.mem_of_getElem? (i := 320) (by decide +kernel)⟩
theorem lw_p9 : lw_okq (⟨"LetterNeedles", "isMessage", "(I)Z"⟩, 9) := ⟨⟨by decide +kernel, by decide +kernel⟩, List.mem_of_getElem? (i := 19) (by decide +kernel), List.mem_of_getElem? (i := 418) (by decide +kernel), List.mem_of_getElem? (i := 419) (by decide +kernel)⟩
theorem lw_p10 : lw_okq (⟨"LetterNeedles$Line", "shareFrom", "(I)V"⟩, 7) := ⟨⟨by decide +kernel, by decide +kernel⟩, List.mem_of_getElem? (i := 60) (by decide +kernel), List.mem_of_getElem? (i := 459) (by decide +kernel), List.mem_of_getElem? (i := 460) (by decide +kernel)⟩
theorem lw_p11 : lw_okq (⟨"LetterNeedles", "isSaying", "(III)Z"⟩, 9) := ⟨⟨by decide +kernel, by decide +kernel⟩, List.mem_of_getElem? (i := 19) (by decide +kernel), List.mem_of_getElem? (i := 534) (by decide +kernel), List.mem_of_getElem? (i := 535) (by decide +kernel)⟩
theorem lw_p12 : lw_okq (⟨"LetterNeedles", "isAllRightMended", "(IIII)Z"⟩, 9) := ⟨⟨by decide +kernel, by decide +kernel⟩, List.mem_of_getElem? (i := 19) (by decide +kernel), List.mem_of_getElem? (i := 579) (by decide +kernel), List.mem_of_getElem? (i := 580) (by decide +kernel)⟩
theorem lw_p13 : lw_okq (⟨"LetterNeedles$Arrangement", "noteShown", "(LLetterNeedles$Line;II)V"⟩, 4) := ⟨⟨by decide +kernel, by decide +kernel⟩, List.mem_of_getElem? (i := 194) (by decide +kernel), List.mem_of_getElem? (i := 599) (by decide +kernel), List.mem_of_getElem? (i := 600) (by decide +kernel)⟩
theorem lw_p14 : lw_okq (⟨"LetterNeedles$Arrangement", "fillFrom", "(III)V"⟩, 4) := ⟨⟨by decide +kernel, by decide +kernel⟩, List.mem_of_getElem? (i := 194) (by decide +kernel), List.mem_of_getElem? (i := 610) (by decide +kernel), List.mem_of_getElem? (i := 611) (by decide +kernel)⟩
theorem lw_p15 : lw_okq (⟨"LetterNeedles$Arrangement", "keepIfBetter", "(I)V"⟩, 4) := ⟨⟨by decide +kernel, by decide +kernel⟩, List.mem_of_getElem? (i := 194) (by decide +kernel), List.mem_of_getElem? (i := 615) (by decide +kernel), List.mem_of_getElem? (i := 616) (by decide +kernel)⟩
def lw_privs_1 : List (MethodName × Nat) := [(⟨"LetterNeedles", "layScript", "()V"⟩, 9), (⟨"LetterNeedles$Script", "itemEnd", "(I)I"⟩, 2), (⟨"LetterNeedles$Script", "letterAt", "(I)C"⟩, 2), (⟨"LetterNeedles$Script", "needleEnd", "(I)I"⟩, 2), (⟨"LetterNeedles$Script", "figureAt", "(I)I"⟩, 2), (⟨"LetterNeedles$Script", "wireEnd", "(II)I"⟩, 2), (⟨"LetterNeedles$Script", "messageEnd", "(I)I"⟩, 2), (⟨"LetterNeedles$Script", "tellItem", "(IILLetterNeedles$Line;LLetterNeedles$Messages;)V"⟩, 2), (⟨"LetterNeedles$Script", "tellMessage", "(IILLetterNeedles$Messages;)V"⟩, 2), (⟨"LetterNeedles", "isMessage", "(I)Z"⟩, 9), (⟨"LetterNeedles$Line", "shareFrom", "(I)V"⟩, 7), (⟨"LetterNeedles", "isSaying", "(III)Z"⟩, 9), (⟨"LetterNeedles", "isAllRightMended", "(IIII)Z"⟩, 9), (⟨"LetterNeedles$Arrangement", "noteShown", "(LLetterNeedles$Line;II)V"⟩, 4), (⟨"LetterNeedles$Arrangement", "fillFrom", "(III)V"⟩, 4), (⟨"LetterNeedles$Arrangement", "keepIfBetter", "(I)V"⟩, 4)]
theorem lw_r1 : ∀ q ∈ lw_privs_1, lw_okq q := List.forall_mem_cons.mpr ⟨lw_p0, List.forall_mem_cons.mpr ⟨lw_p1, List.forall_mem_cons.mpr ⟨lw_p2, List.forall_mem_cons.mpr ⟨lw_p3, List.forall_mem_cons.mpr ⟨lw_p4, List.forall_mem_cons.mpr ⟨lw_p5, List.forall_mem_cons.mpr ⟨lw_p6, List.forall_mem_cons.mpr ⟨lw_p7, List.forall_mem_cons.mpr ⟨lw_p8, List.forall_mem_cons.mpr ⟨lw_p9, List.forall_mem_cons.mpr ⟨lw_p10, List.forall_mem_cons.mpr ⟨lw_p11, List.forall_mem_cons.mpr ⟨lw_p12, List.forall_mem_cons.mpr ⟨lw_p13, List.forall_mem_cons.mpr ⟨lw_p14, List.forall_mem_cons.mpr ⟨lw_p15, fun _ h => absurd h List.not_mem_nil⟩⟩⟩⟩⟩⟩⟩⟩⟩⟩⟩⟩⟩⟩⟩⟩
theorem lw_p16 : lw_okq (⟨"LetterNeedles$Suspects", "workOutReadings", "(LLetterNeedles$Line;)V"⟩, 6) := ⟨⟨by decide +kernel, by decide +kernel⟩, List.mem_of_getElem? (i := 132) (by decide +kernel), List.mem_of_getElem? (i := 636) (by decide +kernel), List.mem_of_getElem? (i := 637) (by decide +kernel)⟩
theorem lw_p17 : lw_okq (⟨"LetterNeedles$Suspects", "agrees", "(I)Z"⟩, 6) := ⟨⟨by decide +kernel, by decide +kernel⟩, List.mem_of_getElem? (i := 132) (by decide +kernel), List.mem_of_getElem? (i := 645) (by decide +kernel), List.mem_of_getElem? (i := 646) (by decide +kernel)⟩
theorem lw_p18 : lw_okq (⟨"LetterNeedles$Contest", "endOf", "(LLetterNeedles$Messages;II)I"⟩, 4) := ⟨⟨by decide +kernel, by decide +kernel⟩, List.mem_of_getElem? (i := 173) (by decide +kernel), List.mem_of_getElem? (i := 703) (by decide +kernel), List.mem_of_getElem? (i := 704) (by decide +kernel)⟩
theorem lw_p19 : lw_okq (⟨"LetterNeedles$Contest", "layOut", "(II)V"⟩, 4) := ⟨⟨by decide +kernel, by decide +kernel⟩, List.mem_of_getElem? (i := 173) (by decide +kernel), List.mem_of_getElem? (i := 707) (by decide +kernel), List.mem_of_getElem? (i := 708) (by decide +kernel)⟩
theorem lw_p20 : lw_okq (⟨"LetterNeedles$Contest", "mendableBehind", "(II)I"⟩, 4) := ⟨⟨by decide +kernel, by decide +kernel⟩, List.mem_of_getElem? (i := 173) (by decide +kernel), List.mem_of_getElem? (i := 714) (by decide +kernel), List.mem_of_getElem? (i := 715) (by decide +kernel)⟩
theorem lw_p21 : lw_okq (⟨"LetterNeedles", "slackChances", "(II)I"⟩, 9) := ⟨⟨by decide +kernel, by decide +kernel⟩, List.mem_of_getElem? (i := 19) (by decide +kernel), List.mem_of_getElem? (i := 725) (by decide +kernel), List.mem_of_getElem? (i := 726) (by decide +kernel)⟩
theorem lw_p22 : lw_okq (⟨"LetterNeedles", "doDrawn", "(II)V"⟩, 9) := ⟨⟨by decide +kernel, by decide +kernel⟩, List.mem_of_getElem? (i := 19) (by decide +kernel), List.mem_of_getElem? (i := 754) (by decide +kernel), List.mem_of_getElem? (i := 755) (by decide +kernel)⟩
theorem lw_p23 : lw_okq (⟨"LetterNeedlesModel", "tells", "(JI)V"⟩, 29) := ⟨⟨by decide +kernel, by decide +kernel⟩, List.mem_of_getElem? (i := 782) (by decide +kernel), List.mem_of_getElem? (i := 789) (by decide +kernel), List.mem_of_getElem? (i := 790) (by decide +kernel)⟩
theorem lw_p24 : lw_okq (⟨"LetterNeedlesModel", "reading", "()I"⟩, 29) := ⟨⟨by decide +kernel, by decide +kernel⟩, List.mem_of_getElem? (i := 782) (by decide +kernel), List.mem_of_getElem? (i := 802) (by decide +kernel), List.mem_of_getElem? (i := 803) (by decide +kernel)⟩
theorem lw_p25 : lw_okq (⟨"LetterNeedlesModel", "readItem", "()V"⟩, 29) := ⟨⟨by decide +kernel, by decide +kernel⟩, List.mem_of_getElem? (i := 782) (by decide +kernel), List.mem_of_getElem? (i := 806) (by decide +kernel), List.mem_of_getElem? (i := 807) (by decide +kernel)⟩
theorem lw_p26 : lw_okq (⟨"LetterNeedlesModel", "here", "()I"⟩, 29) := ⟨⟨by decide +kernel, by decide +kernel⟩, List.mem_of_getElem? (i := 782) (by decide +kernel), List.mem_of_getElem? (i := 810) (by decide +kernel), List.mem_of_getElem? (i := 811) (by decide +kernel)⟩
theorem lw_p27 : lw_okq (⟨"LetterNeedlesModel", "figure", "(I)I"⟩, 29) := ⟨⟨by decide +kernel, by decide +kernel⟩, List.mem_of_getElem? (i := 782) (by decide +kernel), List.mem_of_getElem? (i := 814) (by decide +kernel), List.mem_of_getElem? (i := 815) (by decide +kernel)⟩
theorem lw_p28 : lw_okq (⟨"LetterNeedlesModel", "sign", "(I)V"⟩, 29) := ⟨⟨by decide +kernel, by decide +kernel⟩, List.mem_of_getElem? (i := 782) (by decide +kernel), List.mem_of_getElem? (i := 821) (by decide +kernel), List.mem_of_getElem? (i := 822) (by decide +kernel)⟩
theorem lw_p29 : lw_okq (⟨"LetterNeedlesModel", "readMessage", "()V"⟩, 29) := ⟨⟨by decide +kernel, by decide +kernel⟩, List.mem_of_getElem? (i := 782) (by decide +kernel), List.mem_of_getElem? (i := 825) (by decide +kernel), List.mem_of_getElem? (i := 826) (by decide +kernel)⟩
theorem lw_p30 : lw_okq (⟨"LetterNeedlesModel", "isMessage", "(I)Z"⟩, 29) := ⟨⟨by decide +kernel, by decide +kernel⟩, List.mem_of_getElem? (i := 782) (by decide +kernel), List.mem_of_getElem? (i := 951) (by decide +kernel), List.mem_of_getElem? (i := 952) (by decide +kernel)⟩
theorem lw_p31 : lw_okq (⟨"LetterNeedlesModel", "notes", "()V"⟩, 29) := ⟨⟨by decide +kernel, by decide +kernel⟩, List.mem_of_getElem? (i := 782) (by decide +kernel), List.mem_of_getElem? (i := 959) (by decide +kernel), List.mem_of_getElem? (i := 960) (by decide +kernel)⟩
def lw_privs_2 : List (MethodName × Nat) := [(⟨"LetterNeedles$Suspects", "workOutReadings", "(LLetterNeedles$Line;)V"⟩, 6), (⟨"LetterNeedles$Suspects", "agrees", "(I)Z"⟩, 6), (⟨"LetterNeedles$Contest", "endOf", "(LLetterNeedles$Messages;II)I"⟩, 4), (⟨"LetterNeedles$Contest", "layOut", "(II)V"⟩, 4), (⟨"LetterNeedles$Contest", "mendableBehind", "(II)I"⟩, 4), (⟨"LetterNeedles", "slackChances", "(II)I"⟩, 9), (⟨"LetterNeedles", "doDrawn", "(II)V"⟩, 9), (⟨"LetterNeedlesModel", "tells", "(JI)V"⟩, 29), (⟨"LetterNeedlesModel", "reading", "()I"⟩, 29), (⟨"LetterNeedlesModel", "readItem", "()V"⟩, 29), (⟨"LetterNeedlesModel", "here", "()I"⟩, 29), (⟨"LetterNeedlesModel", "figure", "(I)I"⟩, 29), (⟨"LetterNeedlesModel", "sign", "(I)V"⟩, 29), (⟨"LetterNeedlesModel", "readMessage", "()V"⟩, 29), (⟨"LetterNeedlesModel", "isMessage", "(I)Z"⟩, 29), (⟨"LetterNeedlesModel", "notes", "()V"⟩, 29)]
theorem lw_r2 : ∀ q ∈ lw_privs_2, lw_okq q := List.forall_mem_cons.mpr ⟨lw_p16, List.forall_mem_cons.mpr ⟨lw_p17, List.forall_mem_cons.mpr ⟨lw_p18, List.forall_mem_cons.mpr ⟨lw_p19, List.forall_mem_cons.mpr ⟨lw_p20, List.forall_mem_cons.mpr ⟨lw_p21, List.forall_mem_cons.mpr ⟨lw_p22, List.forall_mem_cons.mpr ⟨lw_p23, List.forall_mem_cons.mpr ⟨lw_p24, List.forall_mem_cons.mpr ⟨lw_p25, List.forall_mem_cons.mpr ⟨lw_p26, List.forall_mem_cons.mpr ⟨lw_p27, List.forall_mem_cons.mpr ⟨lw_p28, List.forall_mem_cons.mpr ⟨lw_p29, List.forall_mem_cons.mpr ⟨lw_p30, List.forall_mem_cons.mpr ⟨lw_p31, fun _ h => absurd h List.not_mem_nil⟩⟩⟩⟩⟩⟩⟩⟩⟩⟩⟩⟩⟩⟩⟩⟩
theorem lw_p32 : lw_okq (⟨"LetterNeedlesModel", "beat", "([II)V"⟩, 29) := ⟨⟨by decide +kernel, by decide +kernel⟩, List.mem_of_getElem? (i := 782) (by decide +kernel), List.mem_of_getElem? (i := 963) (by decide +kernel), List.mem_of_getElem? (i := 964) (by decide +kernel)⟩
theorem lw_p33 : lw_okq (⟨"LetterNeedlesModel", "carries", "([II)V"⟩, 29) := ⟨⟨by decide +kernel, by decide +kernel⟩, List.mem_of_getElem? (i := 782) (by decide +kernel), List.mem_of_getElem? (i := 967) (by decide +kernel), List.mem_of_getElem? (i := 968) (by decide +kernel)⟩
theorem lw_p34 : lw_okq (⟨"LetterNeedlesModel", "stands", "([II)I"⟩, 29) := ⟨⟨by decide +kernel, by decide +kernel⟩, List.mem_of_getElem? (i := 782) (by decide +kernel), List.mem_of_getElem? (i := 974) (by decide +kernel), List.mem_of_getElem? (i := 975) (by decide +kernel)⟩
theorem lw_p35 : lw_okq (⟨"LetterNeedlesModel", "stiff", "([II)I"⟩, 29) := ⟨⟨by decide +kernel, by decide +kernel⟩, List.mem_of_getElem? (i := 782) (by decide +kernel), List.mem_of_getElem? (i := 978) (by decide +kernel), List.mem_of_getElem? (i := 979) (by decide +kernel)⟩
theorem lw_p36 : lw_okq (⟨"LetterNeedlesModel", "readOf", "([I)I"⟩, 29) := ⟨⟨by decide +kernel, by decide +kernel⟩, List.mem_of_getElem? (i := 782) (by decide +kernel), List.mem_of_getElem? (i := 982) (by decide +kernel), List.mem_of_getElem? (i := 983) (by decide +kernel)⟩
theorem lw_p37 : lw_okq (⟨"LetterNeedlesModel", "isSign", "([II)Z"⟩, 29) := ⟨⟨by decide +kernel, by decide +kernel⟩, List.mem_of_getElem? (i := 782) (by decide +kernel), List.mem_of_getElem? (i := 986) (by decide +kernel), List.mem_of_getElem? (i := 987) (by decide +kernel)⟩
theorem lw_p38 : lw_okq (⟨"LetterNeedlesModel", "asItIs", "()V"⟩, 29) := ⟨⟨by decide +kernel, by decide +kernel⟩, List.mem_of_getElem? (i := 782) (by decide +kernel), List.mem_of_getElem? (i := 1040) (by decide +kernel), List.mem_of_getElem? (i := 1041) (by decide +kernel)⟩
theorem lw_p39 : lw_okq (⟨"LetterNeedlesModel", "says", "(III)I"⟩, 29) := ⟨⟨by decide +kernel, by decide +kernel⟩, List.mem_of_getElem? (i := 782) (by decide +kernel), List.mem_of_getElem? (i := 1044) (by decide +kernel), List.mem_of_getElem? (i := 1045) (by decide +kernel)⟩
theorem lw_p40 : lw_okq (⟨"LetterNeedlesModel", "rests", "()V"⟩, 29) := ⟨⟨by decide +kernel, by decide +kernel⟩, List.mem_of_getElem? (i := 782) (by decide +kernel), List.mem_of_getElem? (i := 1048) (by decide +kernel), List.mem_of_getElem? (i := 1049) (by decide +kernel)⟩
theorem lw_p41 : lw_okq (⟨"LetterNeedlesModel", "clearOf", "(II)I"⟩, 29) := ⟨⟨by decide +kernel, by decide +kernel⟩, List.mem_of_getElem? (i := 782) (by decide +kernel), List.mem_of_getElem? (i := 1060) (by decide +kernel), List.mem_of_getElem? (i := 1061) (by decide +kernel)⟩
theorem lw_p42 : lw_okq (⟨"LetterNeedlesModel", "sent", "(II)I"⟩, 29) := ⟨⟨by decide +kernel, by decide +kernel⟩, List.mem_of_getElem? (i := 782) (by decide +kernel), List.mem_of_getElem? (i := 1064) (by decide +kernel), List.mem_of_getElem? (i := 1065) (by decide +kernel)⟩
theorem lw_p43 : lw_okq (⟨"LetterNeedlesModel", "nextOrder", "()Z"⟩, 29) := ⟨⟨by decide +kernel, by decide +kernel⟩, List.mem_of_getElem? (i := 782) (by decide +kernel), List.mem_of_getElem? (i := 1087) (by decide +kernel), List.mem_of_getElem? (i := 1088) (by decide +kernel)⟩
theorem lw_p44 : lw_okq (⟨"LetterNeedlesModel", "readBy", "(II)I"⟩, 29) := ⟨⟨by decide +kernel, by decide +kernel⟩, List.mem_of_getElem? (i := 782) (by decide +kernel), List.mem_of_getElem? (i := 1099) (by decide +kernel), List.mem_of_getElem? (i := 1100) (by decide +kernel)⟩
theorem lw_p45 : lw_okq (⟨"LetterNeedlesModel", "greatest", "(II)I"⟩, 29) := ⟨⟨by decide +kernel, by decide +kernel⟩, List.mem_of_getElem? (i := 782) (by decide +kernel), List.mem_of_getElem? (i := 1108) (by decide +kernel), List.mem_of_getElem? (i := 1109) (by decide +kernel)⟩
theorem lw_p46 : lw_okq (⟨"LetterNeedlesModel", "worthOf", "(III)I"⟩, 29) := ⟨⟨by decide +kernel, by decide +kernel⟩, List.mem_of_getElem? (i := 782) (by decide +kernel), List.mem_of_getElem? (i := 1128) (by decide +kernel), List.mem_of_getElem? (i := 1129) (by decide +kernel)⟩
theorem lw_p47 : lw_okq (⟨"LetterNeedlesModel", "chosen", "(IZ)I"⟩, 29) := ⟨⟨by decide +kernel, by decide +kernel⟩, List.mem_of_getElem? (i := 782) (by decide +kernel), List.mem_of_getElem? (i := 1132) (by decide +kernel), List.mem_of_getElem? (i := 1133) (by decide +kernel)⟩
def lw_privs_3 : List (MethodName × Nat) := [(⟨"LetterNeedlesModel", "beat", "([II)V"⟩, 29), (⟨"LetterNeedlesModel", "carries", "([II)V"⟩, 29), (⟨"LetterNeedlesModel", "stands", "([II)I"⟩, 29), (⟨"LetterNeedlesModel", "stiff", "([II)I"⟩, 29), (⟨"LetterNeedlesModel", "readOf", "([I)I"⟩, 29), (⟨"LetterNeedlesModel", "isSign", "([II)Z"⟩, 29), (⟨"LetterNeedlesModel", "asItIs", "()V"⟩, 29), (⟨"LetterNeedlesModel", "says", "(III)I"⟩, 29), (⟨"LetterNeedlesModel", "rests", "()V"⟩, 29), (⟨"LetterNeedlesModel", "clearOf", "(II)I"⟩, 29), (⟨"LetterNeedlesModel", "sent", "(II)I"⟩, 29), (⟨"LetterNeedlesModel", "nextOrder", "()Z"⟩, 29), (⟨"LetterNeedlesModel", "readBy", "(II)I"⟩, 29), (⟨"LetterNeedlesModel", "greatest", "(II)I"⟩, 29), (⟨"LetterNeedlesModel", "worthOf", "(III)I"⟩, 29), (⟨"LetterNeedlesModel", "chosen", "(IZ)I"⟩, 29)]
theorem lw_r3 : ∀ q ∈ lw_privs_3, lw_okq q := List.forall_mem_cons.mpr ⟨lw_p32, List.forall_mem_cons.mpr ⟨lw_p33, List.forall_mem_cons.mpr ⟨lw_p34, List.forall_mem_cons.mpr ⟨lw_p35, List.forall_mem_cons.mpr ⟨lw_p36, List.forall_mem_cons.mpr ⟨lw_p37, List.forall_mem_cons.mpr ⟨lw_p38, List.forall_mem_cons.mpr ⟨lw_p39, List.forall_mem_cons.mpr ⟨lw_p40, List.forall_mem_cons.mpr ⟨lw_p41, List.forall_mem_cons.mpr ⟨lw_p42, List.forall_mem_cons.mpr ⟨lw_p43, List.forall_mem_cons.mpr ⟨lw_p44, List.forall_mem_cons.mpr ⟨lw_p45, List.forall_mem_cons.mpr ⟨lw_p46, List.forall_mem_cons.mpr ⟨lw_p47, fun _ h => absurd h List.not_mem_nil⟩⟩⟩⟩⟩⟩⟩⟩⟩⟩⟩⟩⟩⟩⟩⟩
theorem lw_p48 : lw_okq (⟨"LetterNeedlesModel", "likely", "(II)I"⟩, 29) := ⟨⟨by decide +kernel, by decide +kernel⟩, List.mem_of_getElem? (i := 782) (by decide +kernel), List.mem_of_getElem? (i := 1140) (by decide +kernel), List.mem_of_getElem? (i := 1141) (by decide +kernel)⟩
theorem lw_p49 : lw_okq (⟨"LetterNeedlesModel", "notUpright", "()I"⟩, 29) := ⟨⟨by decide +kernel, by decide +kernel⟩, List.mem_of_getElem? (i := 782) (by decide +kernel), List.mem_of_getElem? (i := 1177) (by decide +kernel), List.mem_of_getElem? (i := 1178) (by decide +kernel)⟩
def lw_privs_4 : List (MethodName × Nat) := [(⟨"LetterNeedlesModel", "likely", "(II)I"⟩, 29), (⟨"LetterNeedlesModel", "notUpright", "()I"⟩, 29)]
theorem lw_r4 : ∀ q ∈ lw_privs_4, lw_okq q := List.forall_mem_cons.mpr ⟨lw_p48, List.forall_mem_cons.mpr ⟨lw_p49, fun _ h => absurd h List.not_mem_nil⟩⟩
def lw_privs : List (MethodName × Nat) := lw_privs_1 ++ (lw_privs_2 ++ (lw_privs_3 ++ (lw_privs_4)))
def lw_tbl : List Cond := k2_sels lw_privs ++ tables_1
theorem lw_privs_ok : ∀ q ∈ lw_privs, lw_okq q := by
  show ∀ q ∈ lw_privs_1 ++ (lw_privs_2 ++ (lw_privs_3 ++ (lw_privs_4))), lw_okq q
  exact List.forall_mem_append.mpr ⟨lw_r1, List.forall_mem_append.mpr ⟨lw_r2, List.forall_mem_append.mpr ⟨lw_r3, lw_r4⟩⟩⟩
/-! ===== BEGIN words of one list among another's, by their places ===== -/
theorem goodIn_r {big : List Cond} (ws : List Cond) (ps : List Nat) (hp : ws = ps.filterMap (fun i => big[i]?)) (h : ws.all goodWord = true) : GoodIn big ws := by
  intro w hw
  have h1 := List.all_eq_true.mp h w hw
  rw [hp] at hw
  obtain ⟨i, -, hi⟩ := List.mem_filterMap.mp hw
  have hm : w ∈ big := by first | exact List.mem_of_getElem? hi | exact List.getElem?_mem hi
  exact ⟨hm, good_of_word h1⟩
theorem goodIn_app {big a b : List Cond} (ha : GoodIn big a) (hb : GoodIn big b) : GoodIn big (a ++ b) := fun w h => (List.mem_append.mp h).elim (ha w) (hb w)
theorem goodIn_ca {big a b : List Cond} {c : Cond} (ha : GoodIn big (c :: a)) (hb : GoodIn big b) : GoodIn big (c :: (a ++ b)) := fun w h => (List.mem_cons.mp h).elim (fun e => ha w (List.mem_cons.mpr (Or.inl e))) (fun h => (List.mem_append.mp h).elim (fun h => ha w (List.mem_cons.mpr (Or.inr h))) (hb w))
theorem goodIn_sub {big ws : List Cond} (hm : ∀ w ∈ ws, w ∈ big) (h : ws.all goodWord = true) : GoodIn big ws := fun w hw => ⟨hm w hw, good_of_word (List.all_eq_true.mp h w hw)⟩
/-! ===== END ===== -/

/-! ===== BEGIN printed: names, fields, word lists, decode rows ===== -/
def RX0 : String := "LetterNeedles$Arrangement"
def TX0 : u_T := fun k => match k with
  | 0 => ("LetterNeedles$Arrangement", "shown", "[I", true)
  | 1 => ("LetterNeedles$Arrangement", "chosen", "[I", true)
  | 2 => ("LetterNeedles$Arrangement", "best", "[I", true)
  | _ => ("LetterNeedles$Arrangement", "most", "I", false)
def tyX0 : Nat → FieldType := fun k => match k with
  | 0 => .array .int
  | 1 => .array .int
  | 2 => .array .int
  | _ => .int
abbrev wsX00 : List Cond := u_ws RX0 TX0 4
theorem nmX0 : ∀ a, a < 4 → ∀ b, b < 4 → a ≠ b → (TX0 a).2.1 ≠ (TX0 b).2.1 := by decide +kernel
theorem tyX0_ok : ∀ k, k < 4 → parseFieldDescriptor (TX0 k).2.2.1 = some (tyX0 k) := by decide +kernel
abbrev cX0_init : ByteArray := prog_2_method_1_code
def yX0_init : MethodName := ⟨RX0, "<init>", "()V"⟩
abbrev cX0_find : ByteArray := prog_2_method_2_code
def yX0_find : MethodName := ⟨RX0, "find", "(LLetterNeedles$Line;I)V"⟩
abbrev cX0_noteShown : ByteArray := prog_2_method_3_code
def yX0_noteShown : MethodName := ⟨RX0, "noteShown", "(LLetterNeedles$Line;II)V"⟩
abbrev cX0_standsBehind : ByteArray := prog_2_method_4_code
def yX0_standsBehind : MethodName := ⟨RX0, "standsBehind", "(LLetterNeedles$Line;III)I"⟩
abbrev cX0_fillFrom : ByteArray := prog_2_method_5_code
def yX0_fillFrom : MethodName := ⟨RX0, "fillFrom", "(III)V"⟩
abbrev cX0_keepIfBetter : ByteArray := prog_2_method_6_code
def yX0_keepIfBetter : MethodName := ⟨RX0, "keepIfBetter", "(I)V"⟩
def RX1 : String := "LetterNeedles$Contest"
def TX1 : u_T := fun k => match k with
  | 0 => ("LetterNeedles$Contest", "start", "LLetterNeedles$Line;", true)
  | 1 => ("LetterNeedles$Contest", "scratch", "LLetterNeedles$Line;", true)
  | 2 => ("LetterNeedles$Contest", "ends", "[I", true)
  | _ => ("LetterNeedles$Contest", "message", "I", false)
def tyX1 : Nat → FieldType := fun k => match k with
  | 0 => .object "LetterNeedles$Line"
  | 1 => .object "LetterNeedles$Line"
  | 2 => .array .int
  | _ => .int
abbrev wsX10 : List Cond := u_ws RX1 TX1 4
theorem nmX1 : ∀ a, a < 4 → ∀ b, b < 4 → a ≠ b → (TX1 a).2.1 ≠ (TX1 b).2.1 := by decide +kernel
theorem tyX1_ok : ∀ k, k < 4 → parseFieldDescriptor (TX1 k).2.2.1 = some (tyX1 k) := by decide +kernel
abbrev cX1_init : ByteArray := prog_3_method_1_code
def yX1_init : MethodName := ⟨RX1, "<init>", "()V"⟩
abbrev cX1_beginFor : ByteArray := prog_3_method_2_code
def yX1_beginFor : MethodName := ⟨RX1, "beginFor", "(LLetterNeedles$Line;I)V"⟩
abbrev cX1_outcome : ByteArray := prog_3_method_3_code
def yX1_outcome : MethodName := ⟨RX1, "outcome", "(LLetterNeedles$Messages;IZII)I"⟩
abbrev cX1_mendableBehind : ByteArray := prog_3_method_4_code
def yX1_mendableBehind : MethodName := ⟨RX1, "mendableBehind", "(II)I"⟩
abbrev cX1_endOf : ByteArray := prog_3_method_5_code
def yX1_endOf : MethodName := ⟨RX1, "endOf", "(LLetterNeedles$Messages;II)I"⟩
abbrev cX1_layOut : ByteArray := prog_3_method_6_code
def yX1_layOut : MethodName := ⟨RX1, "layOut", "(II)V"⟩
def RX2 : String := "LetterNeedles$Hearing"
def TX2 : u_T := fun k => match k with
  | 0 => ("LetterNeedles$Hearing", "signs", "[I", true)
  | _ => ("LetterNeedles$Hearing", "heard", "I", false)
def tyX2 : Nat → FieldType := fun k => match k with
  | 0 => .array .int
  | _ => .int
abbrev wsX20 : List Cond := u_ws RX2 TX2 2
theorem nmX2 : ∀ a, a < 2 → ∀ b, b < 2 → a ≠ b → (TX2 a).2.1 ≠ (TX2 b).2.1 := by decide +kernel
theorem tyX2_ok : ∀ k, k < 2 → parseFieldDescriptor (TX2 k).2.2.1 = some (tyX2 k) := by decide +kernel
abbrev cX2_init : ByteArray := prog_4_method_1_code
def yX2_init : MethodName := ⟨RX2, "<init>", "()V"⟩
abbrev cX2_add : ByteArray := prog_4_method_2_code
def yX2_add : MethodName := ⟨RX2, "add", "(I)V"⟩
abbrev cX2_empty : ByteArray := prog_4_method_3_code
def yX2_empty : MethodName := ⟨RX2, "empty", "()I"⟩
abbrev cX2_isLike : ByteArray := prog_4_method_4_code
def yX2_isLike : MethodName := ⟨RX2, "isLike", "(LLetterNeedles$Messages;I)Z"⟩
def RX3 : String := "LetterNeedles$Line"
def TX3 : u_T := fun k => match k with
  | 0 => ("LetterNeedles$Line", "kinds", "[I", true)
  | 1 => ("LetterNeedles$Line", "stands", "[I", true)
  | 2 => ("LetterNeedles$Line", "got", "[I", true)
  | 3 => ("LetterNeedles$Line", "carried", "[I", true)
  | 4 => ("LetterNeedles$Line", "cutWires", "I", false)
  | 5 => ("LetterNeedles$Line", "turnedWires", "I", false)
  | _ => ("LetterNeedles$Line", "touching", "I", false)
def tyX3 : Nat → FieldType := fun k => match k with
  | 0 => .array .int
  | 1 => .array .int
  | 2 => .array .int
  | 3 => .array .int
  | 4 => .int
  | 5 => .int
  | _ => .int
abbrev wsX30 : List Cond := u_ws RX3 TX3 7
theorem nmX3 : ∀ a, a < 7 → ∀ b, b < 7 → a ≠ b → (TX3 a).2.1 ≠ (TX3 b).2.1 := by decide +kernel
theorem tyX3_ok : ∀ k, k < 7 → parseFieldDescriptor (TX3 k).2.2.1 = some (tyX3 k) := by decide +kernel
abbrev cX3_init : ByteArray := prog_5_method_1_code
def yX3_init : MethodName := ⟨RX3, "<init>", "()V"⟩
abbrev cX3_copyFrom : ByteArray := prog_5_method_2_code
def yX3_copyFrom : MethodName := ⟨RX3, "copyFrom", "(LLetterNeedles$Line;)V"⟩
abbrev cX3_makeWhole : ByteArray := prog_5_method_3_code
def yX3_makeWhole : MethodName := ⟨RX3, "makeWhole", "()V"⟩
abbrev cX3_rest : ByteArray := prog_5_method_4_code
def yX3_rest : MethodName := ⟨RX3, "rest", "()V"⟩
abbrev cX3_sendFromRest : ByteArray := prog_5_method_5_code
def yX3_sendFromRest : MethodName := ⟨RX3, "sendFromRest", "(II)I"⟩
abbrev cX3_sendFor : ByteArray := prog_5_method_6_code
def yX3_sendFor : MethodName := ⟨RX3, "sendFor", "(II)I"⟩
abbrev cX3_carrySign : ByteArray := prog_5_method_7_code
def yX3_carrySign : MethodName := ⟨RX3, "carrySign", "(I)V"⟩
abbrev cX3_shareFrom : ByteArray := prog_5_method_8_code
def yX3_shareFrom : MethodName := ⟨RX3, "shareFrom", "(I)V"⟩
abbrev cX3_aheadOf : ByteArray := prog_5_method_9_code
def yX3_aheadOf : MethodName := ⟨RX3, "aheadOf", "(I)I"⟩
abbrev cX3_standing : ByteArray := prog_5_method_10_code
def yX3_standing : MethodName := ⟨RX3, "standing", "(IIIII)I"⟩
abbrev cX3_otherWay : ByteArray := prog_5_method_11_code
def yX3_otherWay : MethodName := ⟨RX3, "otherWay", "(I)I"⟩
abbrev cX3_readSign : ByteArray := prog_5_method_12_code
def yX3_readSign : MethodName := ⟨RX3, "readSign", "()I"⟩
abbrev cX3_notUpright : ByteArray := prog_5_method_13_code
def yX3_notUpright : MethodName := ⟨RX3, "notUpright", "()I"⟩
abbrev cX3_mendableWires : ByteArray := prog_5_method_14_code
def yX3_mendableWires : MethodName := ⟨RX3, "mendableWires", "()I"⟩
abbrev cX3_mendAll : ByteArray := prog_5_method_15_code
def yX3_mendAll : MethodName := ⟨RX3, "mendAll", "(I)V"⟩
abbrev cX3_swapNeedles : ByteArray := prog_5_method_16_code
def yX3_swapNeedles : MethodName := ⟨RX3, "swapNeedles", "(II)V"⟩
abbrev cX3_swapIn : ByteArray := prog_5_method_17_code
def yX3_swapIn : MethodName := ⟨RX3, "swapIn", "([III)V"⟩
def RX4 : String := "LetterNeedles$Messages"
def TX4 : u_T := fun k => match k with
  | 0 => ("LetterNeedles$Messages", "signs", "[I", true)
  | 1 => ("LetterNeedles$Messages", "lengths", "[I", true)
  | _ => ("LetterNeedles$Messages", "many", "I", false)
def tyX4 : Nat → FieldType := fun k => match k with
  | 0 => .array .int
  | 1 => .array .int
  | _ => .int
abbrev wsX40 : List Cond := u_ws RX4 TX4 3
theorem nmX4 : ∀ a, a < 3 → ∀ b, b < 3 → a ≠ b → (TX4 a).2.1 ≠ (TX4 b).2.1 := by decide +kernel
theorem tyX4_ok : ∀ k, k < 3 → parseFieldDescriptor (TX4 k).2.2.1 = some (tyX4 k) := by decide +kernel
abbrev cX4_init : ByteArray := prog_6_method_1_code
def yX4_init : MethodName := ⟨RX4, "<init>", "()V"⟩
abbrev cX4_begin : ByteArray := prog_6_method_2_code
def yX4_begin : MethodName := ⟨RX4, "begin", "()V"⟩
abbrev cX4_spell : ByteArray := prog_6_method_3_code
def yX4_spell : MethodName := ⟨RX4, "spell", "(C)V"⟩
abbrev cX4_lengthOf : ByteArray := prog_6_method_4_code
def yX4_lengthOf : MethodName := ⟨RX4, "lengthOf", "(I)I"⟩
abbrev cX4_signOf : ByteArray := prog_6_method_5_code
def yX4_signOf : MethodName := ⟨RX4, "signOf", "(II)I"⟩
abbrev cX4_readOn : ByteArray := prog_6_method_6_code
def yX4_readOn : MethodName := ⟨RX4, "readOn", "(LLetterNeedles$Line;IIII)I"⟩
abbrev cX4_rightOn : ByteArray := prog_6_method_7_code
def yX4_rightOn : MethodName := ⟨RX4, "rightOn", "(LLetterNeedles$Line;III)I"⟩
abbrev cX4_isAllRightOn : ByteArray := prog_6_method_8_code
def yX4_isAllRightOn : MethodName := ⟨RX4, "isAllRightOn", "(LLetterNeedles$Line;III)Z"⟩
def RX5 : String := "LetterNeedles$Past"
def TX5 : u_T := fun k => match k with
  | 0 => ("LetterNeedles$Past", "ahead", "[LLetterNeedles$Line;", true)
  | 1 => ("LetterNeedles$Past", "keptLines", "[LLetterNeedles$Line;", true)
  | 2 => ("LetterNeedles$Past", "next", "I", false)
  | 3 => ("LetterNeedles$Past", "deeds", "I", false)
  | _ => ("LetterNeedles$Past", "kept", "I", false)
def tyX5 : Nat → FieldType := fun k => match k with
  | 0 => .array (.object "LetterNeedles$Line")
  | 1 => .array (.object "LetterNeedles$Line")
  | 2 => .int
  | 3 => .int
  | _ => .int
abbrev wsX50 : List Cond := u_ws RX5 TX5 5
theorem nmX5 : ∀ a, a < 5 → ∀ b, b < 5 → a ≠ b → (TX5 a).2.1 ≠ (TX5 b).2.1 := by decide +kernel
theorem tyX5_ok : ∀ k, k < 5 → parseFieldDescriptor (TX5 k).2.2.1 = some (tyX5 k) := by decide +kernel
abbrev cX5_init : ByteArray := prog_7_method_1_code
def yX5_init : MethodName := ⟨RX5, "<init>", "()V"⟩
abbrev cX5_empty : ByteArray := prog_7_method_2_code
def yX5_empty : MethodName := ⟨RX5, "empty", "()V"⟩
abbrev cX5_remember : ByteArray := prog_7_method_3_code
def yX5_remember : MethodName := ⟨RX5, "remember", "(LLetterNeedles$Line;)V"⟩
abbrev cX5_undoOn : ByteArray := prog_7_method_4_code
def yX5_undoOn : MethodName := ⟨RX5, "undoOn", "(LLetterNeedles$Line;)V"⟩
abbrev cX5_keepLine : ByteArray := prog_7_method_5_code
def yX5_keepLine : MethodName := ⟨RX5, "keepLine", "(LLetterNeedles$Line;)V"⟩
abbrev cX5_backOn : ByteArray := prog_7_method_6_code
def yX5_backOn : MethodName := ⟨RX5, "backOn", "(LLetterNeedles$Line;)V"⟩
def RX6 : String := "LetterNeedles$Script"
def TX6 : u_T := fun k => match k with
  | 0 => ("LetterNeedles$Script", "letters", "[C", true)
  | _ => ("LetterNeedles$Script", "length", "I", false)
def tyX6 : Nat → FieldType := fun k => match k with
  | 0 => .array .char
  | _ => .int
abbrev wsX60 : List Cond := u_ws RX6 TX6 2
theorem nmX6 : ∀ a, a < 2 → ∀ b, b < 2 → a ≠ b → (TX6 a).2.1 ≠ (TX6 b).2.1 := by decide +kernel
theorem tyX6_ok : ∀ k, k < 2 → parseFieldDescriptor (TX6 k).2.2.1 = some (tyX6 k) := by decide +kernel
abbrev cX6_init : ByteArray := prog_8_method_1_code
def yX6_init : MethodName := ⟨RX6, "<init>", "()V"⟩
abbrev cX6_append : ByteArray := prog_8_method_2_code
def yX6_append : MethodName := ⟨RX6, "append", "(C)V"⟩
abbrev cX6_empty : ByteArray := prog_8_method_3_code
def yX6_empty : MethodName := ⟨RX6, "empty", "()I"⟩
abbrev cX6_firstFault : ByteArray := prog_8_method_4_code
def yX6_firstFault : MethodName := ⟨RX6, "firstFault", "()I"⟩
abbrev cX6_tellsMessage : ByteArray := prog_8_method_5_code
def yX6_tellsMessage : MethodName := ⟨RX6, "tellsMessage", "()Z"⟩
abbrev cX6_tell : ByteArray := prog_8_method_6_code
def yX6_tell : MethodName := ⟨RX6, "tell", "(LLetterNeedles$Line;LLetterNeedles$Messages;)V"⟩
abbrev cX6_tellItem : ByteArray := prog_8_method_7_code
def yX6_tellItem : MethodName := ⟨RX6, "tellItem", "(IILLetterNeedles$Line;LLetterNeedles$Messages;)V"⟩
abbrev cX6_tellMessage : ByteArray := prog_8_method_8_code
def yX6_tellMessage : MethodName := ⟨RX6, "tellMessage", "(IILLetterNeedles$Messages;)V"⟩
abbrev cX6_itemEnd : ByteArray := prog_8_method_9_code
def yX6_itemEnd : MethodName := ⟨RX6, "itemEnd", "(I)I"⟩
abbrev cX6_needleEnd : ByteArray := prog_8_method_10_code
def yX6_needleEnd : MethodName := ⟨RX6, "needleEnd", "(I)I"⟩
abbrev cX6_wireEnd : ByteArray := prog_8_method_11_code
def yX6_wireEnd : MethodName := ⟨RX6, "wireEnd", "(II)I"⟩
abbrev cX6_messageEnd : ByteArray := prog_8_method_12_code
def yX6_messageEnd : MethodName := ⟨RX6, "messageEnd", "(I)I"⟩
abbrev cX6_figureAt : ByteArray := prog_8_method_13_code
def yX6_figureAt : MethodName := ⟨RX6, "figureAt", "(I)I"⟩
abbrev cX6_letterAt : ByteArray := prog_8_method_14_code
def yX6_letterAt : MethodName := ⟨RX6, "letterAt", "(I)C"⟩
def RX7 : String := "LetterNeedles$Suspects"
def TX7 : u_T := fun k => match k with
  | 0 => ("LetterNeedles$Suspects", "seenSigns", "[I", true)
  | 1 => ("LetterNeedles$Suspects", "seenReads", "[I", true)
  | 2 => ("LetterNeedles$Suspects", "readings", "[B", true)
  | 3 => ("LetterNeedles$Suspects", "hasReadings", "Z", false)
  | 4 => ("LetterNeedles$Suspects", "parts", "[I", true)
  | _ => ("LetterNeedles$Suspects", "seen", "I", false)
def tyX7 : Nat → FieldType := fun k => match k with
  | 0 => .array .int
  | 1 => .array .int
  | 2 => .array .byte
  | 3 => .boolean
  | 4 => .array .int
  | _ => .int
abbrev wsX70 : List Cond := u_ws RX7 TX7 6
theorem nmX7 : ∀ a, a < 6 → ∀ b, b < 6 → a ≠ b → (TX7 a).2.1 ≠ (TX7 b).2.1 := by decide +kernel
theorem tyX7_ok : ∀ k, k < 6 → parseFieldDescriptor (TX7 k).2.2.1 = some (tyX7 k) := by decide +kernel
abbrev cX7_init : ByteArray := prog_9_method_1_code
def yX7_init : MethodName := ⟨RX7, "<init>", "()V"⟩
abbrev cX7_add : ByteArray := prog_9_method_2_code
def yX7_add : MethodName := ⟨RX7, "add", "(II)V"⟩
abbrev cX7_empty : ByteArray := prog_9_method_3_code
def yX7_empty : MethodName := ⟨RX7, "empty", "()I"⟩
abbrev cX7_possible : ByteArray := prog_9_method_4_code
def yX7_possible : MethodName := ⟨RX7, "possible", "(LLetterNeedles$Line;)I"⟩
abbrev cX7_agrees : ByteArray := prog_9_method_5_code
def yX7_agrees : MethodName := ⟨RX7, "agrees", "(I)Z"⟩
abbrev cX7_bestSign : ByteArray := prog_9_method_6_code
def yX7_bestSign : MethodName := ⟨RX7, "bestSign", "(I)I"⟩
abbrev cX7_greatestPart : ByteArray := prog_9_method_7_code
def yX7_greatestPart : MethodName := ⟨RX7, "greatestPart", "(II)I"⟩
abbrev cX7_workOutReadings : ByteArray := prog_9_method_8_code
def yX7_workOutReadings : MethodName := ⟨RX7, "workOutReadings", "(LLetterNeedles$Line;)V"⟩
abbrev cX7_makeWrong : ByteArray := prog_9_method_9_code
def yX7_makeWrong : MethodName := ⟨RX7, "makeWrong", "(LLetterNeedles$Line;I)V"⟩
def RX8 : String := "LetterNeedles"
def TX8 : u_T := fun k => match k with
  | 0 => ("LetterNeedles", "script", "LLetterNeedles$Script;", true)
  | 1 => ("LetterNeedles", "messages", "LLetterNeedles$Messages;", true)
  | 2 => ("LetterNeedles", "line", "LLetterNeedles$Line;", true)
  | 3 => ("LetterNeedles", "trial", "LLetterNeedles$Line;", true)
  | 4 => ("LetterNeedles", "past", "LLetterNeedles$Past;", true)
  | 5 => ("LetterNeedles", "suspects", "LLetterNeedles$Suspects;", true)
  | 6 => ("LetterNeedles", "hearing", "LLetterNeedles$Hearing;", true)
  | 7 => ("LetterNeedles", "contest", "LLetterNeedles$Contest;", true)
  | _ => ("LetterNeedles", "arrangement", "LLetterNeedles$Arrangement;", true)
def tyX8 : Nat → FieldType := fun k => match k with
  | 0 => .object "LetterNeedles$Script"
  | 1 => .object "LetterNeedles$Messages"
  | 2 => .object "LetterNeedles$Line"
  | 3 => .object "LetterNeedles$Line"
  | 4 => .object "LetterNeedles$Past"
  | 5 => .object "LetterNeedles$Suspects"
  | 6 => .object "LetterNeedles$Hearing"
  | 7 => .object "LetterNeedles$Contest"
  | _ => .object "LetterNeedles$Arrangement"
abbrev wsX80 : List Cond := u_ws RX8 TX8 9
theorem nmX8 : ∀ a, a < 9 → ∀ b, b < 9 → a ≠ b → (TX8 a).2.1 ≠ (TX8 b).2.1 := by decide +kernel
theorem tyX8_ok : ∀ k, k < 9 → parseFieldDescriptor (TX8 k).2.2.1 = some (tyX8 k) := by decide +kernel
abbrev cX8_init : ByteArray := prog_1_method_1_code
def yX8_init : MethodName := ⟨RX8, "<init>", "()V"⟩
abbrev cX8_write : ByteArray := prog_1_method_2_code
def yX8_write : MethodName := ⟨RX8, "write", "(I)I"⟩
abbrev cX8_wipe : ByteArray := prog_1_method_3_code
def yX8_wipe : MethodName := ⟨RX8, "wipe", "()I"⟩
abbrev cX8_fault : ByteArray := prog_1_method_4_code
def yX8_fault : MethodName := ⟨RX8, "fault", "()I"⟩
abbrev cX8_lay : ByteArray := prog_1_method_5_code
def yX8_lay : MethodName := ⟨RX8, "lay", "()I"⟩
abbrev cX8_needle : ByteArray := prog_1_method_6_code
def yX8_needle : MethodName := ⟨RX8, "needle", "(II)I"⟩
abbrev cX8_wire : ByteArray := prog_1_method_7_code
def yX8_wire : MethodName := ⟨RX8, "wire", "(II)I"⟩
abbrev cX8_spelt : ByteArray := prog_1_method_8_code
def yX8_spelt : MethodName := ⟨RX8, "spelt", "(II)I"⟩
abbrev cX8_send : ByteArray := prog_1_method_9_code
def yX8_send : MethodName := ⟨RX8, "send", "(I)I"⟩
abbrev cX8_cut : ByteArray := prog_1_method_10_code
def yX8_cut : MethodName := ⟨RX8, "cut", "(I)I"⟩
abbrev cX8_turn : ByteArray := prog_1_method_11_code
def yX8_turn : MethodName := ⟨RX8, "turn", "(I)I"⟩
abbrev cX8_touch : ByteArray := prog_1_method_12_code
def yX8_touch : MethodName := ⟨RX8, "touch", "(I)I"⟩
abbrev cX8_mend : ByteArray := prog_1_method_13_code
def yX8_mend : MethodName := ⟨RX8, "mend", "(I)I"⟩
abbrev cX8_change : ByteArray := prog_1_method_14_code
def yX8_change : MethodName := ⟨RX8, "change", "(II)I"⟩
abbrev cX8_undo : ByteArray := prog_1_method_15_code
def yX8_undo : MethodName := ⟨RX8, "undo", "()I"⟩
abbrev cX8_reads : ByteArray := prog_1_method_16_code
def yX8_reads : MethodName := ⟨RX8, "reads", "()I"⟩
abbrev cX8_said : ByteArray := prog_1_method_17_code
def yX8_said : MethodName := ⟨RX8, "said", "(IIII)I"⟩
abbrev cX8_pace : ByteArray := prog_1_method_18_code
def yX8_pace : MethodName := ⟨RX8, "pace", "(II)I"⟩
abbrev cX8_clear : ByteArray := prog_1_method_19_code
def yX8_clear : MethodName := ⟨RX8, "clear", "(I)I"⟩
abbrev cX8_like : ByteArray := prog_1_method_20_code
def yX8_like : MethodName := ⟨RX8, "like", "(I)I"⟩
abbrev cX8_mending : ByteArray := prog_1_method_21_code
def yX8_mending : MethodName := ⟨RX8, "mending", "(III)I"⟩
abbrev cX8_changing : ByteArray := prog_1_method_22_code
def yX8_changing : MethodName := ⟨RX8, "changing", "(IIII)I"⟩
abbrev cX8_order : ByteArray := prog_1_method_23_code
def yX8_order : MethodName := ⟨RX8, "order", "(II)I"⟩
abbrev cX8_see : ByteArray := prog_1_method_24_code
def yX8_see : MethodName := ⟨RX8, "see", "(II)I"⟩
abbrev cX8_canBe : ByteArray := prog_1_method_25_code
def yX8_canBe : MethodName := ⟨RX8, "canBe", "()I"⟩
abbrev cX8_tries : ByteArray := prog_1_method_26_code
def yX8_tries : MethodName := ⟨RX8, "tries", "(I)I"⟩
abbrev cX8_hear : ByteArray := prog_1_method_27_code
def yX8_hear : MethodName := ⟨RX8, "hear", "(I)I"⟩
abbrev cX8_fits : ByteArray := prog_1_method_28_code
def yX8_fits : MethodName := ⟨RX8, "fits", "()I"⟩
abbrev cX8_forget : ByteArray := prog_1_method_29_code
def yX8_forget : MethodName := ⟨RX8, "forget", "(I)I"⟩
abbrev cX8_duel : ByteArray := prog_1_method_30_code
def yX8_duel : MethodName := ⟨RX8, "duel", "(II)I"⟩
abbrev cX8_odds : ByteArray := prog_1_method_31_code
def yX8_odds : MethodName := ⟨RX8, "odds", "(III)I"⟩
abbrev cX8_mean : ByteArray := prog_1_method_32_code
def yX8_mean : MethodName := ⟨RX8, "mean", "(III)I"⟩
abbrev cX8_day : ByteArray := prog_1_method_33_code
def yX8_day : MethodName := ⟨RX8, "day", "(III)I"⟩
abbrev cX8_keep : ByteArray := prog_1_method_34_code
def yX8_keep : MethodName := ⟨RX8, "keep", "()I"⟩
abbrev cX8_back : ByteArray := prog_1_method_35_code
def yX8_back : MethodName := ⟨RX8, "back", "()I"⟩
abbrev cX8_count : ByteArray := prog_1_method_36_code
def yX8_count : MethodName := ⟨RX8, "count", "(I)I"⟩
abbrev cX8_within : ByteArray := prog_1_method_37_code
def yX8_within : MethodName := ⟨RX8, "within", "(III)Z"⟩
abbrev cX8_isPlace : ByteArray := prog_1_method_38_code
def yX8_isPlace : MethodName := ⟨RX8, "isPlace", "(I)Z"⟩
abbrev cX8_isBeats : ByteArray := prog_1_method_39_code
def yX8_isBeats : MethodName := ⟨RX8, "isBeats", "(I)Z"⟩
abbrev cX8_isMessage : ByteArray := prog_1_method_40_code
def yX8_isMessage : MethodName := ⟨RX8, "isMessage", "(I)Z"⟩
abbrev cX8_isSaying : ByteArray := prog_1_method_41_code
def yX8_isSaying : MethodName := ⟨RX8, "isSaying", "(III)Z"⟩
abbrev cX8_bitAt : ByteArray := prog_1_method_42_code
def yX8_bitAt : MethodName := ⟨RX8, "bitAt", "(II)I"⟩
abbrev cX8_layScript : ByteArray := prog_1_method_43_code
def yX8_layScript : MethodName := ⟨RX8, "layScript", "()V"⟩
abbrev cX8_isAllRightMended : ByteArray := prog_1_method_44_code
def yX8_isAllRightMended : MethodName := ⟨RX8, "isAllRightMended", "(IIII)Z"⟩
abbrev cX8_slackChances : ByteArray := prog_1_method_45_code
def yX8_slackChances : MethodName := ⟨RX8, "slackChances", "(II)I"⟩
abbrev cX8_slackShare : ByteArray := prog_1_method_46_code
def yX8_slackShare : MethodName := ⟨RX8, "slackShare", "(III)I"⟩
abbrev cX8_lowestTerms : ByteArray := prog_1_method_47_code
def yX8_lowestTerms : MethodName := ⟨RX8, "lowestTerms", "(II)I"⟩
abbrev cX8_commonDivisor : ByteArray := prog_1_method_48_code
def yX8_commonDivisor : MethodName := ⟨RX8, "commonDivisor", "(II)I"⟩
abbrev cX8_drawOf : ByteArray := prog_1_method_49_code
def yX8_drawOf : MethodName := ⟨RX8, "drawOf", "(II)I"⟩
abbrev cX8_doDrawn : ByteArray := prog_1_method_50_code
def yX8_doDrawn : MethodName := ⟨RX8, "doDrawn", "(II)V"⟩
def RX9 : String := "LetterNeedlesModel"
def TX9 : u_T := fun k => match k with
  | 0 => ("LetterNeedlesModel", "text", "[I", true)
  | 1 => ("LetterNeedlesModel", "length", "I", false)
  | 2 => ("LetterNeedlesModel", "given", "[I", true)
  | 3 => ("LetterNeedlesModel", "messages", "I", false)
  | 4 => ("LetterNeedlesModel", "sizes", "[I", true)
  | 5 => ("LetterNeedlesModel", "spelt", "[I", true)
  | 6 => ("LetterNeedlesModel", "st", "[I", true)
  | 7 => ("LetterNeedlesModel", "now", "[I", true)
  | 8 => ("LetterNeedlesModel", "book", "[I", true)
  | 9 => ("LetterNeedlesModel", "undos", "I", false)
  | 10 => ("LetterNeedlesModel", "kept", "[I", true)
  | 11 => ("LetterNeedlesModel", "keeps", "I", false)
  | 12 => ("LetterNeedlesModel", "seen", "[I", true)
  | 13 => ("LetterNeedlesModel", "seenMany", "I", false)
  | 14 => ("LetterNeedlesModel", "heard", "[I", true)
  | 15 => ("LetterNeedlesModel", "heardMany", "I", false)
  | 16 => ("LetterNeedlesModel", "place", "I", false)
  | 17 => ("LetterNeedlesModel", "isWrong", "Z", false)
  | 18 => ("LetterNeedlesModel", "readMany", "I", false)
  | 19 => ("LetterNeedlesModel", "read", "[I", true)
  | 20 => ("LetterNeedlesModel", "readSizes", "[I", true)
  | 21 => ("LetterNeedlesModel", "readSpelt", "[I", true)
  | 22 => ("LetterNeedlesModel", "bears", "[I", true)
  | 23 => ("LetterNeedlesModel", "gets", "[I", true)
  | 24 => ("LetterNeedlesModel", "reads", "[I", true)
  | 25 => ("LetterNeedlesModel", "rank", "[I", true)
  | 26 => ("LetterNeedlesModel", "bestRank", "[I", true)
  | 27 => ("LetterNeedlesModel", "parts", "[I", true)
  | _ => ("LetterNeedlesModel", "worth", "[I", true)
def tyX9 : Nat → FieldType := fun k => match k with
  | 0 => .array .int
  | 1 => .int
  | 2 => .array .int
  | 3 => .int
  | 4 => .array .int
  | 5 => .array .int
  | 6 => .array .int
  | 7 => .array .int
  | 8 => .array .int
  | 9 => .int
  | 10 => .array .int
  | 11 => .int
  | 12 => .array .int
  | 13 => .int
  | 14 => .array .int
  | 15 => .int
  | 16 => .int
  | 17 => .boolean
  | 18 => .int
  | 19 => .array .int
  | 20 => .array .int
  | 21 => .array .int
  | 22 => .array .int
  | 23 => .array .int
  | 24 => .array .int
  | 25 => .array .int
  | 26 => .array .int
  | 27 => .array .int
  | _ => .array .int
abbrev wsX90 : List Cond := u_ws RX9 TX9 29
theorem nmX9 : ∀ a, a < 29 → ∀ b, b < 29 → a ≠ b → (TX9 a).2.1 ≠ (TX9 b).2.1 := by decide +kernel
theorem tyX9_ok : ∀ k, k < 29 → parseFieldDescriptor (TX9 k).2.2.1 = some (tyX9 k) := by decide +kernel
abbrev cX9_init : ByteArray := prog_11_method_1_code
def yX9_init : MethodName := ⟨RX9, "<init>", "()V"⟩
abbrev cX9_in : ByteArray := prog_11_method_3_code
def yX9_in : MethodName := ⟨RX9, "in", "(III)Z"⟩
abbrev cX9_bits : ByteArray := prog_11_method_4_code
def yX9_bits : MethodName := ⟨RX9, "bits", "(I)I"⟩
abbrev cX9_bring : ByteArray := prog_11_method_5_code
def yX9_bring : MethodName := ⟨RX9, "bring", "([II[III)V"⟩
abbrev cX9_tells : ByteArray := prog_11_method_6_code
def yX9_tells : MethodName := ⟨RX9, "tells", "(JI)V"⟩
abbrev cX9_isMessage : ByteArray := prog_11_method_7_code
def yX9_isMessage : MethodName := ⟨RX9, "isMessage", "(I)Z"⟩
abbrev cX9_isPlace : ByteArray := prog_11_method_8_code
def yX9_isPlace : MethodName := ⟨RX9, "isPlace", "(I)Z"⟩
abbrev cX9_here : ByteArray := prog_11_method_9_code
def yX9_here : MethodName := ⟨RX9, "here", "()I"⟩
abbrev cX9_figure : ByteArray := prog_11_method_10_code
def yX9_figure : MethodName := ⟨RX9, "figure", "(I)I"⟩
abbrev cX9_sign : ByteArray := prog_11_method_11_code
def yX9_sign : MethodName := ⟨RX9, "sign", "(I)V"⟩
abbrev cX9_signOf : ByteArray := prog_11_method_12_code
def yX9_signOf : MethodName := ⟨RX9, "signOf", "(I)I"⟩
abbrev cX9_readMessage : ByteArray := prog_11_method_13_code
def yX9_readMessage : MethodName := ⟨RX9, "readMessage", "()V"⟩
abbrev cX9_readItem : ByteArray := prog_11_method_14_code
def yX9_readItem : MethodName := ⟨RX9, "readItem", "()V"⟩
abbrev cX9_reading : ByteArray := prog_11_method_15_code
def yX9_reading : MethodName := ⟨RX9, "reading", "()I"⟩
abbrev cX9_write : ByteArray := prog_11_method_16_code
def yX9_write : MethodName := ⟨RX9, "write", "(I)I"⟩
abbrev cX9_wipe : ByteArray := prog_11_method_17_code
def yX9_wipe : MethodName := ⟨RX9, "wipe", "()I"⟩
abbrev cX9_fault : ByteArray := prog_11_method_18_code
def yX9_fault : MethodName := ⟨RX9, "fault", "()I"⟩
abbrev cX9_lay : ByteArray := prog_11_method_19_code
def yX9_lay : MethodName := ⟨RX9, "lay", "()I"⟩
abbrev cX9_needle : ByteArray := prog_11_method_20_code
def yX9_needle : MethodName := ⟨RX9, "needle", "(II)I"⟩
abbrev cX9_wire : ByteArray := prog_11_method_21_code
def yX9_wire : MethodName := ⟨RX9, "wire", "(II)I"⟩
abbrev cX9_spelt : ByteArray := prog_11_method_22_code
def yX9_spelt : MethodName := ⟨RX9, "spelt", "(II)I"⟩
abbrev cX9_other : ByteArray := prog_11_method_23_code
def yX9_other : MethodName := ⟨RX9, "other", "(I)I"⟩
abbrev cX9_carries : ByteArray := prog_11_method_24_code
def yX9_carries : MethodName := ⟨RX9, "carries", "([II)V"⟩
abbrev cX9_stiff : ByteArray := prog_11_method_25_code
def yX9_stiff : MethodName := ⟨RX9, "stiff", "([II)I"⟩
abbrev cX9_stands : ByteArray := prog_11_method_26_code
def yX9_stands : MethodName := ⟨RX9, "stands", "([II)I"⟩
abbrev cX9_beat : ByteArray := prog_11_method_27_code
def yX9_beat : MethodName := ⟨RX9, "beat", "([II)V"⟩
abbrev cX9_isSign : ByteArray := prog_11_method_28_code
def yX9_isSign : MethodName := ⟨RX9, "isSign", "([II)Z"⟩
abbrev cX9_readOf : ByteArray := prog_11_method_29_code
def yX9_readOf : MethodName := ⟨RX9, "readOf", "([I)I"⟩
abbrev cX9_notes : ByteArray := prog_11_method_30_code
def yX9_notes : MethodName := ⟨RX9, "notes", "()V"⟩
abbrev cX9_sum : ByteArray := prog_11_method_31_code
def yX9_sum : MethodName := ⟨RX9, "sum", "([III)I"⟩
abbrev cX9_send : ByteArray := prog_11_method_32_code
def yX9_send : MethodName := ⟨RX9, "send", "(I)I"⟩
abbrev cX9_cut : ByteArray := prog_11_method_33_code
def yX9_cut : MethodName := ⟨RX9, "cut", "(I)I"⟩
abbrev cX9_turn : ByteArray := prog_11_method_34_code
def yX9_turn : MethodName := ⟨RX9, "turn", "(I)I"⟩
abbrev cX9_touch : ByteArray := prog_11_method_35_code
def yX9_touch : MethodName := ⟨RX9, "touch", "(I)I"⟩
abbrev cX9_touches : ByteArray := prog_11_method_36_code
def yX9_touches : MethodName := ⟨RX9, "touches", "([II)Z"⟩
abbrev cX9_mayMend : ByteArray := prog_11_method_37_code
def yX9_mayMend : MethodName := ⟨RX9, "mayMend", "([II)Z"⟩
abbrev cX9_mends : ByteArray := prog_11_method_38_code
def yX9_mends : MethodName := ⟨RX9, "mends", "([II)V"⟩
abbrev cX9_mend : ByteArray := prog_11_method_39_code
def yX9_mend : MethodName := ⟨RX9, "mend", "(I)I"⟩
abbrev cX9_changes : ByteArray := prog_11_method_40_code
def yX9_changes : MethodName := ⟨RX9, "changes", "([III)V"⟩
abbrev cX9_change : ByteArray := prog_11_method_41_code
def yX9_change : MethodName := ⟨RX9, "change", "(II)I"⟩
abbrev cX9_undo : ByteArray := prog_11_method_42_code
def yX9_undo : MethodName := ⟨RX9, "undo", "()I"⟩
abbrev cX9_reads : ByteArray := prog_11_method_43_code
def yX9_reads : MethodName := ⟨RX9, "reads", "()I"⟩
abbrev cX9_asItIs : ByteArray := prog_11_method_44_code
def yX9_asItIs : MethodName := ⟨RX9, "asItIs", "()V"⟩
abbrev cX9_rests : ByteArray := prog_11_method_45_code
def yX9_rests : MethodName := ⟨RX9, "rests", "()V"⟩
abbrev cX9_says : ByteArray := prog_11_method_46_code
def yX9_says : MethodName := ⟨RX9, "says", "(III)I"⟩
abbrev cX9_isPace : ByteArray := prog_11_method_47_code
def yX9_isPace : MethodName := ⟨RX9, "isPace", "(II)Z"⟩
abbrev cX9_said : ByteArray := prog_11_method_48_code
def yX9_said : MethodName := ⟨RX9, "said", "(IIII)I"⟩
abbrev cX9_pace : ByteArray := prog_11_method_49_code
def yX9_pace : MethodName := ⟨RX9, "pace", "(II)I"⟩
abbrev cX9_sent : ByteArray := prog_11_method_50_code
def yX9_sent : MethodName := ⟨RX9, "sent", "(II)I"⟩
abbrev cX9_clearOf : ByteArray := prog_11_method_51_code
def yX9_clearOf : MethodName := ⟨RX9, "clearOf", "(II)I"⟩
abbrev cX9_clear : ByteArray := prog_11_method_52_code
def yX9_clear : MethodName := ⟨RX9, "clear", "(I)I"⟩
abbrev cX9_like : ByteArray := prog_11_method_53_code
def yX9_like : MethodName := ⟨RX9, "like", "(I)I"⟩
abbrev cX9_mending : ByteArray := prog_11_method_54_code
def yX9_mending : MethodName := ⟨RX9, "mending", "(III)I"⟩
abbrev cX9_changing : ByteArray := prog_11_method_55_code
def yX9_changing : MethodName := ⟨RX9, "changing", "(IIII)I"⟩
abbrev cX9_nextOrder : ByteArray := prog_11_method_56_code
def yX9_nextOrder : MethodName := ⟨RX9, "nextOrder", "()Z"⟩
abbrev cX9_order : ByteArray := prog_11_method_57_code
def yX9_order : MethodName := ⟨RX9, "order", "(II)I"⟩
abbrev cX9_readBy : ByteArray := prog_11_method_58_code
def yX9_readBy : MethodName := ⟨RX9, "readBy", "(II)I"⟩
abbrev cX9_see : ByteArray := prog_11_method_59_code
def yX9_see : MethodName := ⟨RX9, "see", "(II)I"⟩
abbrev cX9_canBe : ByteArray := prog_11_method_60_code
def yX9_canBe : MethodName := ⟨RX9, "canBe", "()I"⟩
abbrev cX9_greatest : ByteArray := prog_11_method_61_code
def yX9_greatest : MethodName := ⟨RX9, "greatest", "(II)I"⟩
abbrev cX9_tries : ByteArray := prog_11_method_62_code
def yX9_tries : MethodName := ⟨RX9, "tries", "(I)I"⟩
abbrev cX9_hear : ByteArray := prog_11_method_63_code
def yX9_hear : MethodName := ⟨RX9, "hear", "(I)I"⟩
abbrev cX9_fits : ByteArray := prog_11_method_64_code
def yX9_fits : MethodName := ⟨RX9, "fits", "()I"⟩
abbrev cX9_forget : ByteArray := prog_11_method_65_code
def yX9_forget : MethodName := ⟨RX9, "forget", "(I)I"⟩
abbrev cX9_worthOf : ByteArray := prog_11_method_66_code
def yX9_worthOf : MethodName := ⟨RX9, "worthOf", "(III)I"⟩
abbrev cX9_chosen : ByteArray := prog_11_method_67_code
def yX9_chosen : MethodName := ⟨RX9, "chosen", "(IZ)I"⟩
abbrev cX9_duel : ByteArray := prog_11_method_68_code
def yX9_duel : MethodName := ⟨RX9, "duel", "(II)I"⟩
abbrev cX9_divisor : ByteArray := prog_11_method_69_code
def yX9_divisor : MethodName := ⟨RX9, "divisor", "(II)I"⟩
abbrev cX9_likely : ByteArray := prog_11_method_70_code
def yX9_likely : MethodName := ⟨RX9, "likely", "(II)I"⟩
abbrev cX9_part : ByteArray := prog_11_method_71_code
def yX9_part : MethodName := ⟨RX9, "part", "(II)I"⟩
abbrev cX9_odds : ByteArray := prog_11_method_72_code
def yX9_odds : MethodName := ⟨RX9, "odds", "(III)I"⟩
abbrev cX9_mean : ByteArray := prog_11_method_73_code
def yX9_mean : MethodName := ⟨RX9, "mean", "(III)I"⟩
abbrev cX9_draw : ByteArray := prog_11_method_74_code
def yX9_draw : MethodName := ⟨RX9, "draw", "(II)I"⟩
abbrev cX9_day : ByteArray := prog_11_method_75_code
def yX9_day : MethodName := ⟨RX9, "day", "(III)I"⟩
abbrev cX9_keep : ByteArray := prog_11_method_76_code
def yX9_keep : MethodName := ⟨RX9, "keep", "()I"⟩
abbrev cX9_back : ByteArray := prog_11_method_77_code
def yX9_back : MethodName := ⟨RX9, "back", "()I"⟩
abbrev cX9_notUpright : ByteArray := prog_11_method_78_code
def yX9_notUpright : MethodName := ⟨RX9, "notUpright", "()I"⟩
abbrev cX9_count : ByteArray := prog_11_method_79_code
def yX9_count : MethodName := ⟨RX9, "count", "(I)I"⟩
def RJ6 : String := "java/lang/Integer"
def TJ6 : u_T := fun k => match k with
  | _ => ("", "", "", false)
def tyJ6 : Nat → FieldType := fun k => match k with
  | _ => .int
abbrev wsJ60 : List Cond := u_ws RJ6 TJ6 0
theorem nmJ6 : ∀ a, a < 0 → ∀ b, b < 0 → a ≠ b → (TJ6 a).2.1 ≠ (TJ6 b).2.1 := by decide +kernel
theorem tyJ6_ok : ∀ k, k < 0 → parseFieldDescriptor (TJ6 k).2.2.1 = some (tyJ6 k) := by decide +kernel
abbrev cJ6_bitCount_0f7a4 : ByteArray := prog_12_method_49_code
def yJ6_bitCount_0f7a4 : MethodName := ⟨RJ6, "bitCount", "(I)I"⟩
def RJ9 : String := "java/lang/Math"
def TJ9 : u_T := fun k => match k with
  | _ => ("", "", "", false)
def tyJ9 : Nat → FieldType := fun k => match k with
  | _ => .int
abbrev wsJ90 : List Cond := u_ws RJ9 TJ9 0
theorem nmJ9 : ∀ a, a < 0 → ∀ b, b < 0 → a ≠ b → (TJ9 a).2.1 ≠ (TJ9 b).2.1 := by decide +kernel
theorem tyJ9_ok : ∀ k, k < 0 → parseFieldDescriptor (TJ9 k).2.2.1 = some (tyJ9 k) := by decide +kernel
abbrev cJ9_max_7cf53 : ByteArray := prog_13_method_65_code
def yJ9_max_7cf53 : MethodName := ⟨RJ9, "max", "(II)I"⟩
abbrev cJ9_min_7cf53 : ByteArray := prog_13_method_69_code
def yJ9_min_7cf53 : MethodName := ⟨RJ9, "min", "(II)I"⟩
def RJ0 : String := "java/lang/String"
def TJ0 : u_T := fun k => match k with
  | _ => ("", "", "", false)
def tyJ0 : Nat → FieldType := fun k => match k with
  | _ => .int
abbrev wsJ00 : List Cond := u_ws RJ0 TJ0 0
theorem nmJ0 : ∀ a, a < 0 → ∀ b, b < 0 → a ≠ b → (TJ0 a).2.1 ≠ (TJ0 b).2.1 := by decide +kernel
theorem tyJ0_ok : ∀ k, k < 0 → parseFieldDescriptor (TJ0 k).2.2.1 = some (tyJ0 k) := by decide +kernel
abbrev cJ0_length_8abf5 : ByteArray := prog_14_method_54_code
def yJ0_length_8abf5 : MethodName := ⟨RJ0, "length", "()I"⟩
abbrev cJ0_charAt_5068e : ByteArray := prog_14_method_56_code
def yJ0_charAt_5068e : MethodName := ⟨RJ0, "charAt", "(I)C"⟩
abbrev cJ0_coder_7d493 : ByteArray := prog_14_method_152_code
def yJ0_coder_7d493 : MethodName := ⟨RJ0, "coder", "()B"⟩
abbrev cJ0_isLatin1_aae02 : ByteArray := prog_14_method_154_code
def yJ0_isLatin1_aae02 : MethodName := ⟨RJ0, "isLatin1", "()Z"⟩
abbrev cJ0_checkIndex_df160 : ByteArray := prog_14_method_155_code
def yJ0_checkIndex_df160 : MethodName := ⟨RJ0, "checkIndex", "(II)V"⟩
def RJ1 : String := "java/lang/StringLatin1"
def TJ1 : u_T := fun k => match k with
  | _ => ("", "", "", false)
def tyJ1 : Nat → FieldType := fun k => match k with
  | _ => .int
abbrev wsJ10 : List Cond := u_ws RJ1 TJ1 0
theorem nmJ1 : ∀ a, a < 0 → ∀ b, b < 0 → a ≠ b → (TJ1 a).2.1 ≠ (TJ1 b).2.1 := by decide +kernel
theorem tyJ1_ok : ∀ k, k < 0 → parseFieldDescriptor (TJ1 k).2.2.1 = some (tyJ1 k) := by decide +kernel
abbrev cJ1_charAt_3b067 : ByteArray := prog_15_method_2_code
def yJ1_charAt_3b067 : MethodName := ⟨RJ1, "charAt", "([BI)C"⟩
def RJ2 : String := "java/lang/StringUTF16"
def TJ2 : u_T := fun k => match k with
  | _ => ("", "", "", false)
def tyJ2 : Nat → FieldType := fun k => match k with
  | _ => .int
abbrev wsJ20 : List Cond := u_ws RJ2 TJ2 0
theorem nmJ2 : ∀ a, a < 0 → ∀ b, b < 0 → a ≠ b → (TJ2 a).2.1 ≠ (TJ2 b).2.1 := by decide +kernel
theorem tyJ2_ok : ∀ k, k < 0 → parseFieldDescriptor (TJ2 k).2.2.1 = some (tyJ2 k) := by decide +kernel
abbrev cJ2_getChar_3b067 : ByteArray := prog_16_method_5_code
def yJ2_getChar_3b067 : MethodName := ⟨RJ2, "getChar", "([BI)C"⟩
abbrev cJ2_length_9d52b : ByteArray := prog_16_method_6_code
def yJ2_length_9d52b : MethodName := ⟨RJ2, "length", "([B)I"⟩
abbrev cJ2_charAt_3b067 : ByteArray := prog_16_method_83_code
def yJ2_charAt_3b067 : MethodName := ⟨RJ2, "charAt", "([BI)C"⟩
abbrev cJ2_checkIndex_2214a : ByteArray := prog_16_method_91_code
def yJ2_checkIndex_2214a : MethodName := ⟨RJ2, "checkIndex", "(I[B)V"⟩
def RJ7 : String := "java/util/Arrays"
def TJ7 : u_T := fun k => match k with
  | _ => ("", "", "", false)
def tyJ7 : Nat → FieldType := fun k => match k with
  | _ => .int
abbrev wsJ70 : List Cond := u_ws RJ7 TJ7 0
theorem nmJ7 : ∀ a, a < 0 → ∀ b, b < 0 → a ≠ b → (TJ7 a).2.1 ≠ (TJ7 b).2.1 := by decide +kernel
theorem tyJ7_ok : ∀ k, k < 0 → parseFieldDescriptor (TJ7 k).2.2.1 = some (tyJ7 k) := by decide +kernel
abbrev cJ7_fill_53178 : ByteArray := prog_17_method_103_code
def yJ7_fill_53178 : MethodName := ⟨RJ7, "fill", "([II)V"⟩
def RJ3 : String := "jdk/internal/util/Preconditions"
def TJ3 : u_T := fun k => match k with
  | _ => ("", "", "", false)
def tyJ3 : Nat → FieldType := fun k => match k with
  | _ => .int
abbrev wsJ30 : List Cond := u_ws RJ3 TJ3 0
theorem nmJ3 : ∀ a, a < 0 → ∀ b, b < 0 → a ≠ b → (TJ3 a).2.1 ≠ (TJ3 b).2.1 := by decide +kernel
theorem tyJ3_ok : ∀ k, k < 0 → parseFieldDescriptor (TJ3 k).2.2.1 = some (tyJ3 k) := by decide +kernel
abbrev cJ3_checkIndex_8e157 : ByteArray := prog_18_method_11_code
def yJ3_checkIndex_8e157 : MethodName := ⟨RJ3, "checkIndex", "(IILjava/util/function/BiFunction;)I"⟩
def RL : String := "LetterNeedlesLaw"
abbrev cL_law : ByteArray := code
def yL_law : MethodName := ⟨RL, "law", "([I)Z"⟩
abbrev vwCl : List vw_C := [(RX0, TX0, 4), (RX1, TX1, 4), (RX2, TX2, 2), (RX3, TX3, 7), (RX4, TX4, 3), (RX5, TX5, 5), (RX6, TX6, 2), (RX7, TX7, 6), (RX8, TX8, 9), (RX9, TX9, 29)]
