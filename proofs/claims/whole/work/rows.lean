section
-- ===== PART A: goes FIRST, ahead of the names: the tables' words, and 'selects' of the private methods out of them =====
/-- a private method of a class that the tables say can be made, by its rows of tables_1 -/
def lw_okq (q : MethodName × Nat) : Prop := (q.1.cls ≠ "java/lang/invoke/MethodHandle" ∧ q.1.cls ≠ "java/lang/invoke/VarHandle") ∧ Cond.instantiable q.1.cls q.2 ∈ tables_1 ∧ Cond.privateMethod q.1 ∈ tables_1 ∧ Cond.instanceMethod q.1 ∈ tables_1
theorem lw_p0 : lw_okq (⟨"OneEye$Reader", "endOfRun", "(II)I"⟩, 10) := ⟨⟨by decide +kernel, by decide +kernel⟩, List.mem_of_getElem? (i := 271) (by decide +kernel), List.mem_of_getElem? (i := 458) (by decide +kernel), List.mem_of_getElem? (i := 459) (by decide +kernel)⟩
theorem lw_p1 : lw_okq (⟨"OneEye$Reader", "signAt", "(I)I"⟩, 10) := ⟨⟨by decide +kernel, by decide +kernel⟩, List.mem_of_getElem? (i := 271) (by decide +kernel), List.mem_of_getElem? (i := 462) (by decide +kernel), List.mem_of_getElem? (i := 463) (by decide +kernel)⟩
theorem lw_p2 : lw_okq (⟨"OneEye$Reader", "takeToken", "(III)V"⟩, 10) := ⟨⟨by decide +kernel, by decide +kernel⟩, List.mem_of_getElem? (i := 271) (by decide +kernel), List.mem_of_getElem? (i := 469) (by decide +kernel), List.mem_of_getElem? (i := 470) (by decide +kernel)⟩
theorem lw_p3 : lw_okq (⟨"OneEye$Reader", "wordAt", "(II)I"⟩, 10) := ⟨⟨by decide +kernel, by decide +kernel⟩, List.mem_of_getElem? (i := 271) (by decide +kernel), List.mem_of_getElem? (i := 473) (by decide +kernel), List.mem_of_getElem? (i := 474) (by decide +kernel)⟩
theorem lw_p4 : lw_okq (⟨"OneEye$Reader", "isWord", "(III)Z"⟩, 10) := ⟨⟨by decide +kernel, by decide +kernel⟩, List.mem_of_getElem? (i := 271) (by decide +kernel), List.mem_of_getElem? (i := 477) (by decide +kernel), List.mem_of_getElem? (i := 478) (by decide +kernel)⟩
theorem lw_p5 : lw_okq (⟨"OneEye$Reader", "keepToken", "(III)V"⟩, 10) := ⟨⟨by decide +kernel, by decide +kernel⟩, List.mem_of_getElem? (i := 271) (by decide +kernel), List.mem_of_getElem? (i := 530) (by decide +kernel), List.mem_of_getElem? (i := 531) (by decide +kernel)⟩
theorem lw_p6 : lw_okq (⟨"OneEye$Reader", "valueAt", "(II)I"⟩, 10) := ⟨⟨by decide +kernel, by decide +kernel⟩, List.mem_of_getElem? (i := 271) (by decide +kernel), List.mem_of_getElem? (i := 534) (by decide +kernel), List.mem_of_getElem? (i := 535) (by decide +kernel)⟩
theorem lw_p7 : lw_okq (⟨"OneEye$Reader", "token", "()I"⟩, 10) := ⟨⟨by decide +kernel, by decide +kernel⟩, List.mem_of_getElem? (i := 271) (by decide +kernel), List.mem_of_getElem? (i := 542) (by decide +kernel), List.mem_of_getElem? (i := 543) (by decide +kernel)⟩
theorem lw_p8 : lw_okq (⟨"OneEye$Reader", "readStep", "(I)V"⟩, 10) := ⟨⟨by decide +kernel, by decide +kernel⟩, List.mem_of_getElem? (i := 271) (by decide +kernel), List.mem_of_getElem? (i := 546) (by decide +kernel), List.mem_of_getElem? (i := 547) (by decide +kernel)⟩
theorem lw_p9 : lw_okq (⟨"OneEye$Reader", "blame", "(I)V"⟩, 10) := ⟨⟨by decide +kernel, by decide +kernel⟩, List.mem_of_getElem? (i := 271) (by decide +kernel), List.mem_of_getElem? (i := 550) (by decide +kernel), List.mem_of_getElem? (i := 551) (by decide +kernel)⟩
theorem lw_p10 : lw_okq (⟨"OneEye$Reader", "expect", "(II)I"⟩, 10) := ⟨⟨by decide +kernel, by decide +kernel⟩, List.mem_of_getElem? (i := 271) (by decide +kernel), List.mem_of_getElem? (i := 554) (by decide +kernel), List.mem_of_getElem? (i := 555) (by decide +kernel)⟩
theorem lw_p11 : lw_okq (⟨"OneEye$Reader", "expectNumber", "(II)I"⟩, 10) := ⟨⟨by decide +kernel, by decide +kernel⟩, List.mem_of_getElem? (i := 271) (by decide +kernel), List.mem_of_getElem? (i := 561) (by decide +kernel), List.mem_of_getElem? (i := 562) (by decide +kernel)⟩
theorem lw_p12 : lw_okq (⟨"OneEye$World", "draw", "(I)I"⟩, 11) := ⟨⟨by decide +kernel, by decide +kernel⟩, List.mem_of_getElem? (i := 31) (by decide +kernel), List.mem_of_getElem? (i := 595) (by decide +kernel), List.mem_of_getElem? (i := 596) (by decide +kernel)⟩
theorem lw_p13 : lw_okq (⟨"OneEye$World", "act", "(IZ)V"⟩, 11) := ⟨⟨by decide +kernel, by decide +kernel⟩, List.mem_of_getElem? (i := 31) (by decide +kernel), List.mem_of_getElem? (i := 601) (by decide +kernel), List.mem_of_getElem? (i := 602) (by decide +kernel)⟩
theorem lw_p14 : lw_okq (⟨"OneEye$World", "begin", "(ILOneEye$Three;IZ)V"⟩, 11) := ⟨⟨by decide +kernel, by decide +kernel⟩, List.mem_of_getElem? (i := 31) (by decide +kernel), List.mem_of_getElem? (i := 606) (by decide +kernel), List.mem_of_getElem? (i := 607) (by decide +kernel)⟩
theorem lw_p15 : lw_okq (⟨"OneEye$World", "give", "(LOneEye$Three;II)V"⟩, 11) := ⟨⟨by decide +kernel, by decide +kernel⟩, List.mem_of_getElem? (i := 31) (by decide +kernel), List.mem_of_getElem? (i := 610) (by decide +kernel), List.mem_of_getElem? (i := 611) (by decide +kernel)⟩
def lw_privs_1 : List (MethodName × Nat) := [(⟨"OneEye$Reader", "endOfRun", "(II)I"⟩, 10), (⟨"OneEye$Reader", "signAt", "(I)I"⟩, 10), (⟨"OneEye$Reader", "takeToken", "(III)V"⟩, 10), (⟨"OneEye$Reader", "wordAt", "(II)I"⟩, 10), (⟨"OneEye$Reader", "isWord", "(III)Z"⟩, 10), (⟨"OneEye$Reader", "keepToken", "(III)V"⟩, 10), (⟨"OneEye$Reader", "valueAt", "(II)I"⟩, 10), (⟨"OneEye$Reader", "token", "()I"⟩, 10), (⟨"OneEye$Reader", "readStep", "(I)V"⟩, 10), (⟨"OneEye$Reader", "blame", "(I)V"⟩, 10), (⟨"OneEye$Reader", "expect", "(II)I"⟩, 10), (⟨"OneEye$Reader", "expectNumber", "(II)I"⟩, 10), (⟨"OneEye$World", "draw", "(I)I"⟩, 11), (⟨"OneEye$World", "act", "(IZ)V"⟩, 11), (⟨"OneEye$World", "begin", "(ILOneEye$Three;IZ)V"⟩, 11), (⟨"OneEye$World", "give", "(LOneEye$Three;II)V"⟩, 11)]
theorem lw_r1 : ∀ q ∈ lw_privs_1, lw_okq q := List.forall_mem_cons.mpr ⟨lw_p0, List.forall_mem_cons.mpr ⟨lw_p1, List.forall_mem_cons.mpr ⟨lw_p2, List.forall_mem_cons.mpr ⟨lw_p3, List.forall_mem_cons.mpr ⟨lw_p4, List.forall_mem_cons.mpr ⟨lw_p5, List.forall_mem_cons.mpr ⟨lw_p6, List.forall_mem_cons.mpr ⟨lw_p7, List.forall_mem_cons.mpr ⟨lw_p8, List.forall_mem_cons.mpr ⟨lw_p9, List.forall_mem_cons.mpr ⟨lw_p10, List.forall_mem_cons.mpr ⟨lw_p11, List.forall_mem_cons.mpr ⟨lw_p12, List.forall_mem_cons.mpr ⟨lw_p13, List.forall_mem_cons.mpr ⟨lw_p14, List.forall_mem_cons.mpr ⟨lw_p15, fun _ h => absurd h List.not_mem_nil⟩⟩⟩⟩⟩⟩⟩⟩⟩⟩⟩⟩⟩⟩⟩⟩
theorem lw_p16 : lw_okq (⟨"OneEye$World", "see", "(ILOneEye$Three;I)V"⟩, 11) := ⟨⟨by decide +kernel, by decide +kernel⟩, List.mem_of_getElem? (i := 31) (by decide +kernel), List.mem_of_getElem? (i := 623) (by decide +kernel), List.mem_of_getElem? (i := 624) (by decide +kernel)⟩
theorem lw_p17 : lw_okq (⟨"OneEye$World", "speak", "(ILOneEye$Three;IIZ)V"⟩, 11) := ⟨⟨by decide +kernel, by decide +kernel⟩, List.mem_of_getElem? (i := 31) (by decide +kernel), List.mem_of_getElem? (i := 636) (by decide +kernel), List.mem_of_getElem? (i := 637) (by decide +kernel)⟩
theorem lw_p18 : lw_okq (⟨"OneEye$World", "workOn", "(LOneEye$Three;)V"⟩, 11) := ⟨⟨by decide +kernel, by decide +kernel⟩, List.mem_of_getElem? (i := 31) (by decide +kernel), List.mem_of_getElem? (i := 656) (by decide +kernel), List.mem_of_getElem? (i := 657) (by decide +kernel)⟩
theorem lw_p19 : lw_okq (⟨"OneEye$World", "finishGiving", "(LOneEye$Three;)V"⟩, 11) := ⟨⟨by decide +kernel, by decide +kernel⟩, List.mem_of_getElem? (i := 31) (by decide +kernel), List.mem_of_getElem? (i := 660) (by decide +kernel), List.mem_of_getElem? (i := 661) (by decide +kernel)⟩
theorem lw_p20 : lw_okq (⟨"OneEye$World", "finishFeeling", "(LOneEye$Three;)V"⟩, 11) := ⟨⟨by decide +kernel, by decide +kernel⟩, List.mem_of_getElem? (i := 31) (by decide +kernel), List.mem_of_getElem? (i := 664) (by decide +kernel), List.mem_of_getElem? (i := 665) (by decide +kernel)⟩
theorem lw_p21 : lw_okq (⟨"OneEye$World", "noisesNow", "()I"⟩, 11) := ⟨⟨by decide +kernel, by decide +kernel⟩, List.mem_of_getElem? (i := 31) (by decide +kernel), List.mem_of_getElem? (i := 672) (by decide +kernel), List.mem_of_getElem? (i := 673) (by decide +kernel)⟩
theorem lw_p22 : lw_okq (⟨"OneEye$World", "endMinute", "(II)V"⟩, 11) := ⟨⟨by decide +kernel, by decide +kernel⟩, List.mem_of_getElem? (i := 31) (by decide +kernel), List.mem_of_getElem? (i := 676) (by decide +kernel), List.mem_of_getElem? (i := 677) (by decide +kernel)⟩
theorem lw_p23 : lw_okq (⟨"OneEye$World", "hearNoises", "(ILOneEye$Three;I)V"⟩, 11) := ⟨⟨by decide +kernel, by decide +kernel⟩, List.mem_of_getElem? (i := 31) (by decide +kernel), List.mem_of_getElem? (i := 680) (by decide +kernel), List.mem_of_getElem? (i := 681) (by decide +kernel)⟩
theorem lw_p24 : lw_okq (⟨"OneEye$Talk", "moveEdge", "()Z"⟩, 3) := ⟨⟨by decide +kernel, by decide +kernel⟩, List.mem_of_getElem? (i := 314) (by decide +kernel), List.mem_of_getElem? (i := 775) (by decide +kernel), List.mem_of_getElem? (i := 776) (by decide +kernel)⟩
theorem lw_p25 : lw_okq (⟨"OneEye$Talk", "handOverFrom", "(I)V"⟩, 3) := ⟨⟨by decide +kernel, by decide +kernel⟩, List.mem_of_getElem? (i := 314) (by decide +kernel), List.mem_of_getElem? (i := 780) (by decide +kernel), List.mem_of_getElem? (i := 781) (by decide +kernel)⟩
theorem lw_p26 : lw_okq (⟨"OneEye$Talk", "sayFrom", "(I)V"⟩, 3) := ⟨⟨by decide +kernel, by decide +kernel⟩, List.mem_of_getElem? (i := 314) (by decide +kernel), List.mem_of_getElem? (i := 784) (by decide +kernel), List.mem_of_getElem? (i := 785) (by decide +kernel)⟩
theorem lw_p27 : lw_okq (⟨"OneEye$Talk", "say", "(III)V"⟩, 3) := ⟨⟨by decide +kernel, by decide +kernel⟩, List.mem_of_getElem? (i := 314) (by decide +kernel), List.mem_of_getElem? (i := 788) (by decide +kernel), List.mem_of_getElem? (i := 789) (by decide +kernel)⟩
theorem lw_p28 : lw_okq (⟨"OneEye$Way", "weigh", "([IIIZI)V"⟩, 3) := ⟨⟨by decide +kernel, by decide +kernel⟩, List.mem_of_getElem? (i := 331) (by decide +kernel), List.mem_of_getElem? (i := 813) (by decide +kernel), List.mem_of_getElem? (i := 814) (by decide +kernel)⟩
theorem lw_p29 : lw_okq (⟨"OneEye$Way", "cheapest", "(III)I"⟩, 3) := ⟨⟨by decide +kernel, by decide +kernel⟩, List.mem_of_getElem? (i := 331) (by decide +kernel), List.mem_of_getElem? (i := 817) (by decide +kernel), List.mem_of_getElem? (i := 818) (by decide +kernel)⟩
theorem lw_p30 : lw_okq (⟨"OneEye$Way", "costFrom", "(IIII)I"⟩, 3) := ⟨⟨by decide +kernel, by decide +kernel⟩, List.mem_of_getElem? (i := 331) (by decide +kernel), List.mem_of_getElem? (i := 821) (by decide +kernel), List.mem_of_getElem? (i := 822) (by decide +kernel)⟩
theorem lw_p31 : lw_okq (⟨"OneEye$Way", "walk", "(II)I"⟩, 3) := ⟨⟨by decide +kernel, by decide +kernel⟩, List.mem_of_getElem? (i := 331) (by decide +kernel), List.mem_of_getElem? (i := 827) (by decide +kernel), List.mem_of_getElem? (i := 828) (by decide +kernel)⟩
def lw_privs_2 : List (MethodName × Nat) := [(⟨"OneEye$World", "see", "(ILOneEye$Three;I)V"⟩, 11), (⟨"OneEye$World", "speak", "(ILOneEye$Three;IIZ)V"⟩, 11), (⟨"OneEye$World", "workOn", "(LOneEye$Three;)V"⟩, 11), (⟨"OneEye$World", "finishGiving", "(LOneEye$Three;)V"⟩, 11), (⟨"OneEye$World", "finishFeeling", "(LOneEye$Three;)V"⟩, 11), (⟨"OneEye$World", "noisesNow", "()I"⟩, 11), (⟨"OneEye$World", "endMinute", "(II)V"⟩, 11), (⟨"OneEye$World", "hearNoises", "(ILOneEye$Three;I)V"⟩, 11), (⟨"OneEye$Talk", "moveEdge", "()Z"⟩, 3), (⟨"OneEye$Talk", "handOverFrom", "(I)V"⟩, 3), (⟨"OneEye$Talk", "sayFrom", "(I)V"⟩, 3), (⟨"OneEye$Talk", "say", "(III)V"⟩, 3), (⟨"OneEye$Way", "weigh", "([IIIZI)V"⟩, 3), (⟨"OneEye$Way", "cheapest", "(III)I"⟩, 3), (⟨"OneEye$Way", "costFrom", "(IIII)I"⟩, 3), (⟨"OneEye$Way", "walk", "(II)I"⟩, 3)]
theorem lw_r2 : ∀ q ∈ lw_privs_2, lw_okq q := List.forall_mem_cons.mpr ⟨lw_p16, List.forall_mem_cons.mpr ⟨lw_p17, List.forall_mem_cons.mpr ⟨lw_p18, List.forall_mem_cons.mpr ⟨lw_p19, List.forall_mem_cons.mpr ⟨lw_p20, List.forall_mem_cons.mpr ⟨lw_p21, List.forall_mem_cons.mpr ⟨lw_p22, List.forall_mem_cons.mpr ⟨lw_p23, List.forall_mem_cons.mpr ⟨lw_p24, List.forall_mem_cons.mpr ⟨lw_p25, List.forall_mem_cons.mpr ⟨lw_p26, List.forall_mem_cons.mpr ⟨lw_p27, List.forall_mem_cons.mpr ⟨lw_p28, List.forall_mem_cons.mpr ⟨lw_p29, List.forall_mem_cons.mpr ⟨lw_p30, List.forall_mem_cons.mpr ⟨lw_p31, fun _ h => absurd h List.not_mem_nil⟩⟩⟩⟩⟩⟩⟩⟩⟩⟩⟩⟩⟩⟩⟩⟩
theorem lw_p32 : lw_okq (⟨"OneEye$Feelers", "worthiestBut", "(I[I[I)I"⟩, 1) := ⟨⟨by decide +kernel, by decide +kernel⟩, List.mem_of_getElem? (i := 349) (by decide +kernel), List.mem_of_getElem? (i := 845) (by decide +kernel), List.mem_of_getElem? (i := 846) (by decide +kernel)⟩
theorem lw_p33 : lw_okq (⟨"OneEye$Feelers", "dealOut", "(III)V"⟩, 1) := ⟨⟨by decide +kernel, by decide +kernel⟩, List.mem_of_getElem? (i := 349) (by decide +kernel), List.mem_of_getElem? (i := 850) (by decide +kernel), List.mem_of_getElem? (i := 851) (by decide +kernel)⟩
theorem lw_p34 : lw_okq (⟨"OneEye$Book", "gatherSayers", "()I"⟩, 8) := ⟨⟨by decide +kernel, by decide +kernel⟩, List.mem_of_getElem? (i := 41) (by decide +kernel), List.mem_of_getElem? (i := 865) (by decide +kernel), List.mem_of_getElem? (i := 866) (by decide +kernel)⟩
theorem lw_p35 : lw_okq (⟨"OneEye$Book", "agreeWithout", "(I)Z"⟩, 8) := ⟨⟨by decide +kernel, by decide +kernel⟩, List.mem_of_getElem? (i := 41) (by decide +kernel), List.mem_of_getElem? (i := 877) (by decide +kernel), List.mem_of_getElem? (i := 878) (by decide +kernel)⟩
theorem lw_p36 : lw_okq (⟨"OneEye$Deal", "deal", "([IIII)V"⟩, 4) := ⟨⟨by decide +kernel, by decide +kernel⟩, List.mem_of_getElem? (i := 359) (by decide +kernel), List.mem_of_getElem? (i := 901) (by decide +kernel), List.mem_of_getElem? (i := 902) (by decide +kernel)⟩
theorem lw_p37 : lw_okq (⟨"OneEye$Deal", "compare", "()V"⟩, 4) := ⟨⟨by decide +kernel, by decide +kernel⟩, List.mem_of_getElem? (i := 359) (by decide +kernel), List.mem_of_getElem? (i := 905) (by decide +kernel), List.mem_of_getElem? (i := 906) (by decide +kernel)⟩
theorem lw_p38 : lw_okq (⟨"OneEye$Tables", "closes", "(I)Z"⟩, 6) := ⟨⟨by decide +kernel, by decide +kernel⟩, List.mem_of_getElem? (i := 74) (by decide +kernel), List.mem_of_getElem? (i := 926) (by decide +kernel), List.mem_of_getElem? (i := 927) (by decide +kernel)⟩
theorem lw_p39 : lw_okq (⟨"OneEye$Tables", "goesRound", "(IIII)Z"⟩, 6) := ⟨⟨by decide +kernel, by decide +kernel⟩, List.mem_of_getElem? (i := 74) (by decide +kernel), List.mem_of_getElem? (i := 932) (by decide +kernel), List.mem_of_getElem? (i := 933) (by decide +kernel)⟩
theorem lw_p40 : lw_okq (⟨"OneEye$Tables", "wouldLend", "(III)Z"⟩, 6) := ⟨⟨by decide +kernel, by decide +kernel⟩, List.mem_of_getElem? (i := 74) (by decide +kernel), List.mem_of_getElem? (i := 936) (by decide +kernel), List.mem_of_getElem? (i := 937) (by decide +kernel)⟩
theorem lw_p41 : lw_okq (⟨"OneEye$Tables", "goesOn", "(III)Z"⟩, 6) := ⟨⟨by decide +kernel, by decide +kernel⟩, List.mem_of_getElem? (i := 74) (by decide +kernel), List.mem_of_getElem? (i := 940) (by decide +kernel), List.mem_of_getElem? (i := 941) (by decide +kernel)⟩
theorem lw_p42 : lw_okq (⟨"OneEyeModel", "isIn", "(III)Z"⟩, 64) := ⟨⟨by decide +kernel, by decide +kernel⟩, List.mem_of_getElem? (i := 977) (by decide +kernel), List.mem_of_getElem? (i := 1186) (by decide +kernel), List.mem_of_getElem? (i := 1187) (by decide +kernel)⟩
theorem lw_p43 : lw_okq (⟨"OneEyeModel", "isFact", "(I)Z"⟩, 64) := ⟨⟨by decide +kernel, by decide +kernel⟩, List.mem_of_getElem? (i := 977) (by decide +kernel), List.mem_of_getElem? (i := 1194) (by decide +kernel), List.mem_of_getElem? (i := 1195) (by decide +kernel)⟩
theorem lw_p44 : lw_okq (⟨"OneEyeModel", "isPerson", "(I)Z"⟩, 64) := ⟨⟨by decide +kernel, by decide +kernel⟩, List.mem_of_getElem? (i := 977) (by decide +kernel), List.mem_of_getElem? (i := 1202) (by decide +kernel), List.mem_of_getElem? (i := 1203) (by decide +kernel)⟩
theorem lw_p45 : lw_okq (⟨"OneEyeModel", "isThree", "(I)Z"⟩, 64) := ⟨⟨by decide +kernel, by decide +kernel⟩, List.mem_of_getElem? (i := 977) (by decide +kernel), List.mem_of_getElem? (i := 1206) (by decide +kernel), List.mem_of_getElem? (i := 1207) (by decide +kernel)⟩
theorem lw_p46 : lw_okq (⟨"OneEyeModel", "puts", "(I)V"⟩, 64) := ⟨⟨by decide +kernel, by decide +kernel⟩, List.mem_of_getElem? (i := 977) (by decide +kernel), List.mem_of_getElem? (i := 1214) (by decide +kernel), List.mem_of_getElem? (i := 1215) (by decide +kernel)⟩
theorem lw_p47 : lw_okq (⟨"OneEyeModel", "reads", "()V"⟩, 64) := ⟨⟨by decide +kernel, by decide +kernel⟩, List.mem_of_getElem? (i := 977) (by decide +kernel), List.mem_of_getElem? (i := 1226) (by decide +kernel), List.mem_of_getElem? (i := 1227) (by decide +kernel)⟩
def lw_privs_3 : List (MethodName × Nat) := [(⟨"OneEye$Feelers", "worthiestBut", "(I[I[I)I"⟩, 1), (⟨"OneEye$Feelers", "dealOut", "(III)V"⟩, 1), (⟨"OneEye$Book", "gatherSayers", "()I"⟩, 8), (⟨"OneEye$Book", "agreeWithout", "(I)Z"⟩, 8), (⟨"OneEye$Deal", "deal", "([IIII)V"⟩, 4), (⟨"OneEye$Deal", "compare", "()V"⟩, 4), (⟨"OneEye$Tables", "closes", "(I)Z"⟩, 6), (⟨"OneEye$Tables", "goesRound", "(IIII)Z"⟩, 6), (⟨"OneEye$Tables", "wouldLend", "(III)Z"⟩, 6), (⟨"OneEye$Tables", "goesOn", "(III)Z"⟩, 6), (⟨"OneEyeModel", "isIn", "(III)Z"⟩, 64), (⟨"OneEyeModel", "isFact", "(I)Z"⟩, 64), (⟨"OneEyeModel", "isPerson", "(I)Z"⟩, 64), (⟨"OneEyeModel", "isThree", "(I)Z"⟩, 64), (⟨"OneEyeModel", "puts", "(I)V"⟩, 64), (⟨"OneEyeModel", "reads", "()V"⟩, 64)]
theorem lw_r3 : ∀ q ∈ lw_privs_3, lw_okq q := List.forall_mem_cons.mpr ⟨lw_p32, List.forall_mem_cons.mpr ⟨lw_p33, List.forall_mem_cons.mpr ⟨lw_p34, List.forall_mem_cons.mpr ⟨lw_p35, List.forall_mem_cons.mpr ⟨lw_p36, List.forall_mem_cons.mpr ⟨lw_p37, List.forall_mem_cons.mpr ⟨lw_p38, List.forall_mem_cons.mpr ⟨lw_p39, List.forall_mem_cons.mpr ⟨lw_p40, List.forall_mem_cons.mpr ⟨lw_p41, List.forall_mem_cons.mpr ⟨lw_p42, List.forall_mem_cons.mpr ⟨lw_p43, List.forall_mem_cons.mpr ⟨lw_p44, List.forall_mem_cons.mpr ⟨lw_p45, List.forall_mem_cons.mpr ⟨lw_p46, List.forall_mem_cons.mpr ⟨lw_p47, fun _ h => absurd h List.not_mem_nil⟩⟩⟩⟩⟩⟩⟩⟩⟩⟩⟩⟩⟩⟩⟩⟩
theorem lw_p48 : lw_okq (⟨"OneEyeModel", "raw", "(I)I"⟩, 64) := ⟨⟨by decide +kernel, by decide +kernel⟩, List.mem_of_getElem? (i := 977) (by decide +kernel), List.mem_of_getElem? (i := 1230) (by decide +kernel), List.mem_of_getElem? (i := 1231) (by decide +kernel)⟩
theorem lw_p49 : lw_okq (⟨"OneEyeModel", "isLetter", "(I)Z"⟩, 64) := ⟨⟨by decide +kernel, by decide +kernel⟩, List.mem_of_getElem? (i := 977) (by decide +kernel), List.mem_of_getElem? (i := 1234) (by decide +kernel), List.mem_of_getElem? (i := 1235) (by decide +kernel)⟩
theorem lw_p50 : lw_okq (⟨"OneEyeModel", "wordOf", "(II)I"⟩, 64) := ⟨⟨by decide +kernel, by decide +kernel⟩, List.mem_of_getElem? (i := 977) (by decide +kernel), List.mem_of_getElem? (i := 1238) (by decide +kernel), List.mem_of_getElem? (i := 1239) (by decide +kernel)⟩
theorem lw_p51 : lw_okq (⟨"OneEyeModel", "isDigit", "(I)Z"⟩, 64) := ⟨⟨by decide +kernel, by decide +kernel⟩, List.mem_of_getElem? (i := 977) (by decide +kernel), List.mem_of_getElem? (i := 1242) (by decide +kernel), List.mem_of_getElem? (i := 1243) (by decide +kernel)⟩
theorem lw_p52 : lw_okq (⟨"OneEyeModel", "readPlan", "()I"⟩, 64) := ⟨⟨by decide +kernel, by decide +kernel⟩, List.mem_of_getElem? (i := 977) (by decide +kernel), List.mem_of_getElem? (i := 1246) (by decide +kernel), List.mem_of_getElem? (i := 1247) (by decide +kernel)⟩
theorem lw_p53 : lw_okq (⟨"OneEyeModel", "errs", "(I)I"⟩, 64) := ⟨⟨by decide +kernel, by decide +kernel⟩, List.mem_of_getElem? (i := 977) (by decide +kernel), List.mem_of_getElem? (i := 1250) (by decide +kernel), List.mem_of_getElem? (i := 1251) (by decide +kernel)⟩
theorem lw_p54 : lw_okq (⟨"OneEyeModel", "readStep", "(II)I"⟩, 64) := ⟨⟨by decide +kernel, by decide +kernel⟩, List.mem_of_getElem? (i := 977) (by decide +kernel), List.mem_of_getElem? (i := 1254) (by decide +kernel), List.mem_of_getElem? (i := 1255) (by decide +kernel)⟩
theorem lw_p55 : lw_okq (⟨"OneEyeModel", "readThing", "()I"⟩, 64) := ⟨⟨by decide +kernel, by decide +kernel⟩, List.mem_of_getElem? (i := 977) (by decide +kernel), List.mem_of_getElem? (i := 1258) (by decide +kernel), List.mem_of_getElem? (i := 1259) (by decide +kernel)⟩
theorem lw_p56 : lw_okq (⟨"OneEyeModel", "readNumber", "(II)I"⟩, 64) := ⟨⟨by decide +kernel, by decide +kernel⟩, List.mem_of_getElem? (i := 977) (by decide +kernel), List.mem_of_getElem? (i := 1262) (by decide +kernel), List.mem_of_getElem? (i := 1263) (by decide +kernel)⟩
theorem lw_p57 : lw_okq (⟨"OneEyeModel", "readTo", "()I"⟩, 64) := ⟨⟨by decide +kernel, by decide +kernel⟩, List.mem_of_getElem? (i := 977) (by decide +kernel), List.mem_of_getElem? (i := 1266) (by decide +kernel), List.mem_of_getElem? (i := 1267) (by decide +kernel)⟩
theorem lw_p58 : lw_okq (⟨"OneEyeModel", "goesBy", "()V"⟩, 64) := ⟨⟨by decide +kernel, by decide +kernel⟩, List.mem_of_getElem? (i := 977) (by decide +kernel), List.mem_of_getElem? (i := 1279) (by decide +kernel), List.mem_of_getElem? (i := 1280) (by decide +kernel)⟩
theorem lw_p59 : lw_okq (⟨"OneEyeModel", "draw", "(I)I"⟩, 64) := ⟨⟨by decide +kernel, by decide +kernel⟩, List.mem_of_getElem? (i := 977) (by decide +kernel), List.mem_of_getElem? (i := 1283) (by decide +kernel), List.mem_of_getElem? (i := 1284) (by decide +kernel)⟩
theorem lw_p60 : lw_okq (⟨"OneEyeModel", "ends", "(I)V"⟩, 64) := ⟨⟨by decide +kernel, by decide +kernel⟩, List.mem_of_getElem? (i := 977) (by decide +kernel), List.mem_of_getElem? (i := 1289) (by decide +kernel), List.mem_of_getElem? (i := 1290) (by decide +kernel)⟩
theorem lw_p61 : lw_okq (⟨"OneEyeModel", "handsOver", "(I)V"⟩, 64) := ⟨⟨by decide +kernel, by decide +kernel⟩, List.mem_of_getElem? (i := 977) (by decide +kernel), List.mem_of_getElem? (i := 1293) (by decide +kernel), List.mem_of_getElem? (i := 1294) (by decide +kernel)⟩
theorem lw_p62 : lw_okq (⟨"OneEyeModel", "feels", "(I)V"⟩, 64) := ⟨⟨by decide +kernel, by decide +kernel⟩, List.mem_of_getElem? (i := 977) (by decide +kernel), List.mem_of_getElem? (i := 1297) (by decide +kernel), List.mem_of_getElem? (i := 1298) (by decide +kernel)⟩
theorem lw_p63 : lw_okq (⟨"OneEyeModel", "thing", "(II)I"⟩, 64) := ⟨⟨by decide +kernel, by decide +kernel⟩, List.mem_of_getElem? (i := 977) (by decide +kernel), List.mem_of_getElem? (i := 1301) (by decide +kernel), List.mem_of_getElem? (i := 1302) (by decide +kernel)⟩
def lw_privs_4 : List (MethodName × Nat) := [(⟨"OneEyeModel", "raw", "(I)I"⟩, 64), (⟨"OneEyeModel", "isLetter", "(I)Z"⟩, 64), (⟨"OneEyeModel", "wordOf", "(II)I"⟩, 64), (⟨"OneEyeModel", "isDigit", "(I)Z"⟩, 64), (⟨"OneEyeModel", "readPlan", "()I"⟩, 64), (⟨"OneEyeModel", "errs", "(I)I"⟩, 64), (⟨"OneEyeModel", "readStep", "(II)I"⟩, 64), (⟨"OneEyeModel", "readThing", "()I"⟩, 64), (⟨"OneEyeModel", "readNumber", "(II)I"⟩, 64), (⟨"OneEyeModel", "readTo", "()I"⟩, 64), (⟨"OneEyeModel", "goesBy", "()V"⟩, 64), (⟨"OneEyeModel", "draw", "(I)I"⟩, 64), (⟨"OneEyeModel", "ends", "(I)V"⟩, 64), (⟨"OneEyeModel", "handsOver", "(I)V"⟩, 64), (⟨"OneEyeModel", "feels", "(I)V"⟩, 64), (⟨"OneEyeModel", "thing", "(II)I"⟩, 64)]
theorem lw_r4 : ∀ q ∈ lw_privs_4, lw_okq q := List.forall_mem_cons.mpr ⟨lw_p48, List.forall_mem_cons.mpr ⟨lw_p49, List.forall_mem_cons.mpr ⟨lw_p50, List.forall_mem_cons.mpr ⟨lw_p51, List.forall_mem_cons.mpr ⟨lw_p52, List.forall_mem_cons.mpr ⟨lw_p53, List.forall_mem_cons.mpr ⟨lw_p54, List.forall_mem_cons.mpr ⟨lw_p55, List.forall_mem_cons.mpr ⟨lw_p56, List.forall_mem_cons.mpr ⟨lw_p57, List.forall_mem_cons.mpr ⟨lw_p58, List.forall_mem_cons.mpr ⟨lw_p59, List.forall_mem_cons.mpr ⟨lw_p60, List.forall_mem_cons.mpr ⟨lw_p61, List.forall_mem_cons.mpr ⟨lw_p62, List.forall_mem_cons.mpr ⟨lw_p63, fun _ h => absurd h List.not_mem_nil⟩⟩⟩⟩⟩⟩⟩⟩⟩⟩⟩⟩⟩⟩⟩⟩
theorem lw_p64 : lw_okq (⟨"OneEyeModel", "begins", "(I)V"⟩, 64) := ⟨⟨by decide +kernel, by decide +kernel⟩, List.mem_of_getElem? (i := 977) (by decide +kernel), List.mem_of_getElem? (i := 1305) (by decide +kernel), List.mem_of_getElem? (i := 1306) (by decide +kernel)⟩
theorem lw_p65 : lw_okq (⟨"OneEyeModel", "sees", "(II)V"⟩, 64) := ⟨⟨by decide +kernel, by decide +kernel⟩, List.mem_of_getElem? (i := 977) (by decide +kernel), List.mem_of_getElem? (i := 1309) (by decide +kernel), List.mem_of_getElem? (i := 1310) (by decide +kernel)⟩
theorem lw_p66 : lw_okq (⟨"OneEyeModel", "holder", "(II)I"⟩, 64) := ⟨⟨by decide +kernel, by decide +kernel⟩, List.mem_of_getElem? (i := 977) (by decide +kernel), List.mem_of_getElem? (i := 1313) (by decide +kernel), List.mem_of_getElem? (i := 1314) (by decide +kernel)⟩
theorem lw_p67 : lw_okq (⟨"OneEyeModel", "says", "(IIIZ)V"⟩, 64) := ⟨⟨by decide +kernel, by decide +kernel⟩, List.mem_of_getElem? (i := 977) (by decide +kernel), List.mem_of_getElem? (i := 1317) (by decide +kernel), List.mem_of_getElem? (i := 1318) (by decide +kernel)⟩
theorem lw_p68 : lw_okq (⟨"OneEyeModel", "sounds", "()V"⟩, 64) := ⟨⟨by decide +kernel, by decide +kernel⟩, List.mem_of_getElem? (i := 977) (by decide +kernel), List.mem_of_getElem? (i := 1321) (by decide +kernel), List.mem_of_getElem? (i := 1322) (by decide +kernel)⟩
theorem lw_p69 : lw_okq (⟨"OneEyeModel", "isThing", "(I)Z"⟩, 64) := ⟨⟨by decide +kernel, by decide +kernel⟩, List.mem_of_getElem? (i := 977) (by decide +kernel), List.mem_of_getElem? (i := 1329) (by decide +kernel), List.mem_of_getElem? (i := 1330) (by decide +kernel)⟩
theorem lw_p70 : lw_okq (⟨"OneEyeModel", "knowersOf", "(II)I"⟩, 64) := ⟨⟨by decide +kernel, by decide +kernel⟩, List.mem_of_getElem? (i := 977) (by decide +kernel), List.mem_of_getElem? (i := 1365) (by decide +kernel), List.mem_of_getElem? (i := 1366) (by decide +kernel)⟩
theorem lw_p71 : lw_okq (⟨"OneEyeModel", "placesOf", "(I)I"⟩, 64) := ⟨⟨by decide +kernel, by decide +kernel⟩, List.mem_of_getElem? (i := 977) (by decide +kernel), List.mem_of_getElem? (i := 1369) (by decide +kernel), List.mem_of_getElem? (i := 1370) (by decide +kernel)⟩
theorem lw_p72 : lw_okq (⟨"OneEyeModel", "memberOf", "(II)I"⟩, 64) := ⟨⟨by decide +kernel, by decide +kernel⟩, List.mem_of_getElem? (i := 977) (by decide +kernel), List.mem_of_getElem? (i := 1373) (by decide +kernel), List.mem_of_getElem? (i := 1374) (by decide +kernel)⟩
theorem lw_p73 : lw_okq (⟨"OneEyeModel", "findsErrand", "(IIII)I"⟩, 64) := ⟨⟨by decide +kernel, by decide +kernel⟩, List.mem_of_getElem? (i := 977) (by decide +kernel), List.mem_of_getElem? (i := 1377) (by decide +kernel), List.mem_of_getElem? (i := 1378) (by decide +kernel)⟩
theorem lw_p74 : lw_okq (⟨"OneEyeModel", "errandFrom", "(III)V"⟩, 64) := ⟨⟨by decide +kernel, by decide +kernel⟩, List.mem_of_getElem? (i := 977) (by decide +kernel), List.mem_of_getElem? (i := 1382) (by decide +kernel), List.mem_of_getElem? (i := 1383) (by decide +kernel)⟩
theorem lw_p75 : lw_okq (⟨"OneEyeModel", "movedTo", "(III)I"⟩, 64) := ⟨⟨by decide +kernel, by decide +kernel⟩, List.mem_of_getElem? (i := 977) (by decide +kernel), List.mem_of_getElem? (i := 1386) (by decide +kernel), List.mem_of_getElem? (i := 1387) (by decide +kernel)⟩
theorem lw_p76 : lw_okq (⟨"OneEyeModel", "comes", "(II)V"⟩, 64) := ⟨⟨by decide +kernel, by decide +kernel⟩, List.mem_of_getElem? (i := 977) (by decide +kernel), List.mem_of_getElem? (i := 1390) (by decide +kernel), List.mem_of_getElem? (i := 1391) (by decide +kernel)⟩
theorem lw_p77 : lw_okq (⟨"OneEyeModel", "stateOf", "(III)I"⟩, 64) := ⟨⟨by decide +kernel, by decide +kernel⟩, List.mem_of_getElem? (i := 977) (by decide +kernel), List.mem_of_getElem? (i := 1398) (by decide +kernel), List.mem_of_getElem? (i := 1399) (by decide +kernel)⟩
theorem lw_p78 : lw_okq (⟨"OneEyeModel", "talks", "(II)V"⟩, 64) := ⟨⟨by decide +kernel, by decide +kernel⟩, List.mem_of_getElem? (i := 977) (by decide +kernel), List.mem_of_getElem? (i := 1402) (by decide +kernel), List.mem_of_getElem? (i := 1403) (by decide +kernel)⟩
theorem lw_p79 : lw_okq (⟨"OneEyeModel", "talkFrom", "(I)V"⟩, 64) := ⟨⟨by decide +kernel, by decide +kernel⟩, List.mem_of_getElem? (i := 977) (by decide +kernel), List.mem_of_getElem? (i := 1406) (by decide +kernel), List.mem_of_getElem? (i := 1407) (by decide +kernel)⟩
def lw_privs_5 : List (MethodName × Nat) := [(⟨"OneEyeModel", "begins", "(I)V"⟩, 64), (⟨"OneEyeModel", "sees", "(II)V"⟩, 64), (⟨"OneEyeModel", "holder", "(II)I"⟩, 64), (⟨"OneEyeModel", "says", "(IIIZ)V"⟩, 64), (⟨"OneEyeModel", "sounds", "()V"⟩, 64), (⟨"OneEyeModel", "isThing", "(I)Z"⟩, 64), (⟨"OneEyeModel", "knowersOf", "(II)I"⟩, 64), (⟨"OneEyeModel", "placesOf", "(I)I"⟩, 64), (⟨"OneEyeModel", "memberOf", "(II)I"⟩, 64), (⟨"OneEyeModel", "findsErrand", "(IIII)I"⟩, 64), (⟨"OneEyeModel", "errandFrom", "(III)V"⟩, 64), (⟨"OneEyeModel", "movedTo", "(III)I"⟩, 64), (⟨"OneEyeModel", "comes", "(II)V"⟩, 64), (⟨"OneEyeModel", "stateOf", "(III)I"⟩, 64), (⟨"OneEyeModel", "talks", "(II)V"⟩, 64), (⟨"OneEyeModel", "talkFrom", "(I)V"⟩, 64)]
theorem lw_r5 : ∀ q ∈ lw_privs_5, lw_okq q := List.forall_mem_cons.mpr ⟨lw_p64, List.forall_mem_cons.mpr ⟨lw_p65, List.forall_mem_cons.mpr ⟨lw_p66, List.forall_mem_cons.mpr ⟨lw_p67, List.forall_mem_cons.mpr ⟨lw_p68, List.forall_mem_cons.mpr ⟨lw_p69, List.forall_mem_cons.mpr ⟨lw_p70, List.forall_mem_cons.mpr ⟨lw_p71, List.forall_mem_cons.mpr ⟨lw_p72, List.forall_mem_cons.mpr ⟨lw_p73, List.forall_mem_cons.mpr ⟨lw_p74, List.forall_mem_cons.mpr ⟨lw_p75, List.forall_mem_cons.mpr ⟨lw_p76, List.forall_mem_cons.mpr ⟨lw_p77, List.forall_mem_cons.mpr ⟨lw_p78, List.forall_mem_cons.mpr ⟨lw_p79, fun _ h => absurd h List.not_mem_nil⟩⟩⟩⟩⟩⟩⟩⟩⟩⟩⟩⟩⟩⟩⟩⟩
theorem lw_p80 : lw_okq (⟨"OneEyeModel", "dangerAt", "(II)I"⟩, 64) := ⟨⟨by decide +kernel, by decide +kernel⟩, List.mem_of_getElem? (i := 977) (by decide +kernel), List.mem_of_getElem? (i := 1418) (by decide +kernel), List.mem_of_getElem? (i := 1419) (by decide +kernel)⟩
theorem lw_p81 : lw_okq (⟨"OneEyeModel", "behind", "(III)I"⟩, 64) := ⟨⟨by decide +kernel, by decide +kernel⟩, List.mem_of_getElem? (i := 977) (by decide +kernel), List.mem_of_getElem? (i := 1422) (by decide +kernel), List.mem_of_getElem? (i := 1423) (by decide +kernel)⟩
theorem lw_p82 : lw_okq (⟨"OneEyeModel", "tolls", "(II)I"⟩, 64) := ⟨⟨by decide +kernel, by decide +kernel⟩, List.mem_of_getElem? (i := 977) (by decide +kernel), List.mem_of_getElem? (i := 1426) (by decide +kernel), List.mem_of_getElem? (i := 1427) (by decide +kernel)⟩
theorem lw_p83 : lw_okq (⟨"OneEyeModel", "feltBy", "(I)I"⟩, 64) := ⟨⟨by decide +kernel, by decide +kernel⟩, List.mem_of_getElem? (i := 977) (by decide +kernel), List.mem_of_getElem? (i := 1438) (by decide +kernel), List.mem_of_getElem? (i := 1439) (by decide +kernel)⟩
theorem lw_p84 : lw_okq (⟨"OneEyeModel", "ones", "(I)I"⟩, 64) := ⟨⟨by decide +kernel, by decide +kernel⟩, List.mem_of_getElem? (i := 977) (by decide +kernel), List.mem_of_getElem? (i := 1446) (by decide +kernel), List.mem_of_getElem? (i := 1447) (by decide +kernel)⟩
theorem lw_p85 : lw_okq (⟨"OneEyeModel", "goTogether", "(I)Z"⟩, 64) := ⟨⟨by decide +kernel, by decide +kernel⟩, List.mem_of_getElem? (i := 977) (by decide +kernel), List.mem_of_getElem? (i := 1450) (by decide +kernel), List.mem_of_getElem? (i := 1451) (by decide +kernel)⟩
theorem lw_p86 : lw_okq (⟨"OneEyeModel", "spread", "(I)I"⟩, 64) := ⟨⟨by decide +kernel, by decide +kernel⟩, List.mem_of_getElem? (i := 977) (by decide +kernel), List.mem_of_getElem? (i := 1462) (by decide +kernel), List.mem_of_getElem? (i := 1463) (by decide +kernel)⟩
theorem lw_p87 : lw_okq (⟨"OneEyeModel", "watcher", "(II)I"⟩, 64) := ⟨⟨by decide +kernel, by decide +kernel⟩, List.mem_of_getElem? (i := 977) (by decide +kernel), List.mem_of_getElem? (i := 1466) (by decide +kernel), List.mem_of_getElem? (i := 1467) (by decide +kernel)⟩
theorem lw_p88 : lw_okq (⟨"OneEyeModel", "canRing", "(I)Z"⟩, 64) := ⟨⟨by decide +kernel, by decide +kernel⟩, List.mem_of_getElem? (i := 977) (by decide +kernel), List.mem_of_getElem? (i := 1478) (by decide +kernel), List.mem_of_getElem? (i := 1479) (by decide +kernel)⟩
theorem lw_p89 : lw_okq (⟨"OneEyeModel", "isRing", "(III)Z"⟩, 64) := ⟨⟨by decide +kernel, by decide +kernel⟩, List.mem_of_getElem? (i := 977) (by decide +kernel), List.mem_of_getElem? (i := 1482) (by decide +kernel), List.mem_of_getElem? (i := 1483) (by decide +kernel)⟩
theorem lw_p90 : lw_okq (⟨"OneEyeModel", "grows", "(III)V"⟩, 64) := ⟨⟨by decide +kernel, by decide +kernel⟩, List.mem_of_getElem? (i := 977) (by decide +kernel), List.mem_of_getElem? (i := 1486) (by decide +kernel), List.mem_of_getElem? (i := 1487) (by decide +kernel)⟩
theorem lw_p91 : lw_okq (⟨"OneEyeModel", "kept", "(I)I"⟩, 64) := ⟨⟨by decide +kernel, by decide +kernel⟩, List.mem_of_getElem? (i := 977) (by decide +kernel), List.mem_of_getElem? (i := 1494) (by decide +kernel), List.mem_of_getElem? (i := 1495) (by decide +kernel)⟩
theorem lw_p92 : lw_okq (⟨"OneEyeModel", "keepsThrees", "()V"⟩, 64) := ⟨⟨by decide +kernel, by decide +kernel⟩, List.mem_of_getElem? (i := 977) (by decide +kernel), List.mem_of_getElem? (i := 1498) (by decide +kernel), List.mem_of_getElem? (i := 1499) (by decide +kernel)⟩
theorem lw_p93 : lw_okq (⟨"OneEyeModel", "keepsOthers", "()V"⟩, 64) := ⟨⟨by decide +kernel, by decide +kernel⟩, List.mem_of_getElem? (i := 977) (by decide +kernel), List.mem_of_getElem? (i := 1502) (by decide +kernel), List.mem_of_getElem? (i := 1503) (by decide +kernel)⟩
def lw_privs_6 : List (MethodName × Nat) := [(⟨"OneEyeModel", "dangerAt", "(II)I"⟩, 64), (⟨"OneEyeModel", "behind", "(III)I"⟩, 64), (⟨"OneEyeModel", "tolls", "(II)I"⟩, 64), (⟨"OneEyeModel", "feltBy", "(I)I"⟩, 64), (⟨"OneEyeModel", "ones", "(I)I"⟩, 64), (⟨"OneEyeModel", "goTogether", "(I)Z"⟩, 64), (⟨"OneEyeModel", "spread", "(I)I"⟩, 64), (⟨"OneEyeModel", "watcher", "(II)I"⟩, 64), (⟨"OneEyeModel", "canRing", "(I)Z"⟩, 64), (⟨"OneEyeModel", "isRing", "(III)Z"⟩, 64), (⟨"OneEyeModel", "grows", "(III)V"⟩, 64), (⟨"OneEyeModel", "kept", "(I)I"⟩, 64), (⟨"OneEyeModel", "keepsThrees", "()V"⟩, 64), (⟨"OneEyeModel", "keepsOthers", "()V"⟩, 64)]
theorem lw_r6 : ∀ q ∈ lw_privs_6, lw_okq q := List.forall_mem_cons.mpr ⟨lw_p80, List.forall_mem_cons.mpr ⟨lw_p81, List.forall_mem_cons.mpr ⟨lw_p82, List.forall_mem_cons.mpr ⟨lw_p83, List.forall_mem_cons.mpr ⟨lw_p84, List.forall_mem_cons.mpr ⟨lw_p85, List.forall_mem_cons.mpr ⟨lw_p86, List.forall_mem_cons.mpr ⟨lw_p87, List.forall_mem_cons.mpr ⟨lw_p88, List.forall_mem_cons.mpr ⟨lw_p89, List.forall_mem_cons.mpr ⟨lw_p90, List.forall_mem_cons.mpr ⟨lw_p91, List.forall_mem_cons.mpr ⟨lw_p92, List.forall_mem_cons.mpr ⟨lw_p93, fun _ h => absurd h List.not_mem_nil⟩⟩⟩⟩⟩⟩⟩⟩⟩⟩⟩⟩⟩⟩
def lw_privs : List (MethodName × Nat) := lw_privs_1 ++ (lw_privs_2 ++ (lw_privs_3 ++ (lw_privs_4 ++ (lw_privs_5 ++ (lw_privs_6)))))
def lw_tbl : List Cond := k2_sels lw_privs ++ tables_1
theorem lw_privs_ok : ∀ q ∈ lw_privs, lw_okq q := by
  show ∀ q ∈ lw_privs_1 ++ (lw_privs_2 ++ (lw_privs_3 ++ (lw_privs_4 ++ (lw_privs_5 ++ (lw_privs_6))))), lw_okq q
  exact List.forall_mem_append.mpr ⟨lw_r1, List.forall_mem_append.mpr ⟨lw_r2, List.forall_mem_append.mpr ⟨lw_r3, List.forall_mem_append.mpr ⟨lw_r4, List.forall_mem_append.mpr ⟨lw_r5, lw_r6⟩⟩⟩⟩⟩
end
section
def RX0 : String := "OneEye$Book"
def TX0 : u_T := fun k => match k with
  | 0 => ("OneEye$Book", "sayers", "[I", true)
  | 1 => ("OneEye$Book", "facts", "[I", true)
  | 2 => ("OneEye$Book", "said", "[I", true)
  | 3 => ("OneEye$Book", "hearers", "[I", true)
  | 4 => ("OneEye$Book", "minutes", "[I", true)
  | 5 => ("OneEye$Book", "lines", "I", false)
  | 6 => ("OneEye$Book", "saidSo", "[I", true)
  | _ => ("OneEye$Book", "saidNot", "[I", true)
def tyX0 : Nat → FieldType := fun k => match k with
  | 0 => .array .int
  | 1 => .array .int
  | 2 => .array .int
  | 3 => .array .int
  | 4 => .array .int
  | 5 => .int
  | 6 => .array .int
  | _ => .array .int
theorem nmX0 : ∀ a, a < 8 → ∀ b, b < 8 → a ≠ b → (TX0 a).2.1 ≠ (TX0 b).2.1 := by decide +kernel
theorem tyX0_ok : ∀ k, k < 8 → parseFieldDescriptor (TX0 k).2.2.1 = some (tyX0 k) := by decide +kernel
def RX1 : String := "OneEye$Deal"
def TX1 : u_T := fun k => match k with
  | 0 => ("OneEye$Deal", "best", "[I", true)
  | 1 => ("OneEye$Deal", "spread", "I", false)
  | 2 => ("OneEye$Deal", "tried", "[I", true)
  | _ => ("OneEye$Deal", "loads", "[I", true)
def tyX1 : Nat → FieldType := fun k => match k with
  | 0 => .array .int
  | 1 => .int
  | 2 => .array .int
  | _ => .array .int
theorem nmX1 : ∀ a, a < 4 → ∀ b, b < 4 → a ≠ b → (TX1 a).2.1 ≠ (TX1 b).2.1 := by decide +kernel
theorem tyX1_ok : ∀ k, k < 4 → parseFieldDescriptor (TX1 k).2.2.1 = some (tyX1 k) := by decide +kernel
def RX2 : String := "OneEye$Feelers"
def TX2 : u_T := fun k => match k with
  | _ => ("OneEye$Feelers", "least", "[I", true)
def tyX2 : Nat → FieldType := fun k => match k with
  | _ => .array .int
theorem nmX2 : ∀ a, a < 1 → ∀ b, b < 1 → a ≠ b → (TX2 a).2.1 ≠ (TX2 b).2.1 := by decide +kernel
theorem tyX2_ok : ∀ k, k < 1 → parseFieldDescriptor (TX2 k).2.2.1 = some (tyX2 k) := by decide +kernel
def RX3 : String := "OneEye$Person"
def TX3 : u_T := fun k => match k with
  | 0 => ("OneEye$Person", "known", "[I", true)
  | 1 => ("OneEye$Person", "witness", "[I", true)
  | 2 => ("OneEye$Person", "seenAt", "[I", true)
  | 3 => ("OneEye$Person", "sayings", "[I", true)
  | 4 => ("OneEye$Person", "lies", "[I", true)
  | 5 => ("OneEye$Person", "minutesHeld", "[I", true)
  | 6 => ("OneEye$Person", "noisesHeard", "I", false)
  | _ => ("OneEye$Person", "trusted", "I", false)
def tyX3 : Nat → FieldType := fun k => match k with
  | 0 => .array .int
  | 1 => .array .int
  | 2 => .array .int
  | 3 => .array .int
  | 4 => .array .int
  | 5 => .array .int
  | 6 => .int
  | _ => .int
theorem nmX3 : ∀ a, a < 8 → ∀ b, b < 8 → a ≠ b → (TX3 a).2.1 ≠ (TX3 b).2.1 := by decide +kernel
theorem tyX3_ok : ∀ k, k < 8 → parseFieldDescriptor (TX3 k).2.2.1 = some (tyX3 k) := by decide +kernel
def RX4 : String := "OneEye$Plan"
def TX4 : u_T := fun k => match k with
  | 0 => ("OneEye$Plan", "kinds", "[I", true)
  | 1 => ("OneEye$Plan", "things", "[I", true)
  | 2 => ("OneEye$Plan", "numbers", "[I", true)
  | 3 => ("OneEye$Plan", "hearers", "[I", true)
  | _ => ("OneEye$Plan", "size", "I", false)
def tyX4 : Nat → FieldType := fun k => match k with
  | 0 => .array .int
  | 1 => .array .int
  | 2 => .array .int
  | 3 => .array .int
  | _ => .int
theorem nmX4 : ∀ a, a < 5 → ∀ b, b < 5 → a ≠ b → (TX4 a).2.1 ≠ (TX4 b).2.1 := by decide +kernel
theorem tyX4_ok : ∀ k, k < 5 → parseFieldDescriptor (TX4 k).2.2.1 = some (tyX4 k) := by decide +kernel
def RX5 : String := "OneEye$Reader"
def TX5 : u_T := fun k => match k with
  | 0 => ("OneEye$Reader", "tape", "[I", true)
  | 1 => ("OneEye$Reader", "length", "I", false)
  | 2 => ("OneEye$Reader", "draft", "LOneEye$Plan;", true)
  | 3 => ("OneEye$Reader", "fault", "I", false)
  | 4 => ("OneEye$Reader", "place", "I", false)
  | 5 => ("OneEye$Reader", "tokens", "[I", true)
  | 6 => ("OneEye$Reader", "places", "[I", true)
  | 7 => ("OneEye$Reader", "values", "[I", true)
  | 8 => ("OneEye$Reader", "count", "I", false)
  | _ => ("OneEye$Reader", "current", "I", false)
def tyX5 : Nat → FieldType := fun k => match k with
  | 0 => .array .int
  | 1 => .int
  | 2 => .object "OneEye$Plan"
  | 3 => .int
  | 4 => .int
  | 5 => .array .int
  | 6 => .array .int
  | 7 => .array .int
  | 8 => .int
  | _ => .int
theorem nmX5 : ∀ a, a < 10 → ∀ b, b < 10 → a ≠ b → (TX5 a).2.1 ≠ (TX5 b).2.1 := by decide +kernel
theorem tyX5_ok : ∀ k, k < 10 → parseFieldDescriptor (TX5 k).2.2.1 = some (tyX5 k) := by decide +kernel
def RX6 : String := "OneEye$Tables"
def TX6 : u_T := fun k => match k with
  | 0 => ("OneEye$Tables", "dangers", "[I", true)
  | 1 => ("OneEye$Tables", "weights", "[I", true)
  | 2 => ("OneEye$Tables", "times", "[I", true)
  | 3 => ("OneEye$Tables", "watches", "[I", true)
  | 4 => ("OneEye$Tables", "watchCount", "I", false)
  | _ => ("OneEye$Tables", "lent", "[I", true)
def tyX6 : Nat → FieldType := fun k => match k with
  | 0 => .array .int
  | 1 => .array .int
  | 2 => .array .int
  | 3 => .array .int
  | 4 => .int
  | _ => .array .int
theorem nmX6 : ∀ a, a < 6 → ∀ b, b < 6 → a ≠ b → (TX6 a).2.1 ≠ (TX6 b).2.1 := by decide +kernel
theorem tyX6_ok : ∀ k, k < 6 → parseFieldDescriptor (TX6 k).2.2.1 = some (tyX6 k) := by decide +kernel
def RX7 : String := "OneEye$Talk"
def TX7 : u_T := fun k => match k with
  | 0 => ("OneEye$Talk", "reached", "[J", true)
  | 1 => ("OneEye$Talk", "edge", "[J", true)
  | _ => ("OneEye$Talk", "ahead", "[J", true)
def tyX7 : Nat → FieldType := fun k => match k with
  | 0 => .array .long
  | 1 => .array .long
  | _ => .array .long
theorem nmX7 : ∀ a, a < 3 → ∀ b, b < 3 → a ≠ b → (TX7 a).2.1 ≠ (TX7 b).2.1 := by decide +kernel
theorem tyX7_ok : ∀ k, k < 3 → parseFieldDescriptor (TX7 k).2.2.1 = some (tyX7 k) := by decide +kernel
def RX8 : String := "OneEye$Three"
def TX8 : u_T := fun k => match k with
  | 0 => ("OneEye$Three", "hand", "I", false)
  | 1 => ("OneEye$Three", "drop", "I", false)
  | 2 => ("OneEye$Three", "handed", "I", false)
  | 3 => ("OneEye$Three", "dropped", "I", false)
  | 4 => ("OneEye$Three", "missed", "I", false)
  | 5 => ("OneEye$Three", "places", "[I", true)
  | 6 => ("OneEye$Three", "plan", "LOneEye$Plan;", true)
  | 7 => ("OneEye$Three", "next", "I", false)
  | 8 => ("OneEye$Three", "left", "I", false)
  | 9 => ("OneEye$Three", "doing", "I", false)
  | 10 => ("OneEye$Three", "thing", "I", false)
  | _ => ("OneEye$Three", "target", "I", false)
def tyX8 : Nat → FieldType := fun k => match k with
  | 0 => .int
  | 1 => .int
  | 2 => .int
  | 3 => .int
  | 4 => .int
  | 5 => .array .int
  | 6 => .object "OneEye$Plan"
  | 7 => .int
  | 8 => .int
  | 9 => .int
  | 10 => .int
  | _ => .int
theorem nmX8 : ∀ a, a < 12 → ∀ b, b < 12 → a ≠ b → (TX8 a).2.1 ≠ (TX8 b).2.1 := by decide +kernel
theorem tyX8_ok : ∀ k, k < 12 → parseFieldDescriptor (TX8 k).2.2.1 = some (tyX8 k) := by decide +kernel
def RX9 : String := "OneEye$Way"
def TX9 : u_T := fun k => match k with
  | 0 => ("OneEye$Way", "holders", "[I", true)
  | 1 => ("OneEye$Way", "cost", "I", false)
  | _ => ("OneEye$Way", "toCome", "[I", true)
def tyX9 : Nat → FieldType := fun k => match k with
  | 0 => .array .int
  | 1 => .int
  | _ => .array .int
theorem nmX9 : ∀ a, a < 3 → ∀ b, b < 3 → a ≠ b → (TX9 a).2.1 ≠ (TX9 b).2.1 := by decide +kernel
theorem tyX9_ok : ∀ k, k < 3 → parseFieldDescriptor (TX9 k).2.2.1 = some (tyX9 k) := by decide +kernel
def RX10 : String := "OneEye$World"
def TX10 : u_T := fun k => match k with
  | 0 => ("OneEye$World", "threes", "[LOneEye$Three;", true)
  | 1 => ("OneEye$World", "people", "[LOneEye$Person;", true)
  | 2 => ("OneEye$World", "count", "I", false)
  | 3 => ("OneEye$World", "facts", "[I", true)
  | 4 => ("OneEye$World", "book", "LOneEye$Book;", true)
  | 5 => ("OneEye$World", "tables", "LOneEye$Tables;", true)
  | 6 => ("OneEye$World", "noises", "[I", true)
  | 7 => ("OneEye$World", "noiseCount", "I", false)
  | 8 => ("OneEye$World", "state", "I", false)
  | 9 => ("OneEye$World", "minute", "I", false)
  | _ => ("OneEye$World", "sunset", "I", false)
def tyX10 : Nat → FieldType := fun k => match k with
  | 0 => .array (.object "OneEye$Three")
  | 1 => .array (.object "OneEye$Person")
  | 2 => .int
  | 3 => .array .int
  | 4 => .object "OneEye$Book"
  | 5 => .object "OneEye$Tables"
  | 6 => .array .int
  | 7 => .int
  | 8 => .int
  | 9 => .int
  | _ => .int
theorem nmX10 : ∀ a, a < 11 → ∀ b, b < 11 → a ≠ b → (TX10 a).2.1 ≠ (TX10 b).2.1 := by decide +kernel
theorem tyX10_ok : ∀ k, k < 11 → parseFieldDescriptor (TX10 k).2.2.1 = some (tyX10 k) := by decide +kernel
def RX11 : String := "OneEye"
def TX11 : u_T := fun k => match k with
  | 0 => ("OneEye", "now", "LOneEye$World;", true)
  | 1 => ("OneEye", "kept", "LOneEye$World;", false)
  | 2 => ("OneEye", "reader", "LOneEye$Reader;", true)
  | 3 => ("OneEye", "talk", "LOneEye$Talk;", true)
  | 4 => ("OneEye", "way", "LOneEye$Way;", true)
  | 5 => ("OneEye", "feelers", "LOneEye$Feelers;", true)
  | _ => ("OneEye", "deal", "LOneEye$Deal;", true)
def tyX11 : Nat → FieldType := fun k => match k with
  | 0 => .object "OneEye$World"
  | 1 => .object "OneEye$World"
  | 2 => .object "OneEye$Reader"
  | 3 => .object "OneEye$Talk"
  | 4 => .object "OneEye$Way"
  | 5 => .object "OneEye$Feelers"
  | _ => .object "OneEye$Deal"
theorem nmX11 : ∀ a, a < 7 → ∀ b, b < 7 → a ≠ b → (TX11 a).2.1 ≠ (TX11 b).2.1 := by decide +kernel
theorem tyX11_ok : ∀ k, k < 7 → parseFieldDescriptor (TX11 k).2.2.1 = some (tyX11 k) := by decide +kernel
def RX12 : String := "OneEyeModel"
def TX12 : u_T := fun k => match k with
  | 0 => ("OneEyeModel", "told", "I", false)
  | 1 => ("OneEyeModel", "state", "I", false)
  | 2 => ("OneEyeModel", "threes", "I", false)
  | 3 => ("OneEyeModel", "handOf", "[I", true)
  | 4 => ("OneEyeModel", "dropOf", "[I", true)
  | 5 => ("OneEyeModel", "handed", "[I", true)
  | 6 => ("OneEyeModel", "dropped", "[I", true)
  | 7 => ("OneEyeModel", "whereIs", "[I", true)
  | 8 => ("OneEyeModel", "isSo", "[I", true)
  | 9 => ("OneEyeModel", "known", "[I", true)
  | 10 => ("OneEyeModel", "trusts", "[I", true)
  | 11 => ("OneEyeModel", "heldOf", "[I", true)
  | 12 => ("OneEyeModel", "sawIt", "[I", true)
  | 13 => ("OneEyeModel", "sawAt", "[I", true)
  | 14 => ("OneEyeModel", "sayings", "[I", true)
  | 15 => ("OneEyeModel", "liesIn", "[I", true)
  | 16 => ("OneEyeModel", "minute", "I", false)
  | 17 => ("OneEyeModel", "sunset", "I", false)
  | 18 => ("OneEyeModel", "noises", "I", false)
  | 19 => ("OneEyeModel", "noiseAt", "[I", true)
  | 20 => ("OneEyeModel", "heardOf", "[I", true)
  | 21 => ("OneEyeModel", "missed", "[I", true)
  | 22 => ("OneEyeModel", "lines", "I", false)
  | 23 => ("OneEyeModel", "lineWho", "[I", true)
  | 24 => ("OneEyeModel", "lineFact", "[I", true)
  | 25 => ("OneEyeModel", "lineSo", "[I", true)
  | 26 => ("OneEyeModel", "lineHeard", "[I", true)
  | 27 => ("OneEyeModel", "lineMinute", "[I", true)
  | 28 => ("OneEyeModel", "doing", "[I", true)
  | 29 => ("OneEyeModel", "left", "[I", true)
  | 30 => ("OneEyeModel", "doingWhat", "[I", true)
  | 31 => ("OneEyeModel", "doingTo", "[I", true)
  | 32 => ("OneEyeModel", "words", "[C", true)
  | 33 => ("OneEyeModel", "tape", "[I", true)
  | 34 => ("OneEyeModel", "taped", "I", false)
  | 35 => ("OneEyeModel", "spot", "I", false)
  | 36 => ("OneEyeModel", "from", "I", false)
  | 37 => ("OneEyeModel", "token", "I", false)
  | 38 => ("OneEyeModel", "value", "I", false)
  | 39 => ("OneEyeModel", "readFault", "I", false)
  | 40 => ("OneEyeModel", "readPlace", "I", false)
  | 41 => ("OneEyeModel", "faultKind", "I", false)
  | 42 => ("OneEyeModel", "faultPlace", "I", false)
  | 43 => ("OneEyeModel", "plans", "[I", true)
  | 44 => ("OneEyeModel", "stepMany", "[I", true)
  | 45 => ("OneEyeModel", "stepNext", "[I", true)
  | 46 => ("OneEyeModel", "far", "[I", true)
  | 47 => ("OneEyeModel", "isChanged", "Z", false)
  | 48 => ("OneEyeModel", "heap", "[I", true)
  | 49 => ("OneEyeModel", "heaped", "I", false)
  | 50 => ("OneEyeModel", "dangers", "[I", true)
  | 51 => ("OneEyeModel", "onward", "[I", true)
  | 52 => ("OneEyeModel", "weightOf", "[I", true)
  | 53 => ("OneEyeModel", "timeOf", "[I", true)
  | 54 => ("OneEyeModel", "inLine", "[I", true)
  | 55 => ("OneEyeModel", "watchMany", "I", false)
  | 56 => ("OneEyeModel", "watchOf", "[I", true)
  | 57 => ("OneEyeModel", "sums", "[I", true)
  | 58 => ("OneEyeModel", "lending", "[I", true)
  | 59 => ("OneEyeModel", "rowTo", "[I", true)
  | 60 => ("OneEyeModel", "isTaking", "Z", false)
  | 61 => ("OneEyeModel", "hasImage", "Z", false)
  | 62 => ("OneEyeModel", "keptAt", "I", false)
  | _ => ("OneEyeModel", "images", "[I", true)
def tyX12 : Nat → FieldType := fun k => match k with
  | 0 => .int
  | 1 => .int
  | 2 => .int
  | 3 => .array .int
  | 4 => .array .int
  | 5 => .array .int
  | 6 => .array .int
  | 7 => .array .int
  | 8 => .array .int
  | 9 => .array .int
  | 10 => .array .int
  | 11 => .array .int
  | 12 => .array .int
  | 13 => .array .int
  | 14 => .array .int
  | 15 => .array .int
  | 16 => .int
  | 17 => .int
  | 18 => .int
  | 19 => .array .int
  | 20 => .array .int
  | 21 => .array .int
  | 22 => .int
  | 23 => .array .int
  | 24 => .array .int
  | 25 => .array .int
  | 26 => .array .int
  | 27 => .array .int
  | 28 => .array .int
  | 29 => .array .int
  | 30 => .array .int
  | 31 => .array .int
  | 32 => .array .char
  | 33 => .array .int
  | 34 => .int
  | 35 => .int
  | 36 => .int
  | 37 => .int
  | 38 => .int
  | 39 => .int
  | 40 => .int
  | 41 => .int
  | 42 => .int
  | 43 => .array .int
  | 44 => .array .int
  | 45 => .array .int
  | 46 => .array .int
  | 47 => .boolean
  | 48 => .array .int
  | 49 => .int
  | 50 => .array .int
  | 51 => .array .int
  | 52 => .array .int
  | 53 => .array .int
  | 54 => .array .int
  | 55 => .int
  | 56 => .array .int
  | 57 => .array .int
  | 58 => .array .int
  | 59 => .array .int
  | 60 => .boolean
  | 61 => .boolean
  | 62 => .int
  | _ => .array .int
theorem nmX12 : ∀ a, a < 64 → ∀ b, b < 64 → a ≠ b → (TX12 a).2.1 ≠ (TX12 b).2.1 := by decide +kernel
theorem tyX12_ok : ∀ k, k < 64 → parseFieldDescriptor (TX12 k).2.2.1 = some (tyX12 k) := by decide +kernel
abbrev vwCl : List vw_C := [(RX0, TX0, 8), (RX1, TX1, 4), (RX2, TX2, 1), (RX3, TX3, 8), (RX4, TX4, 5), (RX5, TX5, 10), (RX6, TX6, 6), (RX7, TX7, 3), (RX8, TX8, 12), (RX9, TX9, 3), (RX10, TX10, 11), (RX11, TX11, 7), (RX12, TX12, 64)]
end
section
/-- a method: its class' number, its name, bytes, locals, what it returns, its instructions -/
abbrev ov_M : Type := Nat × MethodName × ByteArray × Nat × Option FieldType × List (Nat × Instr × Nat)
def mq_Book_init_c : List (Nat × Instr × Nat) := [(0, .aload_n 0, 1), (1, .invokespecial 3, 3), (4, .aload_n 0, 1), (5, .bipush 99, 2), (7, .newarray .int, 2), (9, .putfield 9, 3), (12, .aload_n 0, 1), (13, .bipush 99, 2), (15, .newarray .int, 2), (17, .putfield 15, 3), (20, .aload_n 0, 1), (21, .bipush 99, 2), (23, .newarray .int, 2), (25, .putfield 18, 3), (28, .aload_n 0, 1), (29, .bipush 99, 2), (31, .newarray .int, 2), (33, .putfield 21, 3), (36, .aload_n 0, 1), (37, .bipush 99, 2), (39, .newarray .int, 2), (41, .putfield 24, 3), (44, .aload_n 0, 1), (45, .bipush 10, 2), (47, .newarray .int, 2), (49, .putfield 27, 3), (52, .aload_n 0, 1), (53, .bipush 10, 2), (55, .newarray .int, 2), (57, .putfield 30, 3), (60, .return_, 1)]
def mq_Book_init : ov_M := (0, ⟨"OneEye$Book", "<init>", "()V"⟩, prog_2_method_1_code, 1, none, mq_Book_init_c)
def mq_Book_write_c : List (Nat × Instr × Nat) := [(0, .aload_n 0, 1), (1, .getfield 39, 3), (4, .iconst 0, 1), (5, .bipush 98, 2), (7, .invokestatic 43, 3), (10, .ifCond .ne 4, 3), (13, .return_, 1), (14, .aload_n 0, 1), (15, .getfield 9, 3), (18, .aload_n 0, 1), (19, .getfield 39, 3), (22, .iload_n 1, 1), (23, .iastore, 1), (24, .aload_n 0, 1), (25, .getfield 15, 3), (28, .aload_n 0, 1), (29, .getfield 39, 3), (32, .iload_n 2, 1), (33, .iastore, 1), (34, .aload_n 0, 1), (35, .getfield 18, 3), (38, .aload_n 0, 1), (39, .getfield 39, 3), (42, .iload_n 3, 1), (43, .ifCond .eq 7, 3), (46, .iconst 1, 1), (47, .goto 4, 3), (50, .iconst 0, 1), (51, .iastore, 1), (52, .aload_n 0, 1), (53, .getfield 21, 3), (56, .aload_n 0, 1), (57, .getfield 39, 3), (60, .iload 4, 2), (62, .iastore, 1), (63, .aload_n 0, 1), (64, .getfield 24, 3), (67, .aload_n 0, 1), (68, .getfield 39, 3), (71, .iload 5, 2), (73, .iastore, 1), (74, .aload_n 0, 1), (75, .dup, 1), (76, .getfield 39, 3), (79, .iconst 1, 1), (80, .iadd, 1), (81, .putfield 39, 3), (84, .return_, 1)]
def mq_Book_write : ov_M := (0, ⟨"OneEye$Book", "write", "(IIZII)V"⟩, prog_2_method_3_code, 6, none, mq_Book_write_c)
def mq_Book_tell_c : List (Nat × Instr × Nat) := [(0, .iload_n 1, 1), (1, .iconst 0, 1), (2, .aload_n 0, 1), (3, .getfield 39, 3), (6, .iconst 1, 1), (7, .isub, 1), (8, .invokestatic 43, 3), (11, .ifCond .eq 9, 3), (14, .iload_n 1, 1), (15, .bipush 99, 2), (17, .if_icmp .lt 5, 3), (20, .iconst (-1), 1), (21, .ireturn, 1), (22, .iload_n 2, 1), (23, .tableswitch 68 0 4 #[33, 40, 47, 54, 61], 33), (56, .aload_n 0, 1), (57, .getfield 9, 3), (60, .iload_n 1, 1), (61, .iaload, 1), (62, .ireturn, 1), (63, .aload_n 0, 1), (64, .getfield 15, 3), (67, .iload_n 1, 1), (68, .iaload, 1), (69, .ireturn, 1), (70, .aload_n 0, 1), (71, .getfield 18, 3), (74, .iload_n 1, 1), (75, .iaload, 1), (76, .ireturn, 1), (77, .aload_n 0, 1), (78, .getfield 21, 3), (81, .iload_n 1, 1), (82, .iaload, 1), (83, .ireturn, 1), (84, .aload_n 0, 1), (85, .getfield 24, 3), (88, .iload_n 1, 1), (89, .iaload, 1), (90, .ireturn, 1), (91, .iconst (-1), 1), (92, .ireturn, 1)]
def mq_Book_tell : ov_M := (0, ⟨"OneEye$Book", "tell", "(II)I"⟩, prog_2_method_4_code, 3, (some .int), mq_Book_tell_c)
def mq_Book_fewestLiars_c : List (Nat × Instr × Nat) := [(0, .aload_n 0, 1), (1, .invokevirtual 47, 3), (4, .istore_n 1, 1), (5, .iload_n 1, 1), (6, .istore_n 2, 1), (7, .iconst 0, 1), (8, .istore_n 3, 1), (9, .iload_n 3, 1), (10, .sipush 4096, 3), (13, .if_icmp .ge 38, 3), (16, .iload_n 3, 1), (17, .iload_n 1, 1), (18, .iconst (-1), 1), (19, .ixor, 1), (20, .iand, 1), (21, .ifCond .ne 24, 3), (24, .iload_n 3, 1), (25, .invokestatic 51, 3), (28, .iload_n 2, 1), (29, .invokestatic 51, 3), (32, .if_icmp .ge 13, 3), (35, .aload_n 0, 1), (36, .iload_n 3, 1), (37, .invokevirtual 57, 3), (40, .ifCond .eq 5, 3), (43, .iload_n 3, 1), (44, .istore_n 2, 1), (45, .iinc 3 1, 3), (48, .goto (-39), 3), (51, .iload_n 2, 1), (52, .ireturn, 1)]
def mq_Book_fewestLiars : ov_M := (0, ⟨"OneEye$Book", "fewestLiars", "()I"⟩, prog_2_method_5_code, 4, (some .int), mq_Book_fewestLiars_c)
def mq_Book_gatherSayers_c : List (Nat × Instr × Nat) := [(0, .iconst 0, 1), (1, .istore_n 1, 1), (2, .aload_n 0, 1), (3, .getfield 27, 3), (6, .iconst 0, 1), (7, .invokestatic 61, 3), (10, .aload_n 0, 1), (11, .getfield 30, 3), (14, .iconst 0, 1), (15, .invokestatic 61, 3), (18, .iconst 0, 1), (19, .istore_n 2, 1), (20, .iload_n 2, 1), (21, .aload_n 0, 1), (22, .getfield 39, 3), (25, .if_icmp .ge 85, 3), (28, .iload_n 2, 1), (29, .bipush 99, 2), (31, .if_icmp .ge 79, 3), (34, .aload_n 0, 1), (35, .getfield 15, 3), (38, .iload_n 2, 1), (39, .iaload, 1), (40, .istore_n 3, 1), (41, .iload_n 3, 1), (42, .iconst 0, 1), (43, .bipush 9, 2), (45, .invokestatic 43, 3), (48, .ifCond .eq 56, 3), (51, .aload_n 0, 1), (52, .getfield 18, 3), (55, .iload_n 2, 1), (56, .iaload, 1), (57, .iconst 1, 1), (58, .if_icmp .ne 10, 3), (61, .aload_n 0, 1), (62, .getfield 27, 3), (65, .goto 7, 3), (68, .aload_n 0, 1), (69, .getfield 30, 3), (72, .astore 4, 2), (74, .aload 4, 2), (76, .iload_n 3, 1), (77, .aload 4, 2), (79, .iload_n 3, 1), (80, .iaload, 1), (81, .aload_n 0, 1), (82, .getfield 9, 3), (85, .iload_n 2, 1), (86, .iaload, 1), (87, .iconst 1, 1), (88, .invokestatic 67, 3), (91, .iastore, 1), (92, .iload_n 1, 1), (93, .aload_n 0, 1), (94, .getfield 9, 3), (97, .iload_n 2, 1), (98, .iaload, 1), (99, .iconst 1, 1), (100, .invokestatic 67, 3), (103, .istore_n 1, 1), (104, .iinc 2 1, 3), (107, .goto (-87), 3), (110, .iload_n 1, 1), (111, .ireturn, 1)]
def mq_Book_gatherSayers : ov_M := (0, ⟨"OneEye$Book", "gatherSayers", "()I"⟩, prog_2_method_6_code, 5, (some .int), mq_Book_gatherSayers_c)
def mq_Book_agreeWithout_c : List (Nat × Instr × Nat) := [(0, .iconst 0, 1), (1, .istore_n 2, 1), (2, .iload_n 2, 1), (3, .bipush 10, 2), (5, .if_icmp .ge 37, 3), (8, .aload_n 0, 1), (9, .getfield 27, 3), (12, .iload_n 2, 1), (13, .iaload, 1), (14, .iload_n 1, 1), (15, .iconst (-1), 1), (16, .ixor, 1), (17, .iand, 1), (18, .ifCond .eq 18, 3), (21, .aload_n 0, 1), (22, .getfield 30, 3), (25, .iload_n 2, 1), (26, .iaload, 1), (27, .iload_n 1, 1), (28, .iconst (-1), 1), (29, .ixor, 1), (30, .iand, 1), (31, .ifCond .eq 5, 3), (34, .iconst 0, 1), (35, .ireturn, 1), (36, .iinc 2 1, 3), (39, .goto (-37), 3), (42, .iconst 1, 1), (43, .ireturn, 1)]
def mq_Book_agreeWithout : ov_M := (0, ⟨"OneEye$Book", "agreeWithout", "(I)Z"⟩, prog_2_method_7_code, 3, (some .boolean), mq_Book_agreeWithout_c)
def mq_Book_copyFrom_c : List (Nat × Instr × Nat) := [(0, .aload_n 1, 1), (1, .getfield 9, 3), (4, .iconst 0, 1), (5, .aload_n 0, 1), (6, .getfield 9, 3), (9, .iconst 0, 1), (10, .bipush 99, 2), (12, .invokestatic 33, 3), (15, .aload_n 1, 1), (16, .getfield 15, 3), (19, .iconst 0, 1), (20, .aload_n 0, 1), (21, .getfield 15, 3), (24, .iconst 0, 1), (25, .bipush 99, 2), (27, .invokestatic 33, 3), (30, .aload_n 1, 1), (31, .getfield 18, 3), (34, .iconst 0, 1), (35, .aload_n 0, 1), (36, .getfield 18, 3), (39, .iconst 0, 1), (40, .bipush 99, 2), (42, .invokestatic 33, 3), (45, .aload_n 1, 1), (46, .getfield 21, 3), (49, .iconst 0, 1), (50, .aload_n 0, 1), (51, .getfield 21, 3), (54, .iconst 0, 1), (55, .bipush 99, 2), (57, .invokestatic 33, 3), (60, .aload_n 1, 1), (61, .getfield 24, 3), (64, .iconst 0, 1), (65, .aload_n 0, 1), (66, .getfield 24, 3), (69, .iconst 0, 1), (70, .bipush 99, 2), (72, .invokestatic 33, 3), (75, .aload_n 0, 1), (76, .aload_n 1, 1), (77, .getfield 39, 3), (80, .putfield 39, 3), (83, .return_, 1)]
def mq_Book_copyFrom : ov_M := (0, ⟨"OneEye$Book", "copyFrom", "(LOneEye$Book;)V"⟩, prog_2_method_2_code, 2, none, mq_Book_copyFrom_c)
def mq_Deal_init_c : List (Nat × Instr × Nat) := [(0, .aload_n 0, 1), (1, .invokespecial 3, 3), (4, .aload_n 0, 1), (5, .bipush 9, 2), (7, .newarray .int, 2), (9, .putfield 9, 3), (12, .aload_n 0, 1), (13, .bipush 9, 2), (15, .newarray .int, 2), (17, .putfield 15, 3), (20, .aload_n 0, 1), (21, .iconst 3, 1), (22, .newarray .int, 2), (24, .putfield 18, 3), (27, .return_, 1)]
def mq_Deal_init : ov_M := (1, ⟨"OneEye$Deal", "<init>", "()V"⟩, prog_3_method_1_code, 1, none, mq_Deal_init_c)
def mq_Deal_find_c : List (Nat × Instr × Nat) := [(0, .aload_n 0, 1), (1, .getfield 18, 3), (4, .iconst 0, 1), (5, .invokestatic 21, 3), (8, .aload_n 0, 1), (9, .ldc 27, 2), (11, .putfield 28, 3), (14, .aload_n 0, 1), (15, .aload_n 1, 1), (16, .iload_n 2, 1), (17, .bipush 9, 2), (19, .invokestatic 32, 3), (22, .iconst 0, 1), (23, .iconst 0, 1), (24, .invokevirtual 38, 3), (27, .return_, 1)]
def mq_Deal_find : ov_M := (1, ⟨"OneEye$Deal", "find", "([II)V"⟩, prog_3_method_2_code, 3, none, mq_Deal_find_c)
def mq_Deal_deal_c : List (Nat × Instr × Nat) := [(0, .iload_n 3, 1), (1, .iload_n 2, 1), (2, .if_icmp .ge 9, 3), (5, .iload_n 3, 1), (6, .bipush 9, 2), (8, .if_icmp .lt 8, 3), (11, .aload_n 0, 1), (12, .invokevirtual 42, 3), (15, .return_, 1), (16, .iconst 0, 1), (17, .istore 5, 2), (19, .iload 5, 2), (21, .iconst 3, 1), (22, .if_icmp .ge 68, 3), (25, .iload 5, 2), (27, .iload 4, 2), (29, .if_icmp .gt 61, 3), (32, .aload_n 0, 1), (33, .getfield 15, 3), (36, .iload_n 3, 1), (37, .iload 5, 2), (39, .iastore, 1), (40, .aload_n 0, 1), (41, .getfield 18, 3), (44, .iload 5, 2), (46, .dup2, 1), (47, .iaload, 1), (48, .aload_n 1, 1), (49, .iload_n 3, 1), (50, .iaload, 1), (51, .iadd, 1), (52, .iastore, 1), (53, .aload_n 0, 1), (54, .aload_n 1, 1), (55, .iload_n 2, 1), (56, .iload_n 3, 1), (57, .iconst 1, 1), (58, .iadd, 1), (59, .iload 4, 2), (61, .iload 5, 2), (63, .iconst 1, 1), (64, .iadd, 1), (65, .invokestatic 45, 3), (68, .invokevirtual 38, 3), (71, .aload_n 0, 1), (72, .getfield 18, 3), (75, .iload 5, 2), (77, .dup2, 1), (78, .iaload, 1), (79, .aload_n 1, 1), (80, .iload_n 3, 1), (81, .iaload, 1), (82, .isub, 1), (83, .iastore, 1), (84, .iinc 5 1, 3), (87, .goto (-68), 3), (90, .return_, 1)]
def mq_Deal_deal : ov_M := (1, ⟨"OneEye$Deal", "deal", "([IIII)V"⟩, prog_3_method_3_code, 6, none, mq_Deal_deal_c)
def mq_Deal_compare_c : List (Nat × Instr × Nat) := [(0, .aload_n 0, 1), (1, .getfield 18, 3), (4, .iconst 0, 1), (5, .iaload, 1), (6, .aload_n 0, 1), (7, .getfield 18, 3), (10, .iconst 1, 1), (11, .iaload, 1), (12, .aload_n 0, 1), (13, .getfield 18, 3), (16, .iconst 2, 1), (17, .iaload, 1), (18, .invokestatic 45, 3), (21, .invokestatic 45, 3), (24, .istore_n 1, 1), (25, .aload_n 0, 1), (26, .getfield 18, 3), (29, .iconst 0, 1), (30, .iaload, 1), (31, .aload_n 0, 1), (32, .getfield 18, 3), (35, .iconst 1, 1), (36, .iaload, 1), (37, .aload_n 0, 1), (38, .getfield 18, 3), (41, .iconst 2, 1), (42, .iaload, 1), (43, .invokestatic 32, 3), (46, .invokestatic 32, 3), (49, .istore_n 2, 1), (50, .iload_n 1, 1), (51, .iload_n 2, 1), (52, .isub, 1), (53, .aload_n 0, 1), (54, .getfield 28, 3), (57, .if_icmp .ge 25, 3), (60, .aload_n 0, 1), (61, .iload_n 1, 1), (62, .iload_n 2, 1), (63, .isub, 1), (64, .putfield 28, 3), (67, .aload_n 0, 1), (68, .getfield 15, 3), (71, .iconst 0, 1), (72, .aload_n 0, 1), (73, .getfield 9, 3), (76, .iconst 0, 1), (77, .bipush 9, 2), (79, .invokestatic 48, 3), (82, .return_, 1)]
def mq_Deal_compare : ov_M := (1, ⟨"OneEye$Deal", "compare", "()V"⟩, prog_3_method_4_code, 3, none, mq_Deal_compare_c)
def mq_Feelers_init_c : List (Nat × Instr × Nat) := [(0, .aload_n 0, 1), (1, .invokespecial 3, 3), (4, .aload_n 0, 1), (5, .bipush 82, 2), (7, .newarray .int, 2), (9, .putfield 11, 3), (12, .return_, 1)]
def mq_Feelers_init : ov_M := (2, ⟨"OneEye$Feelers", "<init>", "()V"⟩, prog_4_method_1_code, 1, none, mq_Feelers_init_c)
def mq_Feelers_leastSum_c : List (Nat × Instr × Nat) := [(0, .aload_n 0, 1), (1, .getfield 11, 3), (4, .ldc 15, 2), (6, .invokestatic 16, 3), (9, .aload_n 0, 1), (10, .getfield 11, 3), (13, .iconst 0, 1), (14, .iconst 0, 1), (15, .iastore, 1), (16, .iconst 0, 1), (17, .istore_n 3, 1), (18, .iconst 0, 1), (19, .istore 4, 2), (21, .iconst 0, 1), (22, .istore 5, 2), (24, .iload 5, 2), (26, .bipush 9, 2), (28, .if_icmp .ge 49, 3), (31, .aload_n 0, 1), (32, .iload 4, 2), (34, .aload_n 1, 1), (35, .aload_n 2, 1), (36, .invokevirtual 22, 3), (39, .istore 6, 2), (41, .aload_n 0, 1), (42, .aload_n 1, 1), (43, .iload 6, 2), (45, .iaload, 1), (46, .aload_n 2, 1), (47, .iload 6, 2), (49, .iaload, 1), (50, .iload_n 3, 1), (51, .invokevirtual 26, 3), (54, .iload_n 3, 1), (55, .aload_n 2, 1), (56, .iload 6, 2), (58, .iaload, 1), (59, .iadd, 1), (60, .istore_n 3, 1), (61, .iload 4, 2), (63, .iload 6, 2), (65, .iconst 1, 1), (66, .invokestatic 30, 3), (69, .istore 4, 2), (71, .iinc 5 1, 3), (74, .goto (-50), 3), (77, .ldc 15, 2), (79, .istore 5, 2), (81, .iconst 0, 1), (82, .istore 6, 2), (84, .iload 6, 2), (86, .bipush 81, 2), (88, .if_icmp .gt 23, 3), (91, .iload 5, 2), (93, .aload_n 0, 1), (94, .getfield 11, 3), (97, .iload 6, 2), (99, .iaload, 1), (100, .invokestatic 34, 3), (103, .istore 5, 2), (105, .iinc 6 1, 3), (108, .goto (-24), 3), (111, .iload 5, 2), (113, .ireturn, 1)]
def mq_Feelers_leastSum : ov_M := (2, ⟨"OneEye$Feelers", "leastSum", "([I[I)I"⟩, prog_4_method_2_code, 7, (some .int), mq_Feelers_leastSum_c)
def mq_Feelers_worthiestBut_c : List (Nat × Instr × Nat) := [(0, .iconst 0, 1), (1, .istore 4, 2), (3, .iconst 1, 1), (4, .istore 5, 2), (6, .iload 5, 2), (8, .bipush 9, 2), (10, .if_icmp .ge 64, 3), (13, .aload_n 2, 1), (14, .iload 5, 2), (16, .iaload, 1), (17, .aload_n 3, 1), (18, .iload 4, 2), (20, .iaload, 1), (21, .imul, 1), (22, .aload_n 2, 1), (23, .iload 4, 2), (25, .iaload, 1), (26, .aload_n 3, 1), (27, .iload 5, 2), (29, .iaload, 1), (30, .imul, 1), (31, .if_icmp .le 7, 3), (34, .iconst 1, 1), (35, .goto 4, 3), (38, .iconst 0, 1), (39, .istore 6, 2), (41, .iload_n 1, 1), (42, .iload 5, 2), (44, .invokestatic 40, 3), (47, .ifCond .ne 21, 3), (50, .iload 6, 2), (52, .ifCond .ne 12, 3), (55, .iload_n 1, 1), (56, .iload 4, 2), (58, .invokestatic 40, 3), (61, .ifCond .eq 7, 3), (64, .iload 5, 2), (66, .istore 4, 2), (68, .iinc 5 1, 3), (71, .goto (-65), 3), (74, .iload 4, 2), (76, .ireturn, 1)]
def mq_Feelers_worthiestBut : ov_M := (2, ⟨"OneEye$Feelers", "worthiestBut", "(I[I[I)I"⟩, prog_4_method_3_code, 7, (some .int), mq_Feelers_worthiestBut_c)
def mq_Feelers_dealOut_c : List (Nat × Instr × Nat) := [(0, .iload_n 3, 1), (1, .bipush 81, 2), (3, .invokestatic 34, 3), (6, .istore 4, 2), (8, .iload 4, 2), (10, .ifCond .lt 96, 3), (13, .aload_n 0, 1), (14, .getfield 11, 3), (17, .iload 4, 2), (19, .iaload, 1), (20, .istore 5, 2), (22, .aload_n 0, 1), (23, .getfield 11, 3), (26, .iload 4, 2), (28, .iload 5, 2), (30, .ldc 15, 2), (32, .if_icmp .ne 8, 3), (35, .ldc 15, 2), (37, .goto 14, 3), (40, .iload 5, 2), (42, .iload_n 1, 1), (43, .iload_n 3, 1), (44, .iload 4, 2), (46, .isub, 1), (47, .iload_n 2, 1), (48, .iadd, 1), (49, .imul, 1), (50, .iadd, 1), (51, .iastore, 1), (52, .iload 4, 2), (54, .iload_n 2, 1), (55, .iadd, 1), (56, .istore 6, 2), (58, .iload 5, 2), (60, .ldc 15, 2), (62, .if_icmp .eq 38, 3), (65, .iload 6, 2), (67, .iconst 0, 1), (68, .bipush 81, 2), (70, .invokestatic 44, 3), (73, .ifCond .eq 27, 3), (76, .aload_n 0, 1), (77, .getfield 11, 3), (80, .iload 6, 2), (82, .aload_n 0, 1), (83, .getfield 11, 3), (86, .iload 6, 2), (88, .iaload, 1), (89, .iload 5, 2), (91, .iload_n 1, 1), (92, .iload 6, 2), (94, .imul, 1), (95, .iadd, 1), (96, .invokestatic 34, 3), (99, .iastore, 1), (100, .iinc 4 (-1), 3), (103, .goto (-95), 3), (106, .return_, 1)]
def mq_Feelers_dealOut : ov_M := (2, ⟨"OneEye$Feelers", "dealOut", "(III)V"⟩, prog_4_method_4_code, 7, none, mq_Feelers_dealOut_c)
def mq_Person_init_c : List (Nat × Instr × Nat) := [(0, .aload_n 0, 1), (1, .invokespecial 3, 3), (4, .aload_n 0, 1), (5, .bipush 10, 2), (7, .newarray .int, 2), (9, .putfield 9, 3), (12, .aload_n 0, 1), (13, .bipush 10, 2), (15, .newarray .int, 2), (17, .putfield 15, 3), (20, .aload_n 0, 1), (21, .bipush 10, 2), (23, .newarray .int, 2), (25, .putfield 18, 3), (28, .aload_n 0, 1), (29, .bipush 10, 2), (31, .newarray .int, 2), (33, .putfield 21, 3), (36, .aload_n 0, 1), (37, .bipush 10, 2), (39, .newarray .int, 2), (41, .putfield 24, 3), (44, .aload_n 0, 1), (45, .iconst 3, 1), (46, .newarray .int, 2), (48, .putfield 27, 3), (51, .aload_n 0, 1), (52, .bipush 15, 2), (54, .putfield 30, 3), (57, .return_, 1)]
def mq_Person_init : ov_M := (3, ⟨"OneEye$Person", "<init>", "()V"⟩, prog_5_method_1_code, 1, none, mq_Person_init_c)
def mq_Person_seeFact_c : List (Nat × Instr × Nat) := [(0, .iload_n 1, 1), (1, .iconst 0, 1), (2, .bipush 9, 2), (4, .invokestatic 43, 3), (7, .ifCond .ne 4, 3), (10, .return_, 1), (11, .aload_n 0, 1), (12, .getfield 9, 3), (15, .iload_n 1, 1), (16, .iload_n 2, 1), (17, .iastore, 1), (18, .aload_n 0, 1), (19, .getfield 15, 3), (22, .iload_n 1, 1), (23, .iload_n 3, 1), (24, .iastore, 1), (25, .aload_n 0, 1), (26, .getfield 18, 3), (29, .iload_n 1, 1), (30, .iload 4, 2), (32, .iastore, 1), (33, .aload_n 0, 1), (34, .getfield 21, 3), (37, .iload_n 1, 1), (38, .iconst 0, 1), (39, .iastore, 1), (40, .aload_n 0, 1), (41, .getfield 24, 3), (44, .iload_n 1, 1), (45, .iconst 0, 1), (46, .iastore, 1), (47, .return_, 1)]
def mq_Person_seeFact : ov_M := (3, ⟨"OneEye$Person", "seeFact", "(IIII)V"⟩, prog_5_method_5_code, 5, none, mq_Person_seeFact_c)
def mq_Person_knowledgeOf_c : List (Nat × Instr × Nat) := [(0, .iload_n 1, 1), (1, .iconst 0, 1), (2, .bipush 9, 2), (4, .invokestatic 43, 3), (7, .ifCond .eq 12, 3), (10, .aload_n 0, 1), (11, .getfield 9, 3), (14, .iload_n 1, 1), (15, .iaload, 1), (16, .goto 4, 3), (19, .iconst (-1), 1), (20, .ireturn, 1)]
def mq_Person_knowledgeOf : ov_M := (3, ⟨"OneEye$Person", "knowledgeOf", "(I)I"⟩, prog_5_method_3_code, 2, (some .int), mq_Person_knowledgeOf_c)
def mq_Person_believe_c : List (Nat × Instr × Nat) := [(0, .iload_n 1, 1), (1, .iconst 0, 1), (2, .bipush 9, 2), (4, .invokestatic 43, 3), (7, .ifCond .eq 7, 3), (10, .aload_n 3, 1), (11, .ifnonnull 4, 3), (14, .return_, 1), (15, .aload_n 0, 1), (16, .getfield 9, 3), (19, .iload_n 1, 1), (20, .iload_n 2, 1), (21, .iastore, 1), (22, .aload_n 0, 1), (23, .getfield 15, 3), (26, .iload_n 1, 1), (27, .aload_n 3, 1), (28, .getfield 15, 3), (31, .iload_n 1, 1), (32, .iaload, 1), (33, .iastore, 1), (34, .aload_n 0, 1), (35, .getfield 18, 3), (38, .iload_n 1, 1), (39, .aload_n 3, 1), (40, .getfield 18, 3), (43, .iload_n 1, 1), (44, .iaload, 1), (45, .iastore, 1), (46, .aload_n 0, 1), (47, .getfield 21, 3), (50, .iload_n 1, 1), (51, .aload_n 3, 1), (52, .getfield 21, 3), (55, .iload_n 1, 1), (56, .iaload, 1), (57, .iconst 1, 1), (58, .iadd, 1), (59, .iastore, 1), (60, .aload_n 0, 1), (61, .getfield 24, 3), (64, .iload_n 1, 1), (65, .aload_n 3, 1), (66, .getfield 24, 3), (69, .iload_n 1, 1), (70, .iaload, 1), (71, .iload 4, 2), (73, .ifCond .eq 7, 3), (76, .iconst 1, 1), (77, .goto 4, 3), (80, .iconst 0, 1), (81, .iadd, 1), (82, .iastore, 1), (83, .return_, 1)]
def mq_Person_believe : ov_M := (3, ⟨"OneEye$Person", "believe", "(IILOneEye$Person;Z)V"⟩, prog_5_method_6_code, 5, none, mq_Person_believe_c)
def mq_Person_originOf_c : List (Nat × Instr × Nat) := [(0, .iload_n 1, 1), (1, .iconst 0, 1), (2, .bipush 9, 2), (4, .invokestatic 43, 3), (7, .ifCond .eq 12, 3), (10, .aload_n 0, 1), (11, .getfield 9, 3), (14, .iload_n 1, 1), (15, .iaload, 1), (16, .ifCond .ne 5, 3), (19, .iconst (-1), 1), (20, .ireturn, 1), (21, .iload_n 2, 1), (22, .tableswitch 58 0 3 #[30, 37, 44, 51], 30), (52, .aload_n 0, 1), (53, .getfield 15, 3), (56, .iload_n 1, 1), (57, .iaload, 1), (58, .ireturn, 1), (59, .aload_n 0, 1), (60, .getfield 18, 3), (63, .iload_n 1, 1), (64, .iaload, 1), (65, .ireturn, 1), (66, .aload_n 0, 1), (67, .getfield 21, 3), (70, .iload_n 1, 1), (71, .iaload, 1), (72, .ireturn, 1), (73, .aload_n 0, 1), (74, .getfield 24, 3), (77, .iload_n 1, 1), (78, .iaload, 1), (79, .ireturn, 1), (80, .iconst (-1), 1), (81, .ireturn, 1)]
def mq_Person_originOf : ov_M := (3, ⟨"OneEye$Person", "originOf", "(II)I"⟩, prog_5_method_4_code, 3, (some .int), mq_Person_originOf_c)
def mq_Person_copyFrom_c : List (Nat × Instr × Nat) := [(0, .aload_n 1, 1), (1, .getfield 9, 3), (4, .iconst 0, 1), (5, .aload_n 0, 1), (6, .getfield 9, 3), (9, .iconst 0, 1), (10, .bipush 10, 2), (12, .invokestatic 34, 3), (15, .aload_n 1, 1), (16, .getfield 15, 3), (19, .iconst 0, 1), (20, .aload_n 0, 1), (21, .getfield 15, 3), (24, .iconst 0, 1), (25, .bipush 10, 2), (27, .invokestatic 34, 3), (30, .aload_n 1, 1), (31, .getfield 18, 3), (34, .iconst 0, 1), (35, .aload_n 0, 1), (36, .getfield 18, 3), (39, .iconst 0, 1), (40, .bipush 10, 2), (42, .invokestatic 34, 3), (45, .aload_n 1, 1), (46, .getfield 21, 3), (49, .iconst 0, 1), (50, .aload_n 0, 1), (51, .getfield 21, 3), (54, .iconst 0, 1), (55, .bipush 10, 2), (57, .invokestatic 34, 3), (60, .aload_n 1, 1), (61, .getfield 24, 3), (64, .iconst 0, 1), (65, .aload_n 0, 1), (66, .getfield 24, 3), (69, .iconst 0, 1), (70, .bipush 10, 2), (72, .invokestatic 34, 3), (75, .aload_n 1, 1), (76, .getfield 27, 3), (79, .iconst 0, 1), (80, .aload_n 0, 1), (81, .getfield 27, 3), (84, .iconst 0, 1), (85, .iconst 3, 1), (86, .invokestatic 34, 3), (89, .aload_n 0, 1), (90, .aload_n 1, 1), (91, .getfield 40, 3), (94, .putfield 40, 3), (97, .aload_n 0, 1), (98, .aload_n 1, 1), (99, .getfield 30, 3), (102, .putfield 30, 3), (105, .return_, 1)]
def mq_Person_copyFrom : ov_M := (3, ⟨"OneEye$Person", "copyFrom", "(LOneEye$Person;)V"⟩, prog_5_method_2_code, 2, none, mq_Person_copyFrom_c)
def mq_Plan_init_c : List (Nat × Instr × Nat) := [(0, .aload_n 0, 1), (1, .invokespecial 3, 3), (4, .aload_n 0, 1), (5, .bipush 30, 2), (7, .newarray .int, 2), (9, .putfield 9, 3), (12, .aload_n 0, 1), (13, .bipush 30, 2), (15, .newarray .int, 2), (17, .putfield 15, 3), (20, .aload_n 0, 1), (21, .bipush 30, 2), (23, .newarray .int, 2), (25, .putfield 18, 3), (28, .aload_n 0, 1), (29, .bipush 30, 2), (31, .newarray .int, 2), (33, .putfield 21, 3), (36, .return_, 1)]
def mq_Plan_init : ov_M := (4, ⟨"OneEye$Plan", "<init>", "()V"⟩, prog_6_method_1_code, 1, none, mq_Plan_init_c)
def mq_Plan_add_c : List (Nat × Instr × Nat) := [(0, .aload_n 0, 1), (1, .getfield 24, 3), (4, .iconst 0, 1), (5, .bipush 29, 2), (7, .invokestatic 28, 3), (10, .ifCond .ne 4, 3), (13, .return_, 1), (14, .aload_n 0, 1), (15, .getfield 9, 3), (18, .aload_n 0, 1), (19, .getfield 24, 3), (22, .iload_n 1, 1), (23, .iastore, 1), (24, .aload_n 0, 1), (25, .getfield 15, 3), (28, .aload_n 0, 1), (29, .getfield 24, 3), (32, .iload_n 2, 1), (33, .iastore, 1), (34, .aload_n 0, 1), (35, .getfield 18, 3), (38, .aload_n 0, 1), (39, .getfield 24, 3), (42, .iload_n 3, 1), (43, .iastore, 1), (44, .aload_n 0, 1), (45, .getfield 21, 3), (48, .aload_n 0, 1), (49, .getfield 24, 3), (52, .iload 4, 2), (54, .iastore, 1), (55, .aload_n 0, 1), (56, .dup, 1), (57, .getfield 24, 3), (60, .iconst 1, 1), (61, .iadd, 1), (62, .putfield 24, 3), (65, .return_, 1)]
def mq_Plan_add : ov_M := (4, ⟨"OneEye$Plan", "add", "(IIII)V"⟩, prog_6_method_2_code, 5, none, mq_Plan_add_c)
def mq_Plan_copyFrom_c : List (Nat × Instr × Nat) := [(0, .aload_n 1, 1), (1, .getfield 9, 3), (4, .iconst 0, 1), (5, .aload_n 0, 1), (6, .getfield 9, 3), (9, .iconst 0, 1), (10, .bipush 30, 2), (12, .invokestatic 32, 3), (15, .aload_n 1, 1), (16, .getfield 15, 3), (19, .iconst 0, 1), (20, .aload_n 0, 1), (21, .getfield 15, 3), (24, .iconst 0, 1), (25, .bipush 30, 2), (27, .invokestatic 32, 3), (30, .aload_n 1, 1), (31, .getfield 18, 3), (34, .iconst 0, 1), (35, .aload_n 0, 1), (36, .getfield 18, 3), (39, .iconst 0, 1), (40, .bipush 30, 2), (42, .invokestatic 32, 3), (45, .aload_n 1, 1), (46, .getfield 21, 3), (49, .iconst 0, 1), (50, .aload_n 0, 1), (51, .getfield 21, 3), (54, .iconst 0, 1), (55, .bipush 30, 2), (57, .invokestatic 32, 3), (60, .aload_n 0, 1), (61, .aload_n 1, 1), (62, .getfield 24, 3), (65, .putfield 24, 3), (68, .return_, 1)]
def mq_Plan_copyFrom : ov_M := (4, ⟨"OneEye$Plan", "copyFrom", "(LOneEye$Plan;)V"⟩, prog_6_method_3_code, 2, none, mq_Plan_copyFrom_c)
def mq_Reader_init_c : List (Nat × Instr × Nat) := [(0, .aload_n 0, 1), (1, .invokespecial 3, 3), (4, .aload_n 0, 1), (5, .sipush 400, 3), (8, .newarray .int, 2), (10, .putfield 9, 3), (13, .aload_n 0, 1), (14, .new 15, 3), (17, .dup, 1), (18, .invokespecial 17, 3), (21, .putfield 18, 3), (24, .aload_n 0, 1), (25, .iconst (-1), 1), (26, .putfield 22, 3), (29, .aload_n 0, 1), (30, .sipush 401, 3), (33, .newarray .int, 2), (35, .putfield 26, 3), (38, .aload_n 0, 1), (39, .sipush 401, 3), (42, .newarray .int, 2), (44, .putfield 29, 3), (47, .aload_n 0, 1), (48, .sipush 401, 3), (51, .newarray .int, 2), (53, .putfield 32, 3), (56, .return_, 1)]
def mq_Reader_init : ov_M := (5, ⟨"OneEye$Reader", "<init>", "()V"⟩, prog_7_method_1_code, 1, none, mq_Reader_init_c)
def mq_Reader_append_c : List (Nat × Instr × Nat) := [(0, .bipush 24, 2), (2, .istore_n 2, 1), (3, .iload_n 2, 1), (4, .ifCond .lt 49, 3), (7, .aload_n 0, 1), (8, .getfield 35, 3), (11, .iconst 0, 1), (12, .sipush 399, 3), (15, .invokestatic 38, 3), (18, .ifCond .eq 29, 3), (21, .aload_n 0, 1), (22, .getfield 9, 3), (25, .aload_n 0, 1), (26, .getfield 35, 3), (29, .iload_n 1, 1), (30, .iload_n 2, 1), (31, .iushr, 1), (32, .sipush 255, 3), (35, .iand, 1), (36, .iastore, 1), (37, .aload_n 0, 1), (38, .dup, 1), (39, .getfield 35, 3), (42, .iconst 1, 1), (43, .iadd, 1), (44, .putfield 35, 3), (47, .iinc 2 (-8), 3), (50, .goto (-47), 3), (53, .return_, 1)]
def mq_Reader_append : ov_M := (5, ⟨"OneEye$Reader", "append", "(I)V"⟩, prog_7_method_2_code, 3, none, mq_Reader_append_c)
def mq_Reader_takeTape_c : List (Nat × Instr × Nat) := [(0, .aload_n 0, 1), (1, .iconst 0, 1), (2, .putfield 42, 3), (5, .aload_n 0, 1), (6, .iconst (-1), 1), (7, .putfield 22, 3), (10, .aload_n 0, 1), (11, .iconst 0, 1), (12, .putfield 45, 3), (15, .aload_n 0, 1), (16, .iconst 0, 1), (17, .putfield 48, 3), (20, .aload_n 0, 1), (21, .iconst 0, 1), (22, .iconst 0, 1), (23, .invokevirtual 51, 3), (26, .istore_n 1, 1), (27, .iconst 0, 1), (28, .istore_n 2, 1), (29, .iload_n 2, 1), (30, .sipush 400, 3), (33, .if_icmp .ge 61, 3), (36, .iload_n 1, 1), (37, .aload_n 0, 1), (38, .getfield 35, 3), (41, .if_icmp .ge 53, 3), (44, .aload_n 0, 1), (45, .iload_n 1, 1), (46, .invokevirtual 55, 3), (49, .invokestatic 59, 3), (52, .istore_n 3, 1), (53, .iload_n 3, 1), (54, .iconst 3, 1), (55, .if_icmp .ne 9, 3), (58, .iload_n 1, 1), (59, .iconst 1, 1), (60, .iadd, 1), (61, .goto 9, 3), (64, .aload_n 0, 1), (65, .iload_n 1, 1), (66, .iload_n 3, 1), (67, .invokevirtual 51, 3), (70, .istore 4, 2), (72, .aload_n 0, 1), (73, .iload_n 3, 1), (74, .iload_n 1, 1), (75, .iload 4, 2), (77, .invokevirtual 62, 3), (80, .aload_n 0, 1), (81, .iload 4, 2), (83, .iconst 0, 1), (84, .invokevirtual 51, 3), (87, .istore_n 1, 1), (88, .iinc 2 1, 3), (91, .goto (-62), 3), (94, .aload_n 0, 1), (95, .bipush 12, 2), (97, .aload_n 0, 1), (98, .getfield 35, 3), (101, .iconst 0, 1), (102, .invokevirtual 66, 3), (105, .aload_n 0, 1), (106, .iconst 0, 1), (107, .putfield 35, 3), (110, .return_, 1)]
def mq_Reader_takeTape : ov_M := (5, ⟨"OneEye$Reader", "takeTape", "()V"⟩, prog_7_method_3_code, 5, none, mq_Reader_takeTape_c)
def mq_Reader_endOfRun_c : List (Nat × Instr × Nat) := [(0, .iload_n 1, 1), (1, .istore_n 3, 1), (2, .iload_n 3, 1), (3, .aload_n 0, 1), (4, .getfield 35, 3), (7, .if_icmp .ge 21, 3), (10, .aload_n 0, 1), (11, .iload_n 3, 1), (12, .invokevirtual 55, 3), (15, .invokestatic 59, 3), (18, .iload_n 2, 1), (19, .if_icmp .ne 9, 3), (22, .iinc 3 1, 3), (25, .goto (-23), 3), (28, .iload_n 3, 1), (29, .ireturn, 1)]
def mq_Reader_endOfRun : ov_M := (5, ⟨"OneEye$Reader", "endOfRun", "(II)I"⟩, prog_7_method_8_code, 4, (some .int), mq_Reader_endOfRun_c)
def mq_Reader_signAt_c : List (Nat × Instr × Nat) := [(0, .iload_n 1, 1), (1, .ifCond .lt 27, 3), (4, .iload_n 1, 1), (5, .aload_n 0, 1), (6, .getfield 35, 3), (9, .if_icmp .ge 19, 3), (12, .iload_n 1, 1), (13, .sipush 400, 3), (16, .if_icmp .ge 12, 3), (19, .aload_n 0, 1), (20, .getfield 9, 3), (23, .iload_n 1, 1), (24, .iaload, 1), (25, .goto 4, 3), (28, .iconst (-1), 1), (29, .ireturn, 1)]
def mq_Reader_signAt : ov_M := (5, ⟨"OneEye$Reader", "signAt", "(I)I"⟩, prog_7_method_6_code, 2, (some .int), mq_Reader_signAt_c)
def mq_Reader_sortOf_c : List (Nat × Instr × Nat) := [(0, .iload_n 0, 1), (1, .bipush 32, 2), (3, .if_icmp .eq 9, 3), (6, .iload_n 0, 1), (7, .bipush 10, 2), (9, .if_icmp .ne 5, 3), (12, .iconst 0, 1), (13, .ireturn, 1), (14, .iload_n 0, 1), (15, .bipush 97, 2), (17, .bipush 122, 2), (19, .invokestatic 38, 3), (22, .ifCond .ne 14, 3), (25, .iload_n 0, 1), (26, .bipush 65, 2), (28, .bipush 90, 2), (30, .invokestatic 38, 3), (33, .ifCond .eq 5, 3), (36, .iconst 1, 1), (37, .ireturn, 1), (38, .iload_n 0, 1), (39, .bipush 48, 2), (41, .bipush 57, 2), (43, .invokestatic 38, 3), (46, .ifCond .eq 7, 3), (49, .iconst 2, 1), (50, .goto 4, 3), (53, .iconst 3, 1), (54, .ireturn, 1)]
def mq_Reader_sortOf : ov_M := (5, ⟨"OneEye$Reader", "sortOf", "(I)I"⟩, prog_7_method_7_code, 1, (some .int), mq_Reader_sortOf_c)
def mq_Reader_takeToken_c : List (Nat × Instr × Nat) := [(0, .iload_n 1, 1), (1, .iconst 1, 1), (2, .if_icmp .ne 18, 3), (5, .aload_n 0, 1), (6, .aload_n 0, 1), (7, .iload_n 2, 1), (8, .iload_n 3, 1), (9, .invokevirtual 69, 3), (12, .iload_n 2, 1), (13, .iconst 0, 1), (14, .invokevirtual 66, 3), (17, .goto 59, 3), (20, .iload_n 1, 1), (21, .iconst 2, 1), (22, .if_icmp .ne 31, 3), (25, .aload_n 0, 1), (26, .iload_n 3, 1), (27, .iload_n 2, 1), (28, .isub, 1), (29, .iconst 4, 1), (30, .if_icmp .le 8, 3), (33, .bipush 13, 2), (35, .goto 5, 3), (38, .bipush 10, 2), (40, .iload_n 2, 1), (41, .aload_n 0, 1), (42, .iload_n 2, 1), (43, .iload_n 3, 1), (44, .invokevirtual 72, 3), (47, .invokevirtual 66, 3), (50, .goto 26, 3), (53, .aload_n 0, 1), (54, .aload_n 0, 1), (55, .iload_n 2, 1), (56, .invokevirtual 55, 3), (59, .bipush 59, 2), (61, .if_icmp .ne 8, 3), (64, .bipush 11, 2), (66, .goto 5, 3), (69, .bipush 13, 2), (71, .iload_n 2, 1), (72, .iconst 0, 1), (73, .invokevirtual 66, 3), (76, .return_, 1)]
def mq_Reader_takeToken : ov_M := (5, ⟨"OneEye$Reader", "takeToken", "(III)V"⟩, prog_7_method_4_code, 4, none, mq_Reader_takeToken_c)
def mq_Reader_wordAt_c : List (Nat × Instr × Nat) := [(0, .iload_n 2, 1), (1, .iload_n 1, 1), (2, .isub, 1), (3, .iconst 5, 1), (4, .if_icmp .le 6, 3), (7, .bipush 13, 2), (9, .ireturn, 1), (10, .iconst 0, 1), (11, .istore_n 3, 1), (12, .iload_n 3, 1), (13, .bipush 10, 2), (15, .if_icmp .ge 21, 3), (18, .aload_n 0, 1), (19, .iload_n 3, 1), (20, .iload_n 1, 1), (21, .iload_n 2, 1), (22, .invokevirtual 75, 3), (25, .ifCond .eq 5, 3), (28, .iload_n 3, 1), (29, .ireturn, 1), (30, .iinc 3 1, 3), (33, .goto (-21), 3), (36, .bipush 13, 2), (38, .ireturn, 1)]
def mq_Reader_wordAt : ov_M := (5, ⟨"OneEye$Reader", "wordAt", "(II)I"⟩, prog_7_method_9_code, 4, (some .int), mq_Reader_wordAt_c)
def mq_Reader_isWord_c : List (Nat × Instr × Nat) := [(0, .iconst 0, 1), (1, .istore 4, 2), (3, .iload 4, 2), (5, .iconst 5, 1), (6, .if_icmp .ge 70, 3), (9, .iload_n 2, 1), (10, .iload 4, 2), (12, .iadd, 1), (13, .iload_n 3, 1), (14, .if_icmp .ge 14, 3), (17, .aload_n 0, 1), (18, .iload_n 2, 1), (19, .iload 4, 2), (21, .iadd, 1), (22, .invokevirtual 55, 3), (25, .goto 5, 3), (28, .bipush 32, 2), (30, .istore 5, 2), (32, .iconst 5, 1), (33, .iload_n 1, 1), (34, .imul, 1), (35, .iload 4, 2), (37, .iadd, 1), (38, .istore 6, 2), (40, .iload 6, 2), (42, .iconst 0, 1), (43, .ldc 78, 2), (45, .invokevirtual 80, 3), (48, .iconst 1, 1), (49, .isub, 1), (50, .invokestatic 38, 3), (53, .ifCond .eq 15, 3), (56, .ldc 78, 2), (58, .iload 6, 2), (60, .invokevirtual 85, 3), (63, .iload 5, 2), (65, .if_icmp .eq 5, 3), (68, .iconst 0, 1), (69, .ireturn, 1), (70, .iinc 4 1, 3), (73, .goto (-70), 3), (76, .iconst 1, 1), (77, .ireturn, 1)]
def mq_Reader_isWord : ov_M := (5, ⟨"OneEye$Reader", "isWord", "(III)Z"⟩, prog_7_method_10_code, 7, (some .boolean), mq_Reader_isWord_c)
def mq_Reader_keepToken_c : List (Nat × Instr × Nat) := [(0, .aload_n 0, 1), (1, .getfield 45, 3), (4, .iconst 0, 1), (5, .sipush 400, 3), (8, .invokestatic 38, 3), (11, .ifCond .eq 43, 3), (14, .aload_n 0, 1), (15, .getfield 26, 3), (18, .aload_n 0, 1), (19, .getfield 45, 3), (22, .iload_n 1, 1), (23, .iastore, 1), (24, .aload_n 0, 1), (25, .getfield 29, 3), (28, .aload_n 0, 1), (29, .getfield 45, 3), (32, .iload_n 2, 1), (33, .iastore, 1), (34, .aload_n 0, 1), (35, .getfield 32, 3), (38, .aload_n 0, 1), (39, .getfield 45, 3), (42, .iload_n 3, 1), (43, .iastore, 1), (44, .aload_n 0, 1), (45, .dup, 1), (46, .getfield 45, 3), (49, .iconst 1, 1), (50, .iadd, 1), (51, .putfield 45, 3), (54, .return_, 1)]
def mq_Reader_keepToken : ov_M := (5, ⟨"OneEye$Reader", "keepToken", "(III)V"⟩, prog_7_method_5_code, 4, none, mq_Reader_keepToken_c)
def mq_Reader_valueAt_c : List (Nat × Instr × Nat) := [(0, .iconst 0, 1), (1, .istore_n 3, 1), (2, .iload_n 1, 1), (3, .istore 4, 2), (5, .iload 4, 2), (7, .iload_n 2, 1), (8, .if_icmp .ge 32, 3), (11, .iload 4, 2), (13, .iload_n 1, 1), (14, .iconst 4, 1), (15, .iadd, 1), (16, .if_icmp .ge 24, 3), (19, .bipush 10, 2), (21, .iload_n 3, 1), (22, .imul, 1), (23, .aload_n 0, 1), (24, .iload 4, 2), (26, .invokevirtual 55, 3), (29, .iadd, 1), (30, .bipush 48, 2), (32, .isub, 1), (33, .istore_n 3, 1), (34, .iinc 4 1, 3), (37, .goto (-32), 3), (40, .iload_n 3, 1), (41, .ireturn, 1)]
def mq_Reader_valueAt : ov_M := (5, ⟨"OneEye$Reader", "valueAt", "(II)I"⟩, prog_7_method_11_code, 5, (some .int), mq_Reader_valueAt_c)
def mq_Reader_readPlan_c : List (Nat × Instr × Nat) := [(0, .aload_n 0, 1), (1, .getfield 18, 3), (4, .iconst 0, 1), (5, .putfield 89, 3), (8, .iconst 0, 1), (9, .istore_n 2, 1), (10, .iload_n 2, 1), (11, .bipush 30, 2), (13, .if_icmp .gt 30, 3), (16, .aload_n 0, 1), (17, .getfield 42, 3), (20, .ifCond .ne 23, 3), (23, .aload_n 0, 1), (24, .invokevirtual 92, 3), (27, .bipush 12, 2), (29, .if_icmp .eq 14, 3), (32, .aload_n 0, 1), (33, .iload_n 1, 1), (34, .invokevirtual 95, 3), (37, .iinc 2 1, 3), (40, .goto (-30), 3), (43, .aload_n 0, 1), (44, .getfield 42, 3), (47, .ifCond .ne 7, 3), (50, .iconst 1, 1), (51, .goto 4, 3), (54, .iconst 0, 1), (55, .ireturn, 1)]
def mq_Reader_readPlan : ov_M := (5, ⟨"OneEye$Reader", "readPlan", "(I)Z"⟩, prog_7_method_12_code, 3, (some .boolean), mq_Reader_readPlan_c)
def mq_Reader_token_c : List (Nat × Instr × Nat) := [(0, .aload_n 0, 1), (1, .getfield 48, 3), (4, .iconst 0, 1), (5, .aload_n 0, 1), (6, .getfield 45, 3), (9, .iconst 1, 1), (10, .isub, 1), (11, .invokestatic 38, 3), (14, .ifCond .eq 15, 3), (17, .aload_n 0, 1), (18, .getfield 26, 3), (21, .aload_n 0, 1), (22, .getfield 48, 3), (25, .iaload, 1), (26, .goto 5, 3), (29, .bipush 12, 2), (31, .ireturn, 1)]
def mq_Reader_token : ov_M := (5, ⟨"OneEye$Reader", "token", "()I"⟩, prog_7_method_15_code, 1, (some .int), mq_Reader_token_c)
def mq_Reader_readStep_c : List (Nat × Instr × Nat) := [(0, .aload_n 0, 1), (1, .invokevirtual 92, 3), (4, .istore_n 2, 1), (5, .iload_n 2, 1), (6, .iconst 0, 1), (7, .iconst 5, 1), (8, .invokestatic 38, 3), (11, .ifCond .eq 20, 3), (14, .aload_n 0, 1), (15, .getfield 18, 3), (18, .getfield 89, 3), (21, .bipush 30, 2), (23, .if_icmp .lt 8, 3), (26, .aload_n 0, 1), (27, .iconst 3, 1), (28, .invokevirtual 99, 3), (31, .aload_n 0, 1), (32, .iconst 0, 1), (33, .iconst 5, 1), (34, .invokevirtual 102, 3), (37, .pop, 1), (38, .iload_n 2, 1), (39, .ifCond .eq 8, 3), (42, .iload_n 2, 1), (43, .iconst 5, 1), (44, .if_icmp .ne 17, 3), (47, .aload_n 0, 1), (48, .bipush 7, 2), (50, .bipush 9, 2), (52, .invokevirtual 102, 3), (55, .bipush 7, 2), (57, .isub, 1), (58, .goto 4, 3), (61, .iconst (-1), 1), (62, .istore_n 3, 1), (63, .aload_n 0, 1), (64, .iload_n 2, 1), (65, .iconst 4, 1), (66, .if_icmp .ne 7, 3), (69, .iconst 1, 1), (70, .goto 4, 3), (73, .iconst 0, 1), (74, .iload_n 2, 1), (75, .invokestatic 105, 3), (78, .invokevirtual 108, 3), (81, .istore 4, 2), (83, .iconst (-1), 1), (84, .istore 5, 2), (86, .iload_n 2, 1), (87, .iconst 2, 1), (88, .if_icmp .eq 8, 3), (91, .iload_n 2, 1), (92, .iconst 3, 1), (93, .if_icmp .ne 22, 3), (96, .aload_n 0, 1), (97, .bipush 6, 2), (99, .bipush 6, 2), (101, .invokevirtual 102, 3), (104, .pop, 1), (105, .aload_n 0, 1), (106, .iconst 0, 1), (107, .iload_n 1, 1), (108, .iconst 1, 1), (109, .isub, 1), (110, .invokevirtual 108, 3), (113, .istore 5, 2), (115, .aload_n 0, 1), (116, .bipush 11, 2), (118, .bipush 11, 2), (120, .invokevirtual 102, 3), (123, .pop, 1), (124, .aload_n 0, 1), (125, .getfield 42, 3), (128, .ifCond .ne 16, 3), (131, .aload_n 0, 1), (132, .getfield 18, 3), (135, .iload_n 2, 1), (136, .iload_n 3, 1), (137, .iload 4, 2), (139, .iload 5, 2), (141, .invokevirtual 111, 3), (144, .return_, 1)]
def mq_Reader_readStep : ov_M := (5, ⟨"OneEye$Reader", "readStep", "(I)V"⟩, prog_7_method_13_code, 6, none, mq_Reader_readStep_c)
def mq_Reader_blame_c : List (Nat × Instr × Nat) := [(0, .aload_n 0, 1), (1, .getfield 42, 3), (4, .ifCond .ne 35, 3), (7, .aload_n 0, 1), (8, .getfield 48, 3), (11, .iconst 0, 1), (12, .sipush 400, 3), (15, .invokestatic 38, 3), (18, .ifCond .eq 21, 3), (21, .aload_n 0, 1), (22, .iload_n 1, 1), (23, .putfield 42, 3), (26, .aload_n 0, 1), (27, .aload_n 0, 1), (28, .getfield 29, 3), (31, .aload_n 0, 1), (32, .getfield 48, 3), (35, .iaload, 1), (36, .putfield 22, 3), (39, .return_, 1)]
def mq_Reader_blame : ov_M := (5, ⟨"OneEye$Reader", "blame", "(I)V"⟩, prog_7_method_18_code, 2, none, mq_Reader_blame_c)
def mq_Reader_expect_c : List (Nat × Instr × Nat) := [(0, .aload_n 0, 1), (1, .invokevirtual 92, 3), (4, .istore_n 3, 1), (5, .iload_n 3, 1), (6, .iload_n 1, 1), (7, .iload_n 2, 1), (8, .invokestatic 38, 3), (11, .ifCond .ne 8, 3), (14, .aload_n 0, 1), (15, .iconst 1, 1), (16, .invokevirtual 99, 3), (19, .aload_n 0, 1), (20, .getfield 42, 3), (23, .ifCond .ne 13, 3), (26, .aload_n 0, 1), (27, .dup, 1), (28, .getfield 48, 3), (31, .iconst 1, 1), (32, .iadd, 1), (33, .putfield 48, 3), (36, .iload_n 3, 1), (37, .ireturn, 1)]
def mq_Reader_expect : ov_M := (5, ⟨"OneEye$Reader", "expect", "(II)I"⟩, prog_7_method_16_code, 4, (some .int), mq_Reader_expect_c)
def mq_Reader_mostOf_c : List (Nat × Instr × Nat) := [(0, .iload_n 0, 1), (1, .lookupswitch 43 #[(0, 35), (4, 37), (5, 40)], 35), (36, .iconst 2, 1), (37, .ireturn, 1), (38, .bipush 99, 2), (40, .ireturn, 1), (41, .bipush 8, 2), (43, .ireturn, 1), (44, .bipush 9, 2), (46, .ireturn, 1)]
def mq_Reader_mostOf : ov_M := (5, ⟨"OneEye$Reader", "mostOf", "(I)I"⟩, prog_7_method_14_code, 1, (some .int), mq_Reader_mostOf_c)
def mq_Reader_expectNumber_c : List (Nat × Instr × Nat) := [(0, .aload_n 0, 1), (1, .getfield 48, 3), (4, .iconst 0, 1), (5, .sipush 400, 3), (8, .invokestatic 38, 3), (11, .ifCond .eq 15, 3), (14, .aload_n 0, 1), (15, .getfield 32, 3), (18, .aload_n 0, 1), (19, .getfield 48, 3), (22, .iaload, 1), (23, .goto 4, 3), (26, .iconst 0, 1), (27, .istore_n 3, 1), (28, .aload_n 0, 1), (29, .invokevirtual 92, 3), (32, .bipush 10, 2), (34, .if_icmp .ne 17, 3), (37, .iload_n 3, 1), (38, .iload_n 1, 1), (39, .iload_n 2, 1), (40, .invokestatic 38, 3), (43, .ifCond .ne 8, 3), (46, .aload_n 0, 1), (47, .iconst 2, 1), (48, .invokevirtual 99, 3), (51, .aload_n 0, 1), (52, .bipush 10, 2), (54, .bipush 10, 2), (56, .invokevirtual 102, 3), (59, .pop, 1), (60, .iload_n 3, 1), (61, .ireturn, 1)]
def mq_Reader_expectNumber : ov_M := (5, ⟨"OneEye$Reader", "expectNumber", "(II)I"⟩, prog_7_method_17_code, 4, (some .int), mq_Reader_expectNumber_c)
def mq_Tables_init_c : List (Nat × Instr × Nat) := [(0, .aload_n 0, 1), (1, .invokespecial 3, 3), (4, .aload_n 0, 1), (5, .bipush 108, 2), (7, .newarray .int, 2), (9, .putfield 9, 3), (12, .aload_n 0, 1), (13, .bipush 9, 2), (15, .newarray .int, 2), (17, .putfield 15, 3), (20, .aload_n 0, 1), (21, .bipush 9, 2), (23, .newarray .int, 2), (25, .putfield 18, 3), (28, .aload_n 0, 1), (29, .bipush 9, 2), (31, .newarray .int, 2), (33, .putfield 21, 3), (36, .aload_n 0, 1), (37, .iconst 4, 1), (38, .newarray .int, 2), (40, .putfield 24, 3), (43, .aload_n 0, 1), (44, .getfield 18, 3), (47, .iconst 1, 1), (48, .invokestatic 27, 3), (51, .return_, 1)]
def mq_Tables_init : ov_M := (6, ⟨"OneEye$Tables", "<init>", "()V"⟩, prog_8_method_1_code, 1, none, mq_Tables_init_c)
def mq_Tables_addWatch_c : List (Nat × Instr × Nat) := [(0, .iload_n 1, 1), (1, .iconst 1, 1), (2, .bipush 99, 2), (4, .invokestatic 43, 3), (7, .ifCond .eq 16, 3), (10, .aload_n 0, 1), (11, .getfield 39, 3), (14, .iconst 0, 1), (15, .bipush 8, 2), (17, .invokestatic 43, 3), (20, .ifCond .ne 5, 3), (23, .iconst (-1), 1), (24, .ireturn, 1), (25, .aload_n 0, 1), (26, .getfield 21, 3), (29, .aload_n 0, 1), (30, .getfield 39, 3), (33, .iload_n 1, 1), (34, .iastore, 1), (35, .aload_n 0, 1), (36, .dup, 1), (37, .getfield 39, 3), (40, .iconst 1, 1), (41, .iadd, 1), (42, .putfield 39, 3), (45, .aload_n 0, 1), (46, .getfield 39, 3), (49, .iconst 1, 1), (50, .isub, 1), (51, .ireturn, 1)]
def mq_Tables_addWatch : ov_M := (6, ⟨"OneEye$Tables", "addWatch", "(I)I"⟩, prog_8_method_3_code, 2, (some .int), mq_Tables_addWatch_c)
def mq_Tables_smallestRing_c : List (Nat × Instr × Nat) := [(0, .iconst 2, 1), (1, .istore_n 2, 1), (2, .iload_n 2, 1), (3, .iconst 4, 1), (4, .if_icmp .gt 48, 3), (7, .iconst 1, 1), (8, .istore_n 3, 1), (9, .iload_n 3, 1), (10, .iconst 1, 1), (11, .iload_n 1, 1), (12, .ishl, 1), (13, .if_icmp .ge 33, 3), (16, .iload_n 3, 1), (17, .bipush 16, 2), (19, .if_icmp .ge 27, 3), (22, .iload_n 3, 1), (23, .invokestatic 47, 3), (26, .iload_n 2, 1), (27, .if_icmp .ne 13, 3), (30, .aload_n 0, 1), (31, .iload_n 3, 1), (32, .invokevirtual 53, 3), (35, .ifCond .eq 5, 3), (38, .iload_n 3, 1), (39, .ireturn, 1), (40, .iinc 3 1, 3), (43, .goto (-34), 3), (46, .iinc 2 1, 3), (49, .goto (-47), 3), (52, .iconst (-1), 1), (53, .ireturn, 1)]
def mq_Tables_smallestRing : ov_M := (6, ⟨"OneEye$Tables", "smallestRing", "(I)I"⟩, prog_8_method_4_code, 4, (some .int), mq_Tables_smallestRing_c)
def mq_Tables_closes_c : List (Nat × Instr × Nat) := [(0, .iconst 0, 1), (1, .istore_n 2, 1), (2, .iload_n 2, 1), (3, .iconst 3, 1), (4, .if_icmp .ge 17, 3), (7, .iload_n 1, 1), (8, .iload_n 2, 1), (9, .invokestatic 57, 3), (12, .ifCond .ne 9, 3), (15, .iinc 2 1, 3), (18, .goto (-16), 3), (21, .iconst 0, 1), (22, .istore_n 3, 1), (23, .iload_n 3, 1), (24, .iconst 3, 1), (25, .if_icmp .ge 27, 3), (28, .aload_n 0, 1), (29, .iload_n 2, 1), (30, .iload_n 3, 1), (31, .iload_n 1, 1), (32, .iload_n 2, 1), (33, .iconst 0, 1), (34, .invokestatic 61, 3), (37, .iload_n 3, 1), (38, .invokevirtual 65, 3), (41, .ifCond .eq 5, 3), (44, .iconst 1, 1), (45, .ireturn, 1), (46, .iinc 3 1, 3), (49, .goto (-26), 3), (52, .iconst 0, 1), (53, .ireturn, 1)]
def mq_Tables_closes : ov_M := (6, ⟨"OneEye$Tables", "closes", "(I)Z"⟩, prog_8_method_5_code, 4, (some .boolean), mq_Tables_closes_c)
def mq_Tables_goesRound_c : List (Nat × Instr × Nat) := [(0, .iconst 0, 1), (1, .istore 5, 2), (3, .iload 5, 2), (5, .iconst 3, 1), (6, .if_icmp .ge 48, 3), (9, .aload_n 0, 1), (10, .iload_n 1, 1), (11, .iload 5, 2), (13, .iload_n 2, 1), (14, .invokevirtual 69, 3), (17, .ifCond .eq 31, 3), (20, .iload_n 3, 1), (21, .ifCond .ne 13, 3), (24, .iload 5, 2), (26, .iload 4, 2), (28, .if_icmp .ne 20, 3), (31, .goto 15, 3), (34, .aload_n 0, 1), (35, .iload 5, 2), (37, .iload_n 3, 1), (38, .iload 4, 2), (40, .invokevirtual 72, 3), (43, .ifCond .eq 5, 3), (46, .iconst 1, 1), (47, .ireturn, 1), (48, .iinc 5 1, 3), (51, .goto (-48), 3), (54, .iconst 0, 1), (55, .ireturn, 1)]
def mq_Tables_goesRound : ov_M := (6, ⟨"OneEye$Tables", "goesRound", "(IIII)Z"⟩, prog_8_method_6_code, 6, (some .boolean), mq_Tables_goesRound_c)
def mq_Tables_wouldLend_c : List (Nat × Instr × Nat) := [(0, .iload_n 1, 1), (1, .iconst 0, 1), (2, .iconst 3, 1), (3, .invokestatic 43, 3), (6, .ifCond .eq 24, 3), (9, .aload_n 0, 1), (10, .getfield 24, 3), (13, .iload_n 1, 1), (14, .iaload, 1), (15, .iconst 3, 1), (16, .iload_n 2, 1), (17, .imul, 1), (18, .iload_n 3, 1), (19, .iadd, 1), (20, .invokestatic 57, 3), (23, .ifCond .eq 7, 3), (26, .iconst 1, 1), (27, .goto 4, 3), (30, .iconst 0, 1), (31, .ireturn, 1)]
def mq_Tables_wouldLend : ov_M := (6, ⟨"OneEye$Tables", "wouldLend", "(III)Z"⟩, prog_8_method_8_code, 4, (some .boolean), mq_Tables_wouldLend_c)
def mq_Tables_goesOn_c : List (Nat × Instr × Nat) := [(0, .iconst 0, 1), (1, .istore 4, 2), (3, .iload 4, 2), (5, .iconst 4, 1), (6, .if_icmp .ge 38, 3), (9, .iload_n 2, 1), (10, .iload 4, 2), (12, .invokestatic 57, 3), (15, .ifCond .eq 23, 3), (18, .aload_n 0, 1), (19, .iload 4, 2), (21, .iload_n 1, 1), (22, .iload_n 2, 1), (23, .iload 4, 2), (25, .iconst 0, 1), (26, .invokestatic 61, 3), (29, .iload_n 3, 1), (30, .invokevirtual 65, 3), (33, .ifCond .eq 5, 3), (36, .iconst 1, 1), (37, .ireturn, 1), (38, .iinc 4 1, 3), (41, .goto (-38), 3), (44, .iconst 0, 1), (45, .ireturn, 1)]
def mq_Tables_goesOn : ov_M := (6, ⟨"OneEye$Tables", "goesOn", "(III)Z"⟩, prog_8_method_7_code, 5, (some .boolean), mq_Tables_goesOn_c)
def mq_Tables_copyFrom_c : List (Nat × Instr × Nat) := [(0, .aload_n 1, 1), (1, .getfield 9, 3), (4, .iconst 0, 1), (5, .aload_n 0, 1), (6, .getfield 9, 3), (9, .iconst 0, 1), (10, .bipush 108, 2), (12, .invokestatic 33, 3), (15, .aload_n 1, 1), (16, .getfield 15, 3), (19, .iconst 0, 1), (20, .aload_n 0, 1), (21, .getfield 15, 3), (24, .iconst 0, 1), (25, .bipush 9, 2), (27, .invokestatic 33, 3), (30, .aload_n 1, 1), (31, .getfield 18, 3), (34, .iconst 0, 1), (35, .aload_n 0, 1), (36, .getfield 18, 3), (39, .iconst 0, 1), (40, .bipush 9, 2), (42, .invokestatic 33, 3), (45, .aload_n 1, 1), (46, .getfield 21, 3), (49, .iconst 0, 1), (50, .aload_n 0, 1), (51, .getfield 21, 3), (54, .iconst 0, 1), (55, .bipush 9, 2), (57, .invokestatic 33, 3), (60, .aload_n 1, 1), (61, .getfield 24, 3), (64, .iconst 0, 1), (65, .aload_n 0, 1), (66, .getfield 24, 3), (69, .iconst 0, 1), (70, .iconst 4, 1), (71, .invokestatic 33, 3), (74, .aload_n 0, 1), (75, .aload_n 1, 1), (76, .getfield 39, 3), (79, .putfield 39, 3), (82, .return_, 1)]
def mq_Tables_copyFrom : ov_M := (6, ⟨"OneEye$Tables", "copyFrom", "(LOneEye$Tables;)V"⟩, prog_8_method_2_code, 2, none, mq_Tables_copyFrom_c)
def mq_Talk_init_c : List (Nat × Instr × Nat) := [(0, .aload_n 0, 1), (1, .invokespecial 3, 3), (4, .aload_n 0, 1), (5, .bipush 81, 2), (7, .newarray .long, 2), (9, .putfield 11, 3), (12, .aload_n 0, 1), (13, .bipush 81, 2), (15, .newarray .long, 2), (17, .putfield 15, 3), (20, .aload_n 0, 1), (21, .bipush 81, 2), (23, .newarray .long, 2), (25, .putfield 18, 3), (28, .return_, 1)]
def mq_Talk_init : ov_M := (7, ⟨"OneEye$Talk", "<init>", "()V"⟩, prog_9_method_1_code, 1, none, mq_Talk_init_c)
def mq_Talk_fewestActs_c : List (Nat × Instr × Nat) := [(0, .iload_n 1, 1), (1, .iconst 0, 1), (2, .bipush 80, 2), (4, .invokestatic 21, 3), (7, .ifCond .eq 13, 3), (10, .iload_n 2, 1), (11, .iconst 1, 1), (12, .bipush 63, 2), (14, .invokestatic 21, 3), (17, .ifCond .ne 5, 3), (20, .iconst (-1), 1), (21, .ireturn, 1), (22, .aload_n 0, 1), (23, .getfield 11, 3), (26, .lconst 0, 1), (27, .invokestatic 25, 3), (30, .aload_n 0, 1), (31, .getfield 18, 3), (34, .lconst 0, 1), (35, .invokestatic 25, 3), (38, .aload_n 0, 1), (39, .getfield 18, 3), (42, .iload_n 1, 1), (43, .lconst 1, 1), (44, .iload_n 2, 1), (45, .lshl, 1), (46, .lastore, 1), (47, .iconst 0, 1), (48, .istore_n 3, 1), (49, .iload_n 3, 1), (50, .bipush 100, 2), (52, .if_icmp .ge 58, 3), (55, .aload_n 0, 1), (56, .invokevirtual 31, 3), (59, .ifCond .eq 5, 3), (62, .iload_n 3, 1), (63, .ireturn, 1), (64, .iconst 0, 1), (65, .istore 4, 2), (67, .iload 4, 2), (69, .bipush 81, 2), (71, .if_icmp .ge 33, 3), (74, .aload_n 0, 1), (75, .getfield 15, 3), (78, .iload 4, 2), (80, .laload, 1), (81, .lconst 0, 1), (82, .lcmp, 1), (83, .ifCond .eq 15, 3), (86, .aload_n 0, 1), (87, .iload 4, 2), (89, .invokevirtual 35, 3), (92, .aload_n 0, 1), (93, .iload 4, 2), (95, .invokevirtual 39, 3), (98, .iinc 4 1, 3), (101, .goto (-34), 3), (104, .iinc 3 1, 3), (107, .goto (-58), 3), (110, .iconst (-1), 1), (111, .ireturn, 1)]
def mq_Talk_fewestActs : ov_M := (7, ⟨"OneEye$Talk", "fewestActs", "(II)I"⟩, prog_9_method_2_code, 5, (some .int), mq_Talk_fewestActs_c)
def mq_Talk_moveEdge_c : List (Nat × Instr × Nat) := [(0, .iconst 0, 1), (1, .istore_n 1, 1), (2, .iconst 0, 1), (3, .istore_n 2, 1), (4, .iload_n 2, 1), (5, .bipush 81, 2), (7, .if_icmp .ge 76, 3), (10, .aload_n 0, 1), (11, .getfield 15, 3), (14, .iload_n 2, 1), (15, .aload_n 0, 1), (16, .getfield 18, 3), (19, .iload_n 2, 1), (20, .laload, 1), (21, .aload_n 0, 1), (22, .getfield 11, 3), (25, .iload_n 2, 1), (26, .laload, 1), (27, .ldc2_w 42, 3), (30, .lxor, 1), (31, .land, 1), (32, .lastore, 1), (33, .aload_n 0, 1), (34, .getfield 11, 3), (37, .iload_n 2, 1), (38, .dup2, 1), (39, .laload, 1), (40, .aload_n 0, 1), (41, .getfield 15, 3), (44, .iload_n 2, 1), (45, .laload, 1), (46, .lor, 1), (47, .lastore, 1), (48, .aload_n 0, 1), (49, .getfield 18, 3), (52, .iload_n 2, 1), (53, .lconst 0, 1), (54, .lastore, 1), (55, .iload_n 1, 1), (56, .aload_n 0, 1), (57, .getfield 15, 3), (60, .iload_n 2, 1), (61, .laload, 1), (62, .bipush 63, 2), (64, .lushr, 1), (65, .lconst 0, 1), (66, .lcmp, 1), (67, .ifCond .eq 7, 3), (70, .iconst 1, 1), (71, .goto 4, 3), (74, .iconst 0, 1), (75, .ior, 1), (76, .istore_n 1, 1), (77, .iinc 2 1, 3), (80, .goto (-76), 3), (83, .iload_n 1, 1), (84, .ireturn, 1)]
def mq_Talk_moveEdge : ov_M := (7, ⟨"OneEye$Talk", "moveEdge", "()Z"⟩, prog_9_method_3_code, 3, (some .boolean), mq_Talk_moveEdge_c)
def mq_Talk_handOverFrom_c : List (Nat × Instr × Nat) := [(0, .iconst 0, 1), (1, .istore_n 2, 1), (2, .iload_n 2, 1), (3, .iconst 3, 1), (4, .if_icmp .ge 113, 3), (7, .aload_n 0, 1), (8, .getfield 18, 3), (11, .iload_n 1, 1), (12, .bipush 27, 2), (14, .irem, 1), (15, .bipush 27, 2), (17, .iload_n 2, 1), (18, .imul, 1), (19, .iadd, 1), (20, .dup2, 1), (21, .laload, 1), (22, .aload_n 0, 1), (23, .getfield 15, 3), (26, .iload_n 1, 1), (27, .laload, 1), (28, .lor, 1), (29, .lastore, 1), (30, .aload_n 0, 1), (31, .getfield 18, 3), (34, .iload_n 1, 1), (35, .bipush 27, 2), (37, .idiv, 1), (38, .bipush 27, 2), (40, .imul, 1), (41, .iload_n 1, 1), (42, .bipush 9, 2), (44, .irem, 1), (45, .iadd, 1), (46, .bipush 9, 2), (48, .iload_n 2, 1), (49, .imul, 1), (50, .iadd, 1), (51, .dup2, 1), (52, .laload, 1), (53, .aload_n 0, 1), (54, .getfield 15, 3), (57, .iload_n 1, 1), (58, .laload, 1), (59, .lor, 1), (60, .lastore, 1), (61, .aload_n 0, 1), (62, .getfield 18, 3), (65, .iload_n 1, 1), (66, .bipush 9, 2), (68, .idiv, 1), (69, .bipush 9, 2), (71, .imul, 1), (72, .iload_n 1, 1), (73, .iconst 3, 1), (74, .irem, 1), (75, .iadd, 1), (76, .iconst 3, 1), (77, .iload_n 2, 1), (78, .imul, 1), (79, .iadd, 1), (80, .dup2, 1), (81, .laload, 1), (82, .aload_n 0, 1), (83, .getfield 15, 3), (86, .iload_n 1, 1), (87, .laload, 1), (88, .lor, 1), (89, .lastore, 1), (90, .aload_n 0, 1), (91, .getfield 18, 3), (94, .iload_n 1, 1), (95, .iconst 3, 1), (96, .idiv, 1), (97, .iconst 3, 1), (98, .imul, 1), (99, .iload_n 2, 1), (100, .iadd, 1), (101, .dup2, 1), (102, .laload, 1), (103, .aload_n 0, 1), (104, .getfield 15, 3), (107, .iload_n 1, 1), (108, .laload, 1), (109, .lor, 1), (110, .lastore, 1), (111, .iinc 2 1, 3), (114, .goto (-112), 3), (117, .return_, 1)]
def mq_Talk_handOverFrom : ov_M := (7, ⟨"OneEye$Talk", "handOverFrom", "(I)V"⟩, prog_9_method_4_code, 3, none, mq_Talk_handOverFrom_c)
def mq_Talk_sayFrom_c : List (Nat × Instr × Nat) := [(0, .iload_n 1, 1), (1, .bipush 9, 2), (3, .idiv, 1), (4, .iconst 3, 1), (5, .irem, 1), (6, .istore_n 2, 1), (7, .iconst 3, 1), (8, .iload_n 1, 1), (9, .iconst 3, 1), (10, .irem, 1), (11, .iadd, 1), (12, .istore_n 3, 1), (13, .iload_n 1, 1), (14, .bipush 27, 2), (16, .idiv, 1), (17, .iconst 3, 1), (18, .irem, 1), (19, .istore 4, 2), (21, .iconst 3, 1), (22, .iload_n 1, 1), (23, .iconst 3, 1), (24, .idiv, 1), (25, .iconst 3, 1), (26, .irem, 1), (27, .iadd, 1), (28, .istore 5, 2), (30, .aload_n 0, 1), (31, .iload_n 1, 1), (32, .iload 4, 2), (34, .iload_n 2, 1), (35, .invokevirtual 44, 3), (38, .aload_n 0, 1), (39, .iload_n 1, 1), (40, .iload 4, 2), (42, .iload_n 3, 1), (43, .invokevirtual 44, 3), (46, .aload_n 0, 1), (47, .iload_n 1, 1), (48, .iload 5, 2), (50, .iload_n 2, 1), (51, .invokevirtual 44, 3), (54, .aload_n 0, 1), (55, .iload_n 1, 1), (56, .iload 5, 2), (58, .iload_n 3, 1), (59, .invokevirtual 44, 3), (62, .return_, 1)]
def mq_Talk_sayFrom : ov_M := (7, ⟨"OneEye$Talk", "sayFrom", "(I)V"⟩, prog_9_method_5_code, 6, none, mq_Talk_sayFrom_c)
def mq_Talk_say_c : List (Nat × Instr × Nat) := [(0, .iload_n 1, 1), (1, .iconst 0, 1), (2, .bipush 80, 2), (4, .invokestatic 21, 3), (7, .ifCond .eq 56, 3), (10, .iload_n 2, 1), (11, .iconst 0, 1), (12, .iconst 5, 1), (13, .invokestatic 21, 3), (16, .ifCond .eq 47, 3), (19, .iload_n 3, 1), (20, .iconst 0, 1), (21, .iconst 5, 1), (22, .invokestatic 21, 3), (25, .ifCond .eq 38, 3), (28, .aload_n 0, 1), (29, .getfield 18, 3), (32, .iload_n 1, 1), (33, .dup2, 1), (34, .laload, 1), (35, .aload_n 0, 1), (36, .getfield 15, 3), (39, .iload_n 1, 1), (40, .laload, 1), (41, .getstatic 48, 3), (44, .iload_n 2, 1), (45, .laload, 1), (46, .land, 1), (47, .getstatic 48, 3), (50, .iload_n 3, 1), (51, .laload, 1), (52, .ldc2_w 42, 3), (55, .lxor, 1), (56, .land, 1), (57, .iconst 1, 1), (58, .iload_n 3, 1), (59, .ishl, 1), (60, .lshl, 1), (61, .lor, 1), (62, .lastore, 1), (63, .return_, 1)]
def mq_Talk_say : ov_M := (7, ⟨"OneEye$Talk", "say", "(III)V"⟩, prog_9_method_6_code, 4, none, mq_Talk_say_c)
def mq_Three_init_c : List (Nat × Instr × Nat) := [(0, .aload_n 0, 1), (1, .invokespecial 3, 3), (4, .aload_n 0, 1), (5, .iconst 3, 1), (6, .newarray .int, 2), (8, .putfield 9, 3), (11, .aload_n 0, 1), (12, .new 15, 3), (15, .dup, 1), (16, .invokespecial 17, 3), (19, .putfield 18, 3), (22, .return_, 1)]
def mq_Three_init : ov_M := (8, ⟨"OneEye$Three", "<init>", "()V"⟩, prog_10_method_1_code, 1, none, mq_Three_init_c)
def mq_Three_follow_c : List (Nat × Instr × Nat) := [(0, .aload_n 0, 1), (1, .getfield 18, 3), (4, .aload_n 1, 1), (5, .invokevirtual 44, 3), (8, .aload_n 0, 1), (9, .iconst 0, 1), (10, .putfield 48, 3), (13, .aload_n 0, 1), (14, .getfield 54, 3), (17, .ifCond .eq 8, 3), (20, .aload_n 0, 1), (21, .iconst 0, 1), (22, .putfield 51, 3), (25, .return_, 1)]
def mq_Three_follow : ov_M := (8, ⟨"OneEye$Three", "follow", "(LOneEye$Plan;)V"⟩, prog_10_method_3_code, 2, none, mq_Three_follow_c)
def mq_Three_holderOf_c : List (Nat × Instr × Nat) := [(0, .iload_n 1, 1), (1, .iconst 0, 1), (2, .iconst 2, 1), (3, .invokestatic 63, 3), (6, .ifCond .eq 21, 3), (9, .aload_n 0, 1), (10, .getfield 9, 3), (13, .iload_n 1, 1), (14, .iaload, 1), (15, .iconst 0, 1), (16, .iconst 2, 1), (17, .invokestatic 63, 3), (20, .ifCond .eq 7, 3), (23, .iconst 1, 1), (24, .goto 4, 3), (27, .iconst 0, 1), (28, .istore_n 2, 1), (29, .iload_n 2, 1), (30, .ifCond .eq 12, 3), (33, .aload_n 0, 1), (34, .getfield 9, 3), (37, .iload_n 1, 1), (38, .iaload, 1), (39, .goto 4, 3), (42, .iconst (-1), 1), (43, .ireturn, 1)]
def mq_Three_holderOf : ov_M := (8, ⟨"OneEye$Three", "holderOf", "(I)I"⟩, prog_10_method_6_code, 3, (some .int), mq_Three_holderOf_c)
def mq_Three_occupy_c : List (Nat × Instr × Nat) := [(0, .aload_n 0, 1), (1, .iload_n 1, 1), (2, .putfield 54, 3), (5, .aload_n 0, 1), (6, .iload_n 2, 1), (7, .putfield 51, 3), (10, .aload_n 0, 1), (11, .iload_n 3, 1), (12, .putfield 57, 3), (15, .aload_n 0, 1), (16, .iload 4, 2), (18, .putfield 60, 3), (21, .return_, 1)]
def mq_Three_occupy : ov_M := (8, ⟨"OneEye$Three", "occupy", "(IIII)V"⟩, prog_10_method_4_code, 5, none, mq_Three_occupy_c)
def mq_Three_firstWithEmptyHands_c : List (Nat × Instr × Nat) := [(0, .iconst 0, 1), (1, .istore_n 1, 1), (2, .iload_n 1, 1), (3, .iconst 3, 1), (4, .if_icmp .ge 41, 3), (7, .aload_n 0, 1), (8, .getfield 9, 3), (11, .iconst 0, 1), (12, .iaload, 1), (13, .iload_n 1, 1), (14, .if_icmp .eq 25, 3), (17, .aload_n 0, 1), (18, .getfield 9, 3), (21, .iconst 1, 1), (22, .iaload, 1), (23, .iload_n 1, 1), (24, .if_icmp .eq 15, 3), (27, .aload_n 0, 1), (28, .getfield 9, 3), (31, .iconst 2, 1), (32, .iaload, 1), (33, .iload_n 1, 1), (34, .if_icmp .eq 5, 3), (37, .iload_n 1, 1), (38, .ireturn, 1), (39, .iinc 1 1, 3), (42, .goto (-40), 3), (45, .iconst 0, 1), (46, .ireturn, 1)]
def mq_Three_firstWithEmptyHands : ov_M := (8, ⟨"OneEye$Three", "firstWithEmptyHands", "()I"⟩, prog_10_method_10_code, 2, (some .int), mq_Three_firstWithEmptyHands_c)
def mq_Three_placeOf_c : List (Nat × Instr × Nat) := [(0, .iload_n 1, 1), (1, .iconst 0, 1), (2, .iconst 2, 1), (3, .invokestatic 63, 3), (6, .ifCond .eq 12, 3), (9, .aload_n 0, 1), (10, .getfield 9, 3), (13, .iload_n 1, 1), (14, .iaload, 1), (15, .goto 4, 3), (18, .iconst (-1), 1), (19, .ireturn, 1)]
def mq_Three_placeOf : ov_M := (8, ⟨"OneEye$Three", "placeOf", "(I)I"⟩, prog_10_method_5_code, 2, (some .int), mq_Three_placeOf_c)
def mq_Three_tell_c : List (Nat × Instr × Nat) := [(0, .iload_n 1, 1), (1, .tableswitch 90 0 7 #[47, 52, 57, 62, 67, 75, 80, 85], 47), (48, .aload_n 0, 1), (49, .getfield 22, 3), (52, .ireturn, 1), (53, .aload_n 0, 1), (54, .getfield 26, 3), (57, .ireturn, 1), (58, .aload_n 0, 1), (59, .getfield 29, 3), (62, .ireturn, 1), (63, .aload_n 0, 1), (64, .getfield 32, 3), (67, .ireturn, 1), (68, .aload_n 0, 1), (69, .getfield 18, 3), (72, .getfield 78, 3), (75, .ireturn, 1), (76, .aload_n 0, 1), (77, .getfield 48, 3), (80, .ireturn, 1), (81, .aload_n 0, 1), (82, .getfield 51, 3), (85, .ireturn, 1), (86, .aload_n 0, 1), (87, .getfield 35, 3), (90, .ireturn, 1), (91, .iconst (-1), 1), (92, .ireturn, 1)]
def mq_Three_tell : ov_M := (8, ⟨"OneEye$Three", "tell", "(I)I"⟩, prog_10_method_11_code, 2, (some .int), mq_Three_tell_c)
def mq_Three_settledPlaceOf_c : List (Nat × Instr × Nat) := [(0, .aload_n 0, 1), (1, .iload_n 1, 1), (2, .invokevirtual 67, 3), (5, .iconst 3, 1), (6, .if_icmp .ne 10, 3), (9, .aload_n 0, 1), (10, .getfield 60, 3), (13, .goto 8, 3), (16, .aload_n 0, 1), (17, .iload_n 1, 1), (18, .invokevirtual 67, 3), (21, .istore_n 2, 1), (22, .iload_n 2, 1), (23, .iconst 0, 1), (24, .iconst 2, 1), (25, .invokestatic 63, 3), (28, .ifCond .eq 7, 3), (31, .iload_n 2, 1), (32, .goto 4, 3), (35, .iconst 0, 1), (36, .ireturn, 1)]
def mq_Three_settledPlaceOf : ov_M := (8, ⟨"OneEye$Three", "settledPlaceOf", "(I)I"⟩, prog_10_method_7_code, 3, (some .int), mq_Three_settledPlaceOf_c)
def mq_Three_sendWord_c : List (Nat × Instr × Nat) := [(0, .aload_n 0, 1), (1, .iconst 2, 1), (2, .invokevirtual 71, 3), (5, .istore_n 3, 1), (6, .iload_n 1, 1), (7, .iload_n 3, 1), (8, .invokestatic 74, 3), (11, .istore 4, 2), (13, .iload 4, 2), (15, .ifCond .ne 12, 3), (18, .iload_n 3, 1), (19, .aload_n 0, 1), (20, .iconst 0, 1), (21, .invokevirtual 71, 3), (24, .if_icmp .ne 7, 3), (27, .iconst 0, 1), (28, .goto 4, 3), (31, .iconst 1, 1), (32, .istore 5, 2), (34, .iload_n 2, 1), (35, .ifCond .ne 6, 3), (38, .iload 5, 2), (40, .ireturn, 1), (41, .iload 5, 2), (43, .ifCond .ne 16, 3), (46, .iload 4, 2), (48, .ifCond .ne 7, 3), (51, .iconst 1, 1), (52, .goto 16, 3), (55, .iconst 0, 1), (56, .goto 12, 3), (59, .iload_n 1, 1), (60, .ifCond .ne 7, 3), (63, .iconst 1, 1), (64, .goto 4, 3), (67, .iconst 0, 1), (68, .istore 6, 2), (70, .iload 5, 2), (72, .aload_n 0, 1), (73, .getfield 22, 3), (76, .imul, 1), (77, .iload 6, 2), (79, .ifCond .eq 7, 3), (82, .iconst 1, 1), (83, .goto 4, 3), (86, .iconst 0, 1), (87, .iadd, 1), (88, .iconst 1, 1), (89, .iadd, 1), (90, .ireturn, 1)]
def mq_Three_sendWord : ov_M := (8, ⟨"OneEye$Three", "sendWord", "(IZ)I"⟩, prog_10_method_9_code, 7, (some .int), mq_Three_sendWord_c)
def mq_Three_mouthAndEar_c : List (Nat × Instr × Nat) := [(0, .iconst 3, 1), (1, .aload_n 0, 1), (2, .iconst 2, 1), (3, .invokevirtual 71, 3), (6, .imul, 1), (7, .aload_n 0, 1), (8, .iconst 1, 1), (9, .invokevirtual 71, 3), (12, .iadd, 1), (13, .ireturn, 1)]
def mq_Three_mouthAndEar : ov_M := (8, ⟨"OneEye$Three", "mouthAndEar", "()I"⟩, prog_10_method_8_code, 1, (some .int), mq_Three_mouthAndEar_c)
def mq_Three_copyFrom_c : List (Nat × Instr × Nat) := [(0, .aload_n 0, 1), (1, .aload_n 1, 1), (2, .getfield 22, 3), (5, .putfield 22, 3), (8, .aload_n 0, 1), (9, .aload_n 1, 1), (10, .getfield 26, 3), (13, .putfield 26, 3), (16, .aload_n 0, 1), (17, .aload_n 1, 1), (18, .getfield 29, 3), (21, .putfield 29, 3), (24, .aload_n 0, 1), (25, .aload_n 1, 1), (26, .getfield 32, 3), (29, .putfield 32, 3), (32, .aload_n 0, 1), (33, .aload_n 1, 1), (34, .getfield 35, 3), (37, .putfield 35, 3), (40, .aload_n 1, 1), (41, .getfield 9, 3), (44, .iconst 0, 1), (45, .aload_n 0, 1), (46, .getfield 9, 3), (49, .iconst 0, 1), (50, .iconst 3, 1), (51, .invokestatic 38, 3), (54, .aload_n 0, 1), (55, .getfield 18, 3), (58, .aload_n 1, 1), (59, .getfield 18, 3), (62, .invokevirtual 44, 3), (65, .aload_n 0, 1), (66, .aload_n 1, 1), (67, .getfield 48, 3), (70, .putfield 48, 3), (73, .aload_n 0, 1), (74, .aload_n 1, 1), (75, .getfield 51, 3), (78, .putfield 51, 3), (81, .aload_n 0, 1), (82, .aload_n 1, 1), (83, .getfield 54, 3), (86, .putfield 54, 3), (89, .aload_n 0, 1), (90, .aload_n 1, 1), (91, .getfield 57, 3), (94, .putfield 57, 3), (97, .aload_n 0, 1), (98, .aload_n 1, 1), (99, .getfield 60, 3), (102, .putfield 60, 3), (105, .return_, 1)]
def mq_Three_copyFrom : ov_M := (8, ⟨"OneEye$Three", "copyFrom", "(LOneEye$Three;)V"⟩, prog_10_method_2_code, 2, none, mq_Three_copyFrom_c)
def mq_Way_init_c : List (Nat × Instr × Nat) := [(0, .aload_n 0, 1), (1, .invokespecial 3, 3), (4, .aload_n 0, 1), (5, .bipush 12, 2), (7, .newarray .int, 2), (9, .putfield 9, 3), (12, .aload_n 0, 1), (13, .bipush 36, 2), (15, .newarray .int, 2), (17, .putfield 15, 3), (20, .return_, 1)]
def mq_Way_init : ov_M := (9, ⟨"OneEye$Way", "<init>", "()V"⟩, prog_11_method_1_code, 1, none, mq_Way_init_c)
def mq_Way_find_c : List (Nat × Instr × Nat) := [(0, .iload_n 2, 1), (1, .bipush 12, 2), (3, .invokestatic 18, 3), (6, .iconst 1, 1), (7, .isub, 1), (8, .istore 4, 2), (10, .aload_n 0, 1), (11, .iconst 0, 1), (12, .putfield 24, 3), (15, .aload_n 0, 1), (16, .getfield 9, 3), (19, .iconst 0, 1), (20, .invokestatic 28, 3), (23, .iconst 0, 1), (24, .istore 5, 2), (26, .iload 5, 2), (28, .iconst 3, 1), (29, .if_icmp .ge 62, 3), (32, .iload 4, 2), (34, .istore 6, 2), (36, .iload 6, 2), (38, .ifCond .lt 31, 3), (41, .aload_n 0, 1), (42, .aload_n 1, 1), (43, .iload 5, 2), (45, .iload 6, 2), (47, .iload 6, 2), (49, .iload 4, 2), (51, .if_icmp .ne 7, 3), (54, .iconst 1, 1), (55, .goto 4, 3), (58, .iconst 0, 1), (59, .iload_n 3, 1), (60, .invokevirtual 34, 3), (63, .iinc 6 (-1), 3), (66, .goto (-30), 3), (69, .aload_n 0, 1), (70, .dup, 1), (71, .getfield 24, 3), (74, .aload_n 0, 1), (75, .iload 4, 2), (77, .iload_n 3, 1), (78, .invokevirtual 38, 3), (81, .iadd, 1), (82, .putfield 24, 3), (85, .iinc 5 1, 3), (88, .goto (-62), 3), (91, .return_, 1)]
def mq_Way_find : ov_M := (9, ⟨"OneEye$Way", "find", "([III)V"⟩, prog_11_method_2_code, 7, none, mq_Way_find_c)
def mq_Way_weigh_c : List (Nat × Instr × Nat) := [(0, .iconst 0, 1), (1, .istore 6, 2), (3, .iload 6, 2), (5, .iconst 3, 1), (6, .if_icmp .ge 69, 3), (9, .aload_n 0, 1), (10, .iload_n 3, 1), (11, .iconst 1, 1), (12, .iadd, 1), (13, .iload 6, 2), (15, .iload 5, 2), (17, .invokevirtual 41, 3), (20, .istore 7, 2), (22, .iload 4, 2), (24, .ifCond .eq 7, 3), (27, .iconst 0, 1), (28, .goto 16, 3), (31, .aload_n 0, 1), (32, .iload_n 3, 1), (33, .iconst 1, 1), (34, .iadd, 1), (35, .iload 7, 2), (37, .iload 6, 2), (39, .iload 5, 2), (41, .invokevirtual 45, 3), (44, .istore 8, 2), (46, .aload_n 0, 1), (47, .getfield 15, 3), (50, .iload_n 3, 1), (51, .iconst 3, 1), (52, .imul, 1), (53, .iload 6, 2), (55, .iadd, 1), (56, .aload_n 1, 1), (57, .iload_n 3, 1), (58, .iload 6, 2), (60, .iload_n 2, 1), (61, .invokestatic 49, 3), (64, .iaload, 1), (65, .iload 8, 2), (67, .iadd, 1), (68, .iastore, 1), (69, .iinc 6 1, 3), (72, .goto (-69), 3), (75, .return_, 1)]
def mq_Way_weigh : ov_M := (9, ⟨"OneEye$Way", "weigh", "([IIIZI)V"⟩, prog_11_method_3_code, 9, none, mq_Way_weigh_c)
def mq_Way_cheapest_c : List (Nat × Instr × Nat) := [(0, .iconst 0, 1), (1, .istore 4, 2), (3, .iconst 1, 1), (4, .istore 5, 2), (6, .iload 5, 2), (8, .iconst 3, 1), (9, .if_icmp .ge 34, 3), (12, .aload_n 0, 1), (13, .iload_n 1, 1), (14, .iload 5, 2), (16, .iload_n 2, 1), (17, .iload_n 3, 1), (18, .invokevirtual 45, 3), (21, .aload_n 0, 1), (22, .iload_n 1, 1), (23, .iload 4, 2), (25, .iload_n 2, 1), (26, .iload_n 3, 1), (27, .invokevirtual 45, 3), (30, .if_icmp .ge 7, 3), (33, .iload 5, 2), (35, .istore 4, 2), (37, .iinc 5 1, 3), (40, .goto (-34), 3), (43, .iload 4, 2), (45, .ireturn, 1)]
def mq_Way_cheapest : ov_M := (9, ⟨"OneEye$Way", "cheapest", "(III)I"⟩, prog_11_method_6_code, 6, (some .int), mq_Way_cheapest_c)
def mq_Way_costFrom_c : List (Nat × Instr × Nat) := [(0, .iload_n 1, 1), (1, .iconst 3, 1), (2, .imul, 1), (3, .iload_n 2, 1), (4, .iadd, 1), (5, .istore 5, 2), (7, .iload 5, 2), (9, .iconst 0, 1), (10, .bipush 35, 2), (12, .invokestatic 52, 3), (15, .ifCond .eq 13, 3), (18, .aload_n 0, 1), (19, .getfield 15, 3), (22, .iload 5, 2), (24, .iaload, 1), (25, .goto 4, 3), (28, .iconst 0, 1), (29, .istore 6, 2), (31, .iload 6, 2), (33, .iload_n 2, 1), (34, .iload_n 3, 1), (35, .if_icmp .ne 7, 3), (38, .iconst 0, 1), (39, .goto 5, 3), (42, .iload 4, 2), (44, .iadd, 1), (45, .ireturn, 1)]
def mq_Way_costFrom : ov_M := (9, ⟨"OneEye$Way", "costFrom", "(IIII)I"⟩, prog_11_method_5_code, 7, (some .int), mq_Way_costFrom_c)
def mq_Way_walk_c : List (Nat × Instr × Nat) := [(0, .aload_n 0, 1), (1, .iconst 0, 1), (2, .iconst 0, 1), (3, .iconst 0, 1), (4, .invokevirtual 41, 3), (7, .istore_n 3, 1), (8, .aload_n 0, 1), (9, .iconst 0, 1), (10, .iload_n 3, 1), (11, .iload_n 3, 1), (12, .iconst 0, 1), (13, .invokevirtual 45, 3), (16, .istore 4, 2), (18, .iconst 0, 1), (19, .istore 5, 2), (21, .iload 5, 2), (23, .iload_n 1, 1), (24, .if_icmp .gt 41, 3), (27, .iload 5, 2), (29, .ifCond .le 12, 3), (32, .aload_n 0, 1), (33, .iload 5, 2), (35, .iload_n 3, 1), (36, .iload_n 2, 1), (37, .invokevirtual 41, 3), (40, .istore_n 3, 1), (41, .aload_n 0, 1), (42, .getfield 9, 3), (45, .iload 5, 2), (47, .iconst 3, 1), (48, .aload_n 0, 1), (49, .getfield 9, 3), (52, .iload 5, 2), (54, .iaload, 1), (55, .imul, 1), (56, .iload_n 3, 1), (57, .iadd, 1), (58, .iastore, 1), (59, .iinc 5 1, 3), (62, .goto (-41), 3), (65, .iload 4, 2), (67, .ireturn, 1)]
def mq_Way_walk : ov_M := (9, ⟨"OneEye$Way", "walk", "(II)I"⟩, prog_11_method_4_code, 6, (some .int), mq_Way_walk_c)
def mq_World_init_c : List (Nat × Instr × Nat) := [(0, .aload_n 0, 1), (1, .invokespecial 3, 3), (4, .aload_n 0, 1), (5, .iconst 4, 1), (6, .anewarray 9, 3), (9, .putfield 11, 3), (12, .aload_n 0, 1), (13, .bipush 12, 2), (15, .anewarray 17, 3), (18, .putfield 19, 3), (21, .aload_n 0, 1), (22, .bipush 10, 2), (24, .newarray .int, 2), (26, .putfield 23, 3), (29, .aload_n 0, 1), (30, .new 27, 3), (33, .dup, 1), (34, .invokespecial 29, 3), (37, .putfield 30, 3), (40, .aload_n 0, 1), (41, .new 34, 3), (44, .dup, 1), (45, .invokespecial 36, 3), (48, .putfield 37, 3), (51, .aload_n 0, 1), (52, .bipush 20, 2), (54, .newarray .int, 2), (56, .putfield 41, 3), (59, .aload_n 0, 1), (60, .iconst (-1), 1), (61, .putfield 44, 3), (64, .iconst 0, 1), (65, .istore_n 1, 1), (66, .iload_n 1, 1), (67, .iconst 4, 1), (68, .if_icmp .ge 22, 3), (71, .aload_n 0, 1), (72, .getfield 11, 3), (75, .iload_n 1, 1), (76, .new 9, 3), (79, .dup, 1), (80, .invokespecial 48, 3), (83, .aastore, 1), (84, .iinc 1 1, 3), (87, .goto (-21), 3), (90, .iconst 0, 1), (91, .istore_n 1, 1), (92, .iload_n 1, 1), (93, .bipush 12, 2), (95, .if_icmp .ge 22, 3), (98, .aload_n 0, 1), (99, .getfield 19, 3), (102, .iload_n 1, 1), (103, .new 17, 3), (106, .dup, 1), (107, .invokespecial 49, 3), (110, .aastore, 1), (111, .iinc 1 1, 3), (114, .goto (-22), 3), (117, .return_, 1)]
def mq_World_init : ov_M := (10, ⟨"OneEye$World", "<init>", "()V"⟩, prog_12_method_1_code, 2, none, mq_World_init_c)
def mq_World_addThree_c : List (Nat × Instr × Nat) := [(0, .aload_n 0, 1), (1, .getfield 57, 3), (4, .iconst 0, 1), (5, .iconst 3, 1), (6, .invokestatic 81, 3), (9, .ifCond .ne 5, 3), (12, .iconst (-1), 1), (13, .ireturn, 1), (14, .aload_n 0, 1), (15, .getfield 11, 3), (18, .aload_n 0, 1), (19, .getfield 57, 3), (22, .aaload, 1), (23, .iload_n 1, 1), (24, .putfield 85, 3), (27, .aload_n 0, 1), (28, .getfield 11, 3), (31, .aload_n 0, 1), (32, .getfield 57, 3), (35, .aaload, 1), (36, .iload_n 2, 1), (37, .putfield 88, 3), (40, .aload_n 0, 1), (41, .dup, 1), (42, .getfield 57, 3), (45, .iconst 1, 1), (46, .iadd, 1), (47, .putfield 57, 3), (50, .aload_n 0, 1), (51, .getfield 57, 3), (54, .iconst 1, 1), (55, .isub, 1), (56, .ireturn, 1)]
def mq_World_addThree : ov_M := (10, ⟨"OneEye$World", "addThree", "(II)I"⟩, prog_12_method_6_code, 3, (some .int), mq_World_addThree_c)
def mq_World_personAt_c : List (Nat × Instr × Nat) := [(0, .iload_n 1, 1), (1, .iconst 0, 1), (2, .iconst 3, 1), (3, .aload_n 0, 1), (4, .getfield 57, 3), (7, .imul, 1), (8, .iconst 1, 1), (9, .isub, 1), (10, .invokestatic 81, 3), (13, .ifCond .eq 18, 3), (16, .iload_n 1, 1), (17, .bipush 12, 2), (19, .if_icmp .ge 12, 3), (22, .aload_n 0, 1), (23, .getfield 19, 3), (26, .iload_n 1, 1), (27, .aaload, 1), (28, .goto 4, 3), (31, .aconst_null, 1), (32, .areturn, 1)]
def mq_World_personAt : ov_M := (10, ⟨"OneEye$World", "personAt", "(I)LOneEye$Person;"⟩, prog_12_method_4_code, 2, (some (.object "OneEye$Person")), mq_World_personAt_c)
def mq_World_threeAt_c : List (Nat × Instr × Nat) := [(0, .iload_n 1, 1), (1, .iconst 0, 1), (2, .aload_n 0, 1), (3, .getfield 57, 3), (6, .iconst 1, 1), (7, .isub, 1), (8, .invokestatic 81, 3), (11, .ifCond .eq 17, 3), (14, .iload_n 1, 1), (15, .iconst 4, 1), (16, .if_icmp .ge 12, 3), (19, .aload_n 0, 1), (20, .getfield 11, 3), (23, .iload_n 1, 1), (24, .aaload, 1), (25, .goto 4, 3), (28, .aconst_null, 1), (29, .areturn, 1)]
def mq_World_threeAt : ov_M := (10, ⟨"OneEye$World", "threeAt", "(I)LOneEye$Three;"⟩, prog_12_method_3_code, 2, (some (.object "OneEye$Three")), mq_World_threeAt_c)
def mq_World_passMinute_c : List (Nat × Instr × Nat) := [(0, .aload_n 0, 1), (1, .getfield 78, 3), (4, .sipush 240, 3), (7, .irem, 1), (8, .istore_n 1, 1), (9, .iload_n 1, 1), (10, .ifCond .ne 16, 3), (13, .aload_n 0, 1), (14, .bipush 120, 2), (16, .aload_n 0, 1), (17, .bipush 61, 2), (19, .invokevirtual 104, 3), (22, .iadd, 1), (23, .putfield 44, 3), (26, .iconst 0, 1), (27, .istore_n 2, 1), (28, .iload_n 2, 1), (29, .aload_n 0, 1), (30, .getfield 57, 3), (33, .if_icmp .ge 27, 3), (36, .aload_n 0, 1), (37, .iload_n 2, 1), (38, .iload_n 1, 1), (39, .aload_n 0, 1), (40, .getfield 44, 3), (43, .if_icmp .lt 7, 3), (46, .iconst 1, 1), (47, .goto 4, 3), (50, .iconst 0, 1), (51, .invokevirtual 107, 3), (54, .iinc 2 1, 3), (57, .goto (-29), 3), (60, .aload_n 0, 1), (61, .invokevirtual 111, 3), (64, .istore_n 2, 1), (65, .iconst 0, 1), (66, .istore_n 3, 1), (67, .iload_n 3, 1), (68, .aload_n 0, 1), (69, .getfield 57, 3), (72, .if_icmp .ge 15, 3), (75, .aload_n 0, 1), (76, .iload_n 3, 1), (77, .iload_n 2, 1), (78, .invokevirtual 115, 3), (81, .iinc 3 1, 3), (84, .goto (-17), 3), (87, .aload_n 0, 1), (88, .dup, 1), (89, .getfield 78, 3), (92, .iconst 1, 1), (93, .iadd, 1), (94, .putfield 78, 3), (97, .return_, 1)]
def mq_World_passMinute : ov_M := (10, ⟨"OneEye$World", "passMinute", "()V"⟩, prog_12_method_9_code, 4, none, mq_World_passMinute_c)
def mq_World_draw_c : List (Nat × Instr × Nat) := [(0, .aload_n 0, 1), (1, .ldc 119, 2), (3, .aload_n 0, 1), (4, .getfield 75, 3), (7, .imul, 1), (8, .ldc 120, 2), (10, .iadd, 1), (11, .putfield 75, 3), (14, .iload_n 1, 1), (15, .iconst 1, 1), (16, .if_icmp .ge 7, 3), (19, .iconst 0, 1), (20, .goto 12, 3), (23, .aload_n 0, 1), (24, .getfield 75, 3), (27, .bipush 8, 2), (29, .iushr, 1), (30, .iload_n 1, 1), (31, .irem, 1), (32, .ireturn, 1)]
def mq_World_draw : ov_M := (10, ⟨"OneEye$World", "draw", "(I)I"⟩, prog_12_method_10_code, 2, (some .int), mq_World_draw_c)
def mq_World_act_c : List (Nat × Instr × Nat) := [(0, .aload_n 0, 1), (1, .iload_n 1, 1), (2, .invokevirtual 121, 3), (5, .astore_n 3, 1), (6, .aload_n 3, 1), (7, .ifnonnull 4, 3), (10, .return_, 1), (11, .aload_n 3, 1), (12, .getfield 125, 3), (15, .ifCond .ne 40, 3), (18, .aload_n 3, 1), (19, .getfield 128, 3), (22, .aload_n 3, 1), (23, .getfield 131, 3), (26, .getfield 135, 3), (29, .if_icmp .ge 26, 3), (32, .aload_n 3, 1), (33, .dup, 1), (34, .getfield 128, 3), (37, .iconst 1, 1), (38, .iadd, 1), (39, .putfield 128, 3), (42, .aload_n 0, 1), (43, .iload_n 1, 1), (44, .aload_n 3, 1), (45, .aload_n 3, 1), (46, .getfield 128, 3), (49, .iconst 1, 1), (50, .isub, 1), (51, .iload_n 2, 1), (52, .invokevirtual 140, 3), (55, .aload_n 3, 1), (56, .getfield 125, 3), (59, .ifCond .le 8, 3), (62, .aload_n 0, 1), (63, .aload_n 3, 1), (64, .invokevirtual 144, 3), (67, .return_, 1)]
def mq_World_act : ov_M := (10, ⟨"OneEye$World", "act", "(IZ)V"⟩, prog_12_method_11_code, 4, none, mq_World_act_c)
def mq_World_begin_c : List (Nat × Instr × Nat) := [(0, .iload_n 3, 1), (1, .iconst 0, 1), (2, .bipush 29, 2), (4, .invokestatic 81, 3), (7, .ifCond .ne 4, 3), (10, .return_, 1), (11, .aload_n 2, 1), (12, .getfield 131, 3), (15, .astore 5, 2), (17, .aload 5, 2), (19, .getfield 147, 3), (22, .iload_n 3, 1), (23, .iaload, 1), (24, .istore 6, 2), (26, .aload 5, 2), (28, .getfield 150, 3), (31, .iload_n 3, 1), (32, .iaload, 1), (33, .istore 7, 2), (35, .iload 6, 2), (37, .tableswitch 131 0 5 #[39, 56, 72, 72, 101, 113], 39), (76, .aload_n 0, 1), (77, .aload_n 2, 1), (78, .aload 5, 2), (80, .getfield 153, 3), (83, .iload_n 3, 1), (84, .iaload, 1), (85, .iload 7, 2), (87, .invokevirtual 156, 3), (90, .goto 78, 3), (93, .iload 4, 2), (95, .ifCond .ne 73, 3), (98, .aload_n 0, 1), (99, .iload_n 1, 1), (100, .aload_n 2, 1), (101, .iload 7, 2), (103, .invokevirtual 160, 3), (106, .goto 62, 3), (109, .aload_n 0, 1), (110, .iload_n 1, 1), (111, .aload_n 2, 1), (112, .iload 7, 2), (114, .aload 5, 2), (116, .getfield 164, 3), (119, .iload_n 3, 1), (120, .iaload, 1), (121, .iload 6, 2), (123, .iconst 3, 1), (124, .if_icmp .ne 7, 3), (127, .iconst 1, 1), (128, .goto 4, 3), (131, .iconst 0, 1), (132, .invokevirtual 167, 3), (135, .goto 33, 3), (138, .aload_n 2, 1), (139, .iconst 4, 1), (140, .iload 7, 2), (142, .iconst (-1), 1), (143, .iconst (-1), 1), (144, .invokevirtual 171, 3), (147, .goto 21, 3), (150, .aload_n 2, 1), (151, .iconst 5, 1), (152, .iconst 2, 1), (153, .aload 5, 2), (155, .getfield 153, 3), (158, .iload_n 3, 1), (159, .iaload, 1), (160, .iload 7, 2), (162, .invokevirtual 171, 3), (165, .goto 3, 3), (168, .return_, 1)]
def mq_World_begin : ov_M := (10, ⟨"OneEye$World", "begin", "(ILOneEye$Three;IZ)V"⟩, prog_12_method_12_code, 8, none, mq_World_begin_c)
def mq_World_give_c : List (Nat × Instr × Nat) := [(0, .aload_n 1, 1), (1, .iload_n 2, 1), (2, .invokevirtual 175, 3), (5, .istore 4, 2), (7, .iload 4, 2), (9, .iconst (-1), 1), (10, .if_icmp .eq 9, 3), (13, .iload 4, 2), (15, .iload_n 3, 1), (16, .if_icmp .ne 4, 3), (19, .return_, 1), (20, .aload_n 1, 1), (21, .getfield 178, 3), (24, .iload_n 2, 1), (25, .iconst 3, 1), (26, .iastore, 1), (27, .aload_n 1, 1), (28, .iconst 0, 1), (29, .aload_n 1, 1), (30, .getfield 85, 3), (33, .iload_n 2, 1), (34, .iload_n 3, 1), (35, .invokevirtual 171, 3), (38, .return_, 1)]
def mq_World_give : ov_M := (10, ⟨"OneEye$World", "give", "(LOneEye$Three;II)V"⟩, prog_12_method_13_code, 5, none, mq_World_give_c)
def mq_World_see_c : List (Nat × Instr × Nat) := [(0, .aload_n 2, 1), (1, .iconst 0, 1), (2, .invokevirtual 175, 3), (5, .istore 4, 2), (7, .aload_n 0, 1), (8, .iload_n 1, 1), (9, .iload 4, 2), (11, .invokevirtual 92, 3), (14, .astore 5, 2), (16, .aload 5, 2), (18, .ifnull 44, 3), (21, .iload_n 3, 1), (22, .iconst 0, 1), (23, .bipush 9, 2), (25, .invokestatic 81, 3), (28, .ifCond .eq 34, 3), (31, .aload 5, 2), (33, .iload_n 3, 1), (34, .aload_n 0, 1), (35, .getfield 23, 3), (38, .iload_n 3, 1), (39, .iaload, 1), (40, .iconst 1, 1), (41, .if_icmp .ne 7, 3), (44, .iconst 1, 1), (45, .goto 4, 3), (48, .iconst 2, 1), (49, .iconst 3, 1), (50, .iload_n 1, 1), (51, .imul, 1), (52, .iload 4, 2), (54, .iadd, 1), (55, .aload_n 0, 1), (56, .getfield 78, 3), (59, .invokevirtual 181, 3), (62, .return_, 1)]
def mq_World_see : ov_M := (10, ⟨"OneEye$World", "see", "(ILOneEye$Three;I)V"⟩, prog_12_method_14_code, 6, none, mq_World_see_c)
def mq_World_personOf_c : List (Nat × Instr × Nat) := [(0, .iload_n 1, 1), (1, .iconst 0, 1), (2, .aload_n 0, 1), (3, .getfield 57, 3), (6, .iconst 1, 1), (7, .isub, 1), (8, .invokestatic 81, 3), (11, .ifCond .eq 21, 3), (14, .iload_n 1, 1), (15, .iconst 4, 1), (16, .if_icmp .ge 16, 3), (19, .iload_n 2, 1), (20, .iconst 0, 1), (21, .iconst 2, 1), (22, .invokestatic 81, 3), (25, .ifCond .eq 7, 3), (28, .iconst 1, 1), (29, .goto 4, 3), (32, .iconst 0, 1), (33, .istore_n 3, 1), (34, .iload_n 3, 1), (35, .ifCond .eq 16, 3), (38, .aload_n 0, 1), (39, .getfield 19, 3), (42, .iconst 3, 1), (43, .iload_n 1, 1), (44, .imul, 1), (45, .iload_n 2, 1), (46, .iadd, 1), (47, .aaload, 1), (48, .goto 4, 3), (51, .aconst_null, 1), (52, .areturn, 1)]
def mq_World_personOf : ov_M := (10, ⟨"OneEye$World", "personOf", "(II)LOneEye$Person;"⟩, prog_12_method_5_code, 4, (some (.object "OneEye$Person")), mq_World_personOf_c)
def mq_World_speak_c : List (Nat × Instr × Nat) := [(0, .aload_n 0, 1), (1, .iload 4, 2), (3, .invokevirtual 121, 3), (6, .astore 6, 2), (8, .aload 6, 2), (10, .ifnonnull 4, 3), (13, .return_, 1), (14, .aload_n 2, 1), (15, .iconst 2, 1), (16, .invokevirtual 175, 3), (19, .istore 7, 2), (21, .aload 6, 2), (23, .iconst 1, 1), (24, .invokevirtual 175, 3), (27, .istore 8, 2), (29, .aload_n 0, 1), (30, .iload_n 1, 1), (31, .iload 7, 2), (33, .invokevirtual 92, 3), (36, .astore 9, 2), (38, .aload_n 0, 1), (39, .iload 4, 2), (41, .iload 8, 2), (43, .invokevirtual 92, 3), (46, .astore 10, 2), (48, .aload 9, 2), (50, .ifnull 17, 3), (53, .aload 10, 2), (55, .ifnull 12, 3), (58, .aload 9, 2), (60, .iload_n 3, 1), (61, .invokevirtual 96, 3), (64, .ifCond .gt 4, 3), (67, .return_, 1), (68, .aload 9, 2), (70, .iload_n 3, 1), (71, .invokevirtual 96, 3), (74, .iconst 1, 1), (75, .if_icmp .ne 7, 3), (78, .iconst 1, 1), (79, .goto 4, 3), (82, .iconst 0, 1), (83, .iload 5, 2), (85, .if_icmp .eq 7, 3), (88, .iconst 1, 1), (89, .goto 4, 3), (92, .iconst 0, 1), (93, .istore 11, 2), (95, .aload_n 0, 1), (96, .getfield 30, 3), (99, .iconst 3, 1), (100, .iload_n 1, 1), (101, .imul, 1), (102, .iload 7, 2), (104, .iadd, 1), (105, .iload_n 3, 1), (106, .iload 11, 2), (108, .iconst 3, 1), (109, .iload 4, 2), (111, .imul, 1), (112, .iload 8, 2), (114, .iadd, 1), (115, .aload_n 0, 1), (116, .getfield 78, 3), (119, .invokevirtual 184, 3), (122, .aload 10, 2), (124, .getfield 188, 3), (127, .iload_n 1, 1), (128, .invokestatic 191, 3), (131, .ifCond .eq 23, 3), (134, .aload 10, 2), (136, .iload_n 3, 1), (137, .iload 11, 2), (139, .ifCond .eq 7, 3), (142, .iconst 1, 1), (143, .goto 4, 3), (146, .iconst 2, 1), (147, .aload 9, 2), (149, .iload 5, 2), (151, .invokevirtual 195, 3), (154, .return_, 1)]
def mq_World_speak : ov_M := (10, ⟨"OneEye$World", "speak", "(ILOneEye$Three;IIZ)V"⟩, prog_12_method_15_code, 12, none, mq_World_speak_c)
def mq_World_workOn_c : List (Nat × Instr × Nat) := [(0, .aload_n 1, 1), (1, .dup, 1), (2, .getfield 125, 3), (5, .iconst 1, 1), (6, .isub, 1), (7, .putfield 125, 3), (10, .aload_n 1, 1), (11, .getfield 125, 3), (14, .ifCond .le 4, 3), (17, .return_, 1), (18, .aload_n 1, 1), (19, .getfield 199, 3), (22, .ifCond .ne 11, 3), (25, .aload_n 0, 1), (26, .aload_n 1, 1), (27, .invokevirtual 202, 3), (30, .goto 16, 3), (33, .aload_n 1, 1), (34, .getfield 199, 3), (37, .iconst 5, 1), (38, .if_icmp .ne 8, 3), (41, .aload_n 0, 1), (42, .aload_n 1, 1), (43, .invokevirtual 205, 3), (46, .return_, 1)]
def mq_World_workOn : ov_M := (10, ⟨"OneEye$World", "workOn", "(LOneEye$Three;)V"⟩, prog_12_method_16_code, 2, none, mq_World_workOn_c)
def mq_World_finishGiving_c : List (Nat × Instr × Nat) := [(0, .aload_n 1, 1), (1, .dup, 1), (2, .getfield 208, 3), (5, .iconst 1, 1), (6, .iadd, 1), (7, .putfield 208, 3), (10, .aload_n 1, 1), (11, .getfield 211, 3), (14, .istore_n 2, 1), (15, .aload_n 1, 1), (16, .getfield 88, 3), (19, .ifCond .le 37, 3), (22, .aload_n 0, 1), (23, .sipush 1000, 3), (26, .invokevirtual 104, 3), (29, .aload_n 1, 1), (30, .getfield 88, 3), (33, .if_icmp .ge 23, 3), (36, .aload_n 1, 1), (37, .dup, 1), (38, .getfield 214, 3), (41, .iconst 1, 1), (42, .iadd, 1), (43, .putfield 214, 3), (46, .bipush 10, 2), (48, .aload_n 0, 1), (49, .bipush 9, 2), (51, .invokevirtual 104, 3), (54, .iadd, 1), (55, .istore_n 2, 1), (56, .aload_n 1, 1), (57, .getfield 217, 3), (60, .iconst 0, 1), (61, .iconst 2, 1), (62, .invokestatic 81, 3), (65, .ifCond .eq 13, 3), (68, .aload_n 1, 1), (69, .getfield 178, 3), (72, .aload_n 1, 1), (73, .getfield 217, 3), (76, .iload_n 2, 1), (77, .iastore, 1), (78, .return_, 1)]
def mq_World_finishGiving : ov_M := (10, ⟨"OneEye$World", "finishGiving", "(LOneEye$Three;)V"⟩, prog_12_method_17_code, 3, none, mq_World_finishGiving_c)
def mq_World_finishFeeling_c : List (Nat × Instr × Nat) := [(0, .aload_n 1, 1), (1, .getfield 217, 3), (4, .iconst 0, 1), (5, .iconst 2, 1), (6, .invokestatic 81, 3), (9, .ifCond .eq 35, 3), (12, .aload_n 1, 1), (13, .getfield 178, 3), (16, .aload_n 1, 1), (17, .getfield 217, 3), (20, .iaload, 1), (21, .bipush 10, 2), (23, .aload_n 1, 1), (24, .getfield 211, 3), (27, .iadd, 1), (28, .if_icmp .ne 16, 3), (31, .aload_n 1, 1), (32, .getfield 178, 3), (35, .aload_n 1, 1), (36, .getfield 217, 3), (39, .aload_n 1, 1), (40, .invokevirtual 220, 3), (43, .iastore, 1), (44, .return_, 1)]
def mq_World_finishFeeling : ov_M := (10, ⟨"OneEye$World", "finishFeeling", "(LOneEye$Three;)V"⟩, prog_12_method_18_code, 2, none, mq_World_finishFeeling_c)
def mq_World_noisesNow_c : List (Nat × Instr × Nat) := [(0, .iconst 0, 1), (1, .istore_n 1, 1), (2, .iconst 0, 1), (3, .istore_n 2, 1), (4, .iload_n 2, 1), (5, .aload_n 0, 1), (6, .getfield 72, 3), (9, .if_icmp .ge 31, 3), (12, .iload_n 2, 1), (13, .bipush 20, 2), (15, .if_icmp .ge 25, 3), (18, .aload_n 0, 1), (19, .getfield 41, 3), (22, .iload_n 2, 1), (23, .iaload, 1), (24, .aload_n 0, 1), (25, .getfield 78, 3), (28, .if_icmp .ne 6, 3), (31, .iinc 1 1, 3), (34, .iinc 2 1, 3), (37, .goto (-33), 3), (40, .iload_n 1, 1), (41, .ireturn, 1)]
def mq_World_noisesNow : ov_M := (10, ⟨"OneEye$World", "noisesNow", "()I"⟩, prog_12_method_19_code, 3, (some .int), mq_World_noisesNow_c)
def mq_World_endMinute_c : List (Nat × Instr × Nat) := [(0, .aload_n 0, 1), (1, .iload_n 1, 1), (2, .invokevirtual 121, 3), (5, .astore_n 3, 1), (6, .aload_n 3, 1), (7, .ifnonnull 4, 3), (10, .return_, 1), (11, .iconst 0, 1), (12, .istore 4, 2), (14, .iload 4, 2), (16, .iconst 3, 1), (17, .if_icmp .ge 40, 3), (20, .aload_n 0, 1), (21, .iload_n 1, 1), (22, .aload_n 3, 1), (23, .getfield 178, 3), (26, .iload 4, 2), (28, .iaload, 1), (29, .invokevirtual 92, 3), (32, .astore 5, 2), (34, .aload 5, 2), (36, .ifnull 15, 3), (39, .aload 5, 2), (41, .getfield 223, 3), (44, .iload 4, 2), (46, .dup2, 1), (47, .iaload, 1), (48, .iconst 1, 1), (49, .iadd, 1), (50, .iastore, 1), (51, .iinc 4 1, 3), (54, .goto (-40), 3), (57, .iload_n 2, 1), (58, .ifCond .le 10, 3), (61, .aload_n 0, 1), (62, .iload_n 1, 1), (63, .aload_n 3, 1), (64, .iload_n 2, 1), (65, .invokevirtual 226, 3), (68, .return_, 1)]
def mq_World_endMinute : ov_M := (10, ⟨"OneEye$World", "endMinute", "(II)V"⟩, prog_12_method_20_code, 6, none, mq_World_endMinute_c)
def mq_World_hearNoises_c : List (Nat × Instr × Nat) := [(0, .aload_n 0, 1), (1, .iload_n 1, 1), (2, .aload_n 2, 1), (3, .getfield 178, 3), (6, .iconst 1, 1), (7, .iaload, 1), (8, .invokevirtual 92, 3), (11, .astore 4, 2), (13, .aload 4, 2), (15, .ifnull 17, 3), (18, .aload 4, 2), (20, .dup, 1), (21, .getfield 229, 3), (24, .iload_n 3, 1), (25, .iadd, 1), (26, .putfield 229, 3), (29, .goto 13, 3), (32, .aload_n 2, 1), (33, .dup, 1), (34, .getfield 232, 3), (37, .iload_n 3, 1), (38, .iadd, 1), (39, .putfield 232, 3), (42, .return_, 1)]
def mq_World_hearNoises : ov_M := (10, ⟨"OneEye$World", "hearNoises", "(ILOneEye$Three;I)V"⟩, prog_12_method_21_code, 5, none, mq_World_hearNoises_c)
def mq_World_addNoise_c : List (Nat × Instr × Nat) := [(0, .iload_n 1, 1), (1, .aload_n 0, 1), (2, .getfield 78, 3), (5, .ldc 91, 2), (7, .invokestatic 81, 3), (10, .ifCond .eq 16, 3), (13, .aload_n 0, 1), (14, .getfield 72, 3), (17, .iconst 0, 1), (18, .bipush 19, 2), (20, .invokestatic 81, 3), (23, .ifCond .ne 5, 3), (26, .iconst (-1), 1), (27, .ireturn, 1), (28, .aload_n 0, 1), (29, .getfield 41, 3), (32, .aload_n 0, 1), (33, .getfield 72, 3), (36, .iload_n 1, 1), (37, .iastore, 1), (38, .aload_n 0, 1), (39, .dup, 1), (40, .getfield 72, 3), (43, .iconst 1, 1), (44, .iadd, 1), (45, .putfield 72, 3), (48, .aload_n 0, 1), (49, .getfield 72, 3), (52, .iconst 1, 1), (53, .isub, 1), (54, .ireturn, 1)]
def mq_World_addNoise : ov_M := (10, ⟨"OneEye$World", "addNoise", "(I)I"⟩, prog_12_method_7_code, 2, (some .int), mq_World_addNoise_c)
def mq_World_knowersOf_c : List (Nat × Instr × Nat) := [(0, .iconst 0, 1), (1, .istore_n 3, 1), (2, .iconst 0, 1), (3, .istore 4, 2), (5, .iload 4, 2), (7, .iconst 3, 1), (8, .if_icmp .ge 40, 3), (11, .aload_n 0, 1), (12, .iload_n 1, 1), (13, .iload 4, 2), (15, .invokevirtual 92, 3), (18, .astore 5, 2), (20, .aload 5, 2), (22, .ifnull 20, 3), (25, .aload 5, 2), (27, .iload_n 2, 1), (28, .invokevirtual 96, 3), (31, .ifCond .le 11, 3), (34, .iload_n 3, 1), (35, .iload 4, 2), (37, .iconst 1, 1), (38, .invokestatic 100, 3), (41, .istore_n 3, 1), (42, .iinc 4 1, 3), (45, .goto (-40), 3), (48, .iload_n 3, 1), (49, .ireturn, 1)]
def mq_World_knowersOf : ov_M := (10, ⟨"OneEye$World", "knowersOf", "(II)I"⟩, prog_12_method_8_code, 6, (some .int), mq_World_knowersOf_c)
def mq_World_copyFrom_c : List (Nat × Instr × Nat) := [(0, .iconst 0, 1), (1, .istore_n 2, 1), (2, .iload_n 2, 1), (3, .iconst 4, 1), (4, .if_icmp .ge 24, 3), (7, .aload_n 0, 1), (8, .getfield 11, 3), (11, .iload_n 2, 1), (12, .aaload, 1), (13, .aload_n 1, 1), (14, .getfield 11, 3), (17, .iload_n 2, 1), (18, .aaload, 1), (19, .invokevirtual 50, 3), (22, .iinc 2 1, 3), (25, .goto (-23), 3), (28, .iconst 0, 1), (29, .istore_n 2, 1), (30, .iload_n 2, 1), (31, .bipush 12, 2), (33, .if_icmp .ge 24, 3), (36, .aload_n 0, 1), (37, .getfield 19, 3), (40, .iload_n 2, 1), (41, .aaload, 1), (42, .aload_n 1, 1), (43, .getfield 19, 3), (46, .iload_n 2, 1), (47, .aaload, 1), (48, .invokevirtual 54, 3), (51, .iinc 2 1, 3), (54, .goto (-24), 3), (57, .aload_n 0, 1), (58, .aload_n 1, 1), (59, .getfield 57, 3), (62, .putfield 57, 3), (65, .aload_n 1, 1), (66, .getfield 23, 3), (69, .iconst 0, 1), (70, .aload_n 0, 1), (71, .getfield 23, 3), (74, .iconst 0, 1), (75, .bipush 10, 2), (77, .invokestatic 60, 3), (80, .aload_n 0, 1), (81, .getfield 30, 3), (84, .aload_n 1, 1), (85, .getfield 30, 3), (88, .invokevirtual 66, 3), (91, .aload_n 0, 1), (92, .getfield 37, 3), (95, .aload_n 1, 1), (96, .getfield 37, 3), (99, .invokevirtual 69, 3), (102, .aload_n 1, 1), (103, .getfield 41, 3), (106, .iconst 0, 1), (107, .aload_n 0, 1), (108, .getfield 41, 3), (111, .iconst 0, 1), (112, .bipush 20, 2), (114, .invokestatic 60, 3), (117, .aload_n 0, 1), (118, .aload_n 1, 1), (119, .getfield 72, 3), (122, .putfield 72, 3), (125, .aload_n 0, 1), (126, .aload_n 1, 1), (127, .getfield 75, 3), (130, .putfield 75, 3), (133, .aload_n 0, 1), (134, .aload_n 1, 1), (135, .getfield 78, 3), (138, .putfield 78, 3), (141, .aload_n 0, 1), (142, .aload_n 1, 1), (143, .getfield 44, 3), (146, .putfield 44, 3), (149, .return_, 1)]
def mq_World_copyFrom : ov_M := (10, ⟨"OneEye$World", "copyFrom", "(LOneEye$World;)V"⟩, prog_12_method_2_code, 3, none, mq_World_copyFrom_c)
def mq_Eye_init_c : List (Nat × Instr × Nat) := [(0, .aload_n 0, 1), (1, .invokespecial 1, 3), (4, .aload_n 0, 1), (5, .new 7, 3), (8, .dup, 1), (9, .invokespecial 9, 3), (12, .putfield 10, 3), (15, .aload_n 0, 1), (16, .aconst_null, 1), (17, .putfield 16, 3), (20, .aload_n 0, 1), (21, .new 19, 3), (24, .dup, 1), (25, .invokespecial 21, 3), (28, .putfield 22, 3), (31, .aload_n 0, 1), (32, .new 26, 3), (35, .dup, 1), (36, .invokespecial 28, 3), (39, .putfield 29, 3), (42, .aload_n 0, 1), (43, .new 33, 3), (46, .dup, 1), (47, .invokespecial 35, 3), (50, .putfield 36, 3), (53, .aload_n 0, 1), (54, .new 40, 3), (57, .dup, 1), (58, .invokespecial 42, 3), (61, .putfield 43, 3), (64, .aload_n 0, 1), (65, .new 47, 3), (68, .dup, 1), (69, .invokespecial 49, 3), (72, .putfield 50, 3), (75, .return_, 1)]
def mq_Eye_init : ov_M := (11, ⟨"OneEye", "<init>", "()V"⟩, prog_1_method_1_code, 1, none, mq_Eye_init_c)
def mq_Eye_state_c : List (Nat × Instr × Nat) := [(0, .aload_n 0, 1), (1, .getfield 10, 3), (4, .getfield 54, 3), (7, .istore_n 2, 1), (8, .aload_n 0, 1), (9, .getfield 10, 3), (12, .iload_n 1, 1), (13, .putfield 54, 3), (16, .iload_n 2, 1), (17, .ireturn, 1)]
def mq_Eye_state : ov_M := (11, ⟨"OneEye", "state", "(I)I"⟩, prog_1_method_2_code, 3, (some .int), mq_Eye_state_c)
def mq_Eye_three_c : List (Nat × Instr × Nat) := [(0, .iload_n 1, 1), (1, .iconst 1, 1), (2, .bipush 9, 2), (4, .invokestatic 58, 3), (7, .ifCond .eq 14, 3), (10, .iload_n 2, 1), (11, .iconst 0, 1), (12, .sipush 1000, 3), (15, .invokestatic 58, 3), (18, .ifCond .ne 5, 3), (21, .iconst (-1), 1), (22, .ireturn, 1), (23, .aload_n 0, 1), (24, .getfield 10, 3), (27, .iload_n 1, 1), (28, .iload_n 2, 1), (29, .invokevirtual 62, 3), (32, .ireturn, 1)]
def mq_Eye_three : ov_M := (11, ⟨"OneEye", "three", "(II)I"⟩, prog_1_method_3_code, 3, (some .int), mq_Eye_three_c)
def mq_Eye_within_c : List (Nat × Instr × Nat) := [(0, .iload_n 0, 1), (1, .iload_n 1, 1), (2, .if_icmp .lt 12, 3), (5, .iload_n 0, 1), (6, .iload_n 2, 1), (7, .if_icmp .gt 7, 3), (10, .iconst 1, 1), (11, .goto 4, 3), (14, .iconst 0, 1), (15, .ireturn, 1)]
def mq_Eye_within : ov_M := (11, ⟨"OneEye", "within", "(III)Z"⟩, prog_1_method_32_code, 3, (some .boolean), mq_Eye_within_c)
def mq_Eye_fact_c : List (Nat × Instr × Nat) := [(0, .iload_n 1, 1), (1, .iconst 0, 1), (2, .bipush 9, 2), (4, .invokestatic 58, 3), (7, .ifCond .ne 5, 3), (10, .iconst 0, 1), (11, .ireturn, 1), (12, .aload_n 0, 1), (13, .getfield 10, 3), (16, .getfield 66, 3), (19, .iload_n 1, 1), (20, .iload_n 2, 1), (21, .ifCond .eq 7, 3), (24, .iconst 1, 1), (25, .goto 4, 3), (28, .iconst 0, 1), (29, .iastore, 1), (30, .iconst 1, 1), (31, .ireturn, 1)]
def mq_Eye_fact : ov_M := (11, ⟨"OneEye", "fact", "(IZ)Z"⟩, prog_1_method_4_code, 3, (some .boolean), mq_Eye_fact_c)
def mq_Eye_trust_c : List (Nat × Instr × Nat) := [(0, .aload_n 0, 1), (1, .getfield 10, 3), (4, .iload_n 1, 1), (5, .invokevirtual 70, 3), (8, .astore 4, 2), (10, .aload 4, 2), (12, .ifnull 14, 3), (15, .aload_n 0, 1), (16, .getfield 10, 3), (19, .iload_n 2, 1), (20, .invokevirtual 74, 3), (23, .ifnonnull 5, 3), (26, .iconst 0, 1), (27, .ireturn, 1), (28, .aload 4, 2), (30, .aload 4, 2), (32, .getfield 78, 3), (35, .iload_n 2, 1), (36, .iload_n 3, 1), (37, .invokestatic 83, 3), (40, .putfield 78, 3), (43, .iconst 1, 1), (44, .ireturn, 1)]
def mq_Eye_trust : ov_M := (11, ⟨"OneEye", "trust", "(IIZ)Z"⟩, prog_1_method_5_code, 5, (some .boolean), mq_Eye_trust_c)
def mq_Eye_withBit_c : List (Nat × Instr × Nat) := [(0, .iload_n 2, 1), (1, .ifCond .eq 11, 3), (4, .iload_n 0, 1), (5, .iconst 1, 1), (6, .iload_n 1, 1), (7, .ishl, 1), (8, .ior, 1), (9, .goto 10, 3), (12, .iload_n 0, 1), (13, .iconst 1, 1), (14, .iload_n 1, 1), (15, .ishl, 1), (16, .iconst (-1), 1), (17, .ixor, 1), (18, .iand, 1), (19, .ireturn, 1)]
def mq_Eye_withBit : ov_M := (11, ⟨"OneEye", "withBit", "(IIZ)I"⟩, prog_1_method_34_code, 3, (some .int), mq_Eye_withBit_c)
def mq_Eye_feed_c : List (Nat × Instr × Nat) := [(0, .aload_n 0, 1), (1, .getfield 22, 3), (4, .getfield 87, 3), (7, .bipush 20, 2), (9, .iadd, 1), (10, .sipush 400, 3), (13, .if_icmp .le 5, 3), (16, .iconst (-1), 1), (17, .ireturn, 1), (18, .aload_n 0, 1), (19, .getfield 22, 3), (22, .iload_n 1, 1), (23, .invokevirtual 90, 3), (26, .aload_n 0, 1), (27, .getfield 22, 3), (30, .iload_n 2, 1), (31, .invokevirtual 90, 3), (34, .aload_n 0, 1), (35, .getfield 22, 3), (38, .iload_n 3, 1), (39, .invokevirtual 90, 3), (42, .aload_n 0, 1), (43, .getfield 22, 3), (46, .iload 4, 2), (48, .invokevirtual 90, 3), (51, .aload_n 0, 1), (52, .getfield 22, 3), (55, .iload 5, 2), (57, .invokevirtual 90, 3), (60, .aload_n 0, 1), (61, .getfield 22, 3), (64, .getfield 87, 3), (67, .ireturn, 1)]
def mq_Eye_feed : ov_M := (11, ⟨"OneEye", "feed", "(IIIII)I"⟩, prog_1_method_6_code, 6, (some .int), mq_Eye_feed_c)
def mq_Eye_end_c : List (Nat × Instr × Nat) := [(0, .iload_n 1, 1), (1, .iconst 0, 1), (2, .aload_n 0, 1), (3, .getfield 22, 3), (6, .getfield 87, 3), (9, .invokestatic 58, 3), (12, .ifCond .ne 5, 3), (15, .iconst 0, 1), (16, .ireturn, 1), (17, .aload_n 0, 1), (18, .getfield 22, 3), (21, .iload_n 1, 1), (22, .putfield 87, 3), (25, .iconst 1, 1), (26, .ireturn, 1)]
def mq_Eye_end : ov_M := (11, ⟨"OneEye", "end", "(I)Z"⟩, prog_1_method_7_code, 2, (some .boolean), mq_Eye_end_c)
def mq_Eye_text_c : List (Nat × Instr × Nat) := [(0, .aload_n 0, 1), (1, .getfield 10, 3), (4, .iload_n 1, 1), (5, .invokevirtual 74, 3), (8, .astore_n 2, 1), (9, .aload_n 0, 1), (10, .getfield 22, 3), (13, .invokevirtual 94, 3), (16, .aload_n 2, 1), (17, .ifnull 20, 3), (20, .aload_n 0, 1), (21, .getfield 22, 3), (24, .aload_n 0, 1), (25, .getfield 10, 3), (28, .getfield 97, 3), (31, .invokevirtual 100, 3), (34, .ifCond .ne 5, 3), (37, .iconst (-1), 1), (38, .ireturn, 1), (39, .aload_n 2, 1), (40, .aload_n 0, 1), (41, .getfield 22, 3), (44, .getfield 104, 3), (47, .invokevirtual 108, 3), (50, .aload_n 2, 1), (51, .getfield 114, 3), (54, .getfield 117, 3), (57, .ireturn, 1)]
def mq_Eye_text : ov_M := (11, ⟨"OneEye", "text", "(I)I"⟩, prog_1_method_8_code, 3, (some .int), mq_Eye_text_c)
def mq_Eye_fault_c : List (Nat × Instr × Nat) := [(0, .iload_n 1, 1), (1, .ifCond .ne 13, 3), (4, .aload_n 0, 1), (5, .getfield 22, 3), (8, .getfield 122, 3), (11, .goto 19, 3), (14, .iload_n 1, 1), (15, .iconst 1, 1), (16, .if_icmp .ne 13, 3), (19, .aload_n 0, 1), (20, .getfield 22, 3), (23, .getfield 125, 3), (26, .goto 4, 3), (29, .iconst (-1), 1), (30, .ireturn, 1)]
def mq_Eye_fault : ov_M := (11, ⟨"OneEye", "fault", "(I)I"⟩, prog_1_method_9_code, 2, (some .int), mq_Eye_fault_c)
def mq_Eye_minutes_c : List (Nat × Instr × Nat) := [(0, .iload_n 1, 1), (1, .iconst 1, 1), (2, .sipush 1000, 3), (5, .invokestatic 58, 3), (8, .ifCond .eq 17, 3), (11, .aload_n 0, 1), (12, .getfield 10, 3), (15, .getfield 128, 3), (18, .iload_n 1, 1), (19, .iadd, 1), (20, .ldc 131, 2), (22, .if_icmp .le 5, 3), (25, .iconst (-1), 1), (26, .ireturn, 1), (27, .iconst 0, 1), (28, .istore_n 2, 1), (29, .iload_n 2, 1), (30, .iload_n 1, 1), (31, .if_icmp .ge 16, 3), (34, .aload_n 0, 1), (35, .getfield 10, 3), (38, .invokevirtual 132, 3), (41, .iinc 2 1, 3), (44, .goto (-15), 3), (47, .aload_n 0, 1), (48, .getfield 10, 3), (51, .getfield 128, 3), (54, .ireturn, 1)]
def mq_Eye_minutes : ov_M := (11, ⟨"OneEye", "minutes", "(I)I"⟩, prog_1_method_10_code, 3, (some .int), mq_Eye_minutes_c)
def mq_Eye_holdsBit_c : List (Nat × Instr × Nat) := [(0, .iload_n 0, 1), (1, .iload_n 1, 1), (2, .ishr, 1), (3, .iconst 1, 1), (4, .iand, 1), (5, .ifCond .eq 7, 3), (8, .iconst 1, 1), (9, .goto 4, 3), (12, .iconst 0, 1), (13, .ireturn, 1)]
def mq_Eye_holdsBit : ov_M := (11, ⟨"OneEye", "holdsBit", "(II)Z"⟩, prog_1_method_33_code, 2, (some .boolean), mq_Eye_holdsBit_c)
def mq_Eye_where_c : List (Nat × Instr × Nat) := [(0, .aload_n 0, 1), (1, .getfield 10, 3), (4, .iload_n 1, 1), (5, .invokevirtual 74, 3), (8, .astore_n 3, 1), (9, .aload_n 3, 1), (10, .ifnonnull 7, 3), (13, .iconst (-1), 1), (14, .goto 8, 3), (17, .aload_n 3, 1), (18, .iload_n 2, 1), (19, .invokevirtual 135, 3), (22, .ireturn, 1)]
def mq_Eye_where : ov_M := (11, ⟨"OneEye", "where", "(II)I"⟩, prog_1_method_11_code, 4, (some .int), mq_Eye_where_c)
def mq_Eye_knows_c : List (Nat × Instr × Nat) := [(0, .aload_n 0, 1), (1, .getfield 10, 3), (4, .iload_n 1, 1), (5, .invokevirtual 70, 3), (8, .astore_n 3, 1), (9, .aload_n 3, 1), (10, .ifnonnull 7, 3), (13, .iconst (-1), 1), (14, .goto 8, 3), (17, .aload_n 3, 1), (18, .iload_n 2, 1), (19, .invokevirtual 139, 3), (22, .ireturn, 1)]
def mq_Eye_knows : ov_M := (11, ⟨"OneEye", "knows", "(II)I"⟩, prog_1_method_12_code, 4, (some .int), mq_Eye_knows_c)
def mq_Eye_origin_c : List (Nat × Instr × Nat) := [(0, .aload_n 0, 1), (1, .getfield 10, 3), (4, .iload_n 1, 1), (5, .invokevirtual 70, 3), (8, .astore 4, 2), (10, .aload 4, 2), (12, .ifnonnull 7, 3), (15, .iconst (-1), 1), (16, .goto 10, 3), (19, .aload 4, 2), (21, .iload_n 2, 1), (22, .iload_n 3, 1), (23, .invokevirtual 142, 3), (26, .ireturn, 1)]
def mq_Eye_origin : ov_M := (11, ⟨"OneEye", "origin", "(III)I"⟩, prog_1_method_13_code, 5, (some .int), mq_Eye_origin_c)
def mq_Eye_noise_c : List (Nat × Instr × Nat) := [(0, .aload_n 0, 1), (1, .getfield 10, 3), (4, .iload_n 1, 1), (5, .invokevirtual 145, 3), (8, .ireturn, 1)]
def mq_Eye_noise : ov_M := (11, ⟨"OneEye", "noise", "(I)I"⟩, prog_1_method_14_code, 2, (some .int), mq_Eye_noise_c)
def mq_Eye_heard_c : List (Nat × Instr × Nat) := [(0, .aload_n 0, 1), (1, .getfield 10, 3), (4, .iload_n 1, 1), (5, .invokevirtual 70, 3), (8, .astore_n 2, 1), (9, .aload_n 2, 1), (10, .ifnonnull 7, 3), (13, .iconst (-1), 1), (14, .goto 7, 3), (17, .aload_n 2, 1), (18, .getfield 148, 3), (21, .ireturn, 1)]
def mq_Eye_heard : ov_M := (11, ⟨"OneEye", "heard", "(I)I"⟩, prog_1_method_15_code, 3, (some .int), mq_Eye_heard_c)
def mq_Eye_held_c : List (Nat × Instr × Nat) := [(0, .aload_n 0, 1), (1, .getfield 10, 3), (4, .iload_n 1, 1), (5, .invokevirtual 70, 3), (8, .astore_n 3, 1), (9, .aload_n 3, 1), (10, .ifnull 12, 3), (13, .iload_n 2, 1), (14, .iconst 0, 1), (15, .iconst 2, 1), (16, .invokestatic 58, 3), (19, .ifCond .ne 7, 3), (22, .iconst (-1), 1), (23, .goto 9, 3), (26, .aload_n 3, 1), (27, .getfield 151, 3), (30, .iload_n 2, 1), (31, .iaload, 1), (32, .ireturn, 1)]
def mq_Eye_held : ov_M := (11, ⟨"OneEye", "held", "(II)I"⟩, prog_1_method_16_code, 4, (some .int), mq_Eye_held_c)
def mq_Eye_of_c : List (Nat × Instr × Nat) := [(0, .aload_n 0, 1), (1, .getfield 10, 3), (4, .iload_n 1, 1), (5, .invokevirtual 74, 3), (8, .astore_n 3, 1), (9, .aload_n 3, 1), (10, .ifnonnull 7, 3), (13, .iconst (-1), 1), (14, .goto 8, 3), (17, .aload_n 3, 1), (18, .iload_n 2, 1), (19, .invokevirtual 154, 3), (22, .ireturn, 1)]
def mq_Eye_of : ov_M := (11, ⟨"OneEye", "of", "(II)I"⟩, prog_1_method_17_code, 4, (some .int), mq_Eye_of_c)
def mq_Eye_book_c : List (Nat × Instr × Nat) := [(0, .aload_n 0, 1), (1, .getfield 10, 3), (4, .getfield 157, 3), (7, .iload_n 1, 1), (8, .iload_n 2, 1), (9, .invokevirtual 161, 3), (12, .ireturn, 1)]
def mq_Eye_book : ov_M := (11, ⟨"OneEye", "book", "(II)I"⟩, prog_1_method_18_code, 3, (some .int), mq_Eye_book_c)
def mq_Eye_errand_c : List (Nat × Instr × Nat) := [(0, .iload_n 1, 1), (1, .iload_n 3, 1), (2, .if_icmp .eq 23, 3), (5, .iload_n 2, 1), (6, .iconst 0, 1), (7, .bipush 9, 2), (9, .invokestatic 58, 3), (12, .ifCond .eq 13, 3), (15, .iload 4, 2), (17, .iconst 0, 1), (18, .iconst 1, 1), (19, .invokestatic 58, 3), (22, .ifCond .ne 5, 3), (25, .iconst (-1), 1), (26, .ireturn, 1), (27, .aload_n 0, 1), (28, .getfield 10, 3), (31, .iload_n 1, 1), (32, .invokevirtual 74, 3), (35, .astore 5, 2), (37, .aload_n 0, 1), (38, .getfield 10, 3), (41, .iload_n 3, 1), (42, .invokevirtual 74, 3), (45, .astore 6, 2), (47, .aload 5, 2), (49, .ifnull 8, 3), (52, .aload 6, 2), (54, .ifnonnull 5, 3), (57, .iconst (-1), 1), (58, .ireturn, 1), (59, .aload_n 0, 1), (60, .getfield 10, 3), (63, .iload_n 3, 1), (64, .iload_n 2, 1), (65, .invokevirtual 165, 3), (68, .aload 6, 2), (70, .iconst 1, 1), (71, .invokevirtual 168, 3), (74, .invokestatic 171, 3), (77, .ifCond .eq 5, 3), (80, .iconst 0, 1), (81, .ireturn, 1), (82, .aload 5, 2), (84, .aload_n 0, 1), (85, .getfield 10, 3), (88, .iload_n 1, 1), (89, .iload_n 2, 1), (90, .invokevirtual 165, 3), (93, .iload 4, 2), (95, .ifCond .ne 7, 3), (98, .iconst 1, 1), (99, .goto 4, 3), (102, .iconst 0, 1), (103, .invokevirtual 175, 3), (106, .ireturn, 1)]
def mq_Eye_errand : ov_M := (11, ⟨"OneEye", "errand", "(IIII)I"⟩, prog_1_method_19_code, 7, (some .int), mq_Eye_errand_c)
def mq_Eye_talk_c : List (Nat × Instr × Nat) := [(0, .aload_n 0, 1), (1, .getfield 10, 3), (4, .iload_n 1, 1), (5, .invokevirtual 74, 3), (8, .astore 4, 2), (10, .aload_n 0, 1), (11, .getfield 10, 3), (14, .iload_n 2, 1), (15, .invokevirtual 74, 3), (18, .astore 5, 2), (20, .iload_n 1, 1), (21, .iload_n 2, 1), (22, .if_icmp .eq 23, 3), (25, .aload 4, 2), (27, .ifnull 18, 3), (30, .aload 5, 2), (32, .ifnull 13, 3), (35, .iload_n 3, 1), (36, .iconst 0, 1), (37, .bipush 9, 2), (39, .invokestatic 58, 3), (42, .ifCond .ne 5, 3), (45, .iconst (-1), 1), (46, .ireturn, 1), (47, .aload_n 0, 1), (48, .getfield 10, 3), (51, .iload_n 1, 1), (52, .iload_n 3, 1), (53, .invokevirtual 165, 3), (56, .aload_n 0, 1), (57, .getfield 10, 3), (60, .iload_n 2, 1), (61, .iload_n 3, 1), (62, .invokevirtual 165, 3), (65, .iconst 3, 1), (66, .ishl, 1), (67, .iadd, 1), (68, .istore 6, 2), (70, .aload_n 0, 1), (71, .getfield 29, 3), (74, .bipush 9, 2), (76, .aload 4, 2), (78, .invokevirtual 179, 3), (81, .imul, 1), (82, .aload 5, 2), (84, .invokevirtual 179, 3), (87, .iadd, 1), (88, .iload 6, 2), (90, .invokevirtual 183, 3), (93, .ireturn, 1)]
def mq_Eye_talk : ov_M := (11, ⟨"OneEye", "talk", "(III)I"⟩, prog_1_method_20_code, 7, (some .int), mq_Eye_talk_c)
def mq_Eye_danger_c : List (Nat × Instr × Nat) := [(0, .iload_n 1, 1), (1, .iconst 0, 1), (2, .bipush 11, 2), (4, .invokestatic 58, 3), (7, .ifCond .eq 32, 3), (10, .iload_n 2, 1), (11, .iconst 0, 1), (12, .iconst 2, 1), (13, .invokestatic 58, 3), (16, .ifCond .eq 23, 3), (19, .iload_n 3, 1), (20, .iconst 0, 1), (21, .iconst 2, 1), (22, .invokestatic 58, 3), (25, .ifCond .eq 14, 3), (28, .iload 4, 2), (30, .iconst 0, 1), (31, .bipush 9, 2), (33, .invokestatic 58, 3), (36, .ifCond .ne 5, 3), (39, .iconst 0, 1), (40, .ireturn, 1), (41, .aload_n 0, 1), (42, .getfield 10, 3), (45, .getfield 186, 3), (48, .getfield 190, 3), (51, .iload_n 1, 1), (52, .iload_n 2, 1), (53, .iload_n 3, 1), (54, .invokestatic 195, 3), (57, .iload 4, 2), (59, .iastore, 1), (60, .iconst 1, 1), (61, .ireturn, 1)]
def mq_Eye_danger : ov_M := (11, ⟨"OneEye", "danger", "(IIII)Z"⟩, prog_1_method_21_code, 5, (some .boolean), mq_Eye_danger_c)
def mq_Eye_dangerAt_c : List (Nat × Instr × Nat) := [(0, .iload_n 0, 1), (1, .iconst 3, 1), (2, .imul, 1), (3, .iload_n 1, 1), (4, .iadd, 1), (5, .iconst 3, 1), (6, .imul, 1), (7, .iload_n 2, 1), (8, .iadd, 1), (9, .ireturn, 1)]
def mq_Eye_dangerAt : ov_M := (11, ⟨"OneEye", "dangerAt", "(III)I"⟩, prog_1_method_35_code, 3, (some .int), mq_Eye_dangerAt_c)
def mq_Eye_way_c : List (Nat × Instr × Nat) := [(0, .iload_n 1, 1), (1, .iconst 1, 1), (2, .bipush 12, 2), (4, .invokestatic 58, 3), (7, .ifCond .eq 13, 3), (10, .iload_n 2, 1), (11, .iconst 0, 1), (12, .bipush 9, 2), (14, .invokestatic 58, 3), (17, .ifCond .ne 5, 3), (20, .iconst (-1), 1), (21, .ireturn, 1), (22, .iload_n 3, 1), (23, .ifCond .eq 18, 3), (26, .iload_n 3, 1), (27, .bipush 10, 2), (29, .bipush 9, 2), (31, .iload_n 1, 1), (32, .iadd, 1), (33, .invokestatic 58, 3), (36, .ifCond .ne 5, 3), (39, .iconst (-1), 1), (40, .ireturn, 1), (41, .aload_n 0, 1), (42, .getfield 36, 3), (45, .aload_n 0, 1), (46, .getfield 10, 3), (49, .getfield 186, 3), (52, .getfield 190, 3), (55, .iload_n 1, 1), (56, .iload_n 2, 1), (57, .invokevirtual 199, 3), (60, .iload_n 3, 1), (61, .ifCond .ne 13, 3), (64, .aload_n 0, 1), (65, .getfield 36, 3), (68, .getfield 203, 3), (71, .goto 15, 3), (74, .aload_n 0, 1), (75, .getfield 36, 3), (78, .getfield 206, 3), (81, .iload_n 3, 1), (82, .bipush 10, 2), (84, .isub, 1), (85, .iaload, 1), (86, .ireturn, 1)]
def mq_Eye_way : ov_M := (11, ⟨"OneEye", "way", "(III)I"⟩, prog_1_method_22_code, 4, (some .int), mq_Eye_way_c)
def mq_Eye_spot_c : List (Nat × Instr × Nat) := [(0, .iload_n 1, 1), (1, .iconst 0, 1), (2, .bipush 8, 2), (4, .invokestatic 58, 3), (7, .ifCond .eq 23, 3), (10, .iload_n 2, 1), (11, .iconst 0, 1), (12, .bipush 99, 2), (14, .invokestatic 58, 3), (17, .ifCond .eq 13, 3), (20, .iload_n 3, 1), (21, .iconst 1, 1), (22, .bipush 9, 2), (24, .invokestatic 58, 3), (27, .ifCond .ne 5, 3), (30, .iconst 0, 1), (31, .ireturn, 1), (32, .aload_n 0, 1), (33, .getfield 10, 3), (36, .getfield 186, 3), (39, .getfield 209, 3), (42, .iload_n 1, 1), (43, .iload_n 2, 1), (44, .iastore, 1), (45, .aload_n 0, 1), (46, .getfield 10, 3), (49, .getfield 186, 3), (52, .getfield 212, 3), (55, .iload_n 1, 1), (56, .iload_n 3, 1), (57, .iastore, 1), (58, .iconst 1, 1), (59, .ireturn, 1)]
def mq_Eye_spot : ov_M := (11, ⟨"OneEye", "spot", "(III)Z"⟩, prog_1_method_23_code, 4, (some .boolean), mq_Eye_spot_c)
def mq_Eye_felt_c : List (Nat × Instr × Nat) := [(0, .aload_n 0, 1), (1, .getfield 43, 3), (4, .aload_n 0, 1), (5, .getfield 10, 3), (8, .getfield 186, 3), (11, .getfield 209, 3), (14, .aload_n 0, 1), (15, .getfield 10, 3), (18, .getfield 186, 3), (21, .getfield 212, 3), (24, .invokevirtual 215, 3), (27, .ireturn, 1)]
def mq_Eye_felt : ov_M := (11, ⟨"OneEye", "felt", "()I"⟩, prog_1_method_24_code, 1, (some .int), mq_Eye_felt_c)
def mq_Eye_liars_c : List (Nat × Instr × Nat) := [(0, .aload_n 0, 1), (1, .getfield 10, 3), (4, .getfield 157, 3), (7, .invokevirtual 219, 3), (10, .ireturn, 1)]
def mq_Eye_liars : ov_M := (11, ⟨"OneEye", "liars", "()I"⟩, prog_1_method_25_code, 1, (some .int), mq_Eye_liars_c)
def mq_Eye_watch_c : List (Nat × Instr × Nat) := [(0, .aload_n 0, 1), (1, .getfield 10, 3), (4, .getfield 186, 3), (7, .iload_n 1, 1), (8, .invokevirtual 222, 3), (11, .ireturn, 1)]
def mq_Eye_watch : ov_M := (11, ⟨"OneEye", "watch", "(I)I"⟩, prog_1_method_26_code, 2, (some .int), mq_Eye_watch_c)
def mq_Eye_watches_c : List (Nat × Instr × Nat) := [(0, .aload_n 0, 1), (1, .getfield 10, 3), (4, .getfield 186, 3), (7, .getfield 225, 3), (10, .istore_n 2, 1), (11, .iload_n 1, 1), (12, .ifCond .eq 18, 3), (15, .iload_n 1, 1), (16, .bipush 10, 2), (18, .bipush 9, 2), (20, .iload_n 2, 1), (21, .iadd, 1), (22, .invokestatic 58, 3), (25, .ifCond .ne 5, 3), (28, .iconst (-1), 1), (29, .ireturn, 1), (30, .aload_n 0, 1), (31, .getfield 50, 3), (34, .aload_n 0, 1), (35, .getfield 10, 3), (38, .getfield 186, 3), (41, .getfield 228, 3), (44, .iload_n 2, 1), (45, .invokevirtual 231, 3), (48, .iload_n 1, 1), (49, .ifCond .ne 13, 3), (52, .aload_n 0, 1), (53, .getfield 50, 3), (56, .getfield 234, 3), (59, .goto 15, 3), (62, .aload_n 0, 1), (63, .getfield 50, 3), (66, .getfield 237, 3), (69, .iload_n 1, 1), (70, .bipush 10, 2), (72, .isub, 1), (73, .iaload, 1), (74, .ireturn, 1)]
def mq_Eye_watches : ov_M := (11, ⟨"OneEye", "watches", "(I)I"⟩, prog_1_method_27_code, 3, (some .int), mq_Eye_watches_c)
def mq_Eye_lends_c : List (Nat × Instr × Nat) := [(0, .aload_n 0, 1), (1, .getfield 10, 3), (4, .iload_n 1, 1), (5, .invokevirtual 74, 3), (8, .ifnull 26, 3), (11, .iload_n 2, 1), (12, .iload_n 3, 1), (13, .if_icmp .eq 21, 3), (16, .iload_n 2, 1), (17, .iconst 0, 1), (18, .iconst 2, 1), (19, .invokestatic 58, 3), (22, .ifCond .eq 12, 3), (25, .iload_n 3, 1), (26, .iconst 0, 1), (27, .iconst 2, 1), (28, .invokestatic 58, 3), (31, .ifCond .ne 5, 3), (34, .iconst 0, 1), (35, .ireturn, 1), (36, .aload_n 0, 1), (37, .getfield 10, 3), (40, .getfield 186, 3), (43, .getfield 240, 3), (46, .astore 5, 2), (48, .aload 5, 2), (50, .iload_n 1, 1), (51, .aload 5, 2), (53, .iload_n 1, 1), (54, .iaload, 1), (55, .iconst 3, 1), (56, .iload_n 2, 1), (57, .imul, 1), (58, .iload_n 3, 1), (59, .iadd, 1), (60, .iload 4, 2), (62, .invokestatic 83, 3), (65, .iastore, 1), (66, .iconst 1, 1), (67, .ireturn, 1)]
def mq_Eye_lends : ov_M := (11, ⟨"OneEye", "lends", "(IIIZ)Z"⟩, prog_1_method_28_code, 6, (some .boolean), mq_Eye_lends_c)
def mq_Eye_ring_c : List (Nat × Instr × Nat) := [(0, .aload_n 0, 1), (1, .getfield 10, 3), (4, .getfield 186, 3), (7, .aload_n 0, 1), (8, .getfield 10, 3), (11, .getfield 97, 3), (14, .invokevirtual 243, 3), (17, .ireturn, 1)]
def mq_Eye_ring : ov_M := (11, ⟨"OneEye", "ring", "()I"⟩, prog_1_method_29_code, 1, (some .int), mq_Eye_ring_c)
def mq_Eye_image_c : List (Nat × Instr × Nat) := [(0, .iload_n 1, 1), (1, .ifCond .eq 34, 3), (4, .aload_n 0, 1), (5, .getfield 16, 3), (8, .ifnonnull 14, 3), (11, .aload_n 0, 1), (12, .new 7, 3), (15, .dup, 1), (16, .invokespecial 9, 3), (19, .putfield 16, 3), (22, .aload_n 0, 1), (23, .getfield 16, 3), (26, .aload_n 0, 1), (27, .getfield 10, 3), (30, .invokevirtual 246, 3), (33, .iconst 1, 1), (34, .ireturn, 1), (35, .aload_n 0, 1), (36, .getfield 16, 3), (39, .ifnonnull 5, 3), (42, .iconst 0, 1), (43, .ireturn, 1), (44, .aload_n 0, 1), (45, .getfield 10, 3), (48, .aload_n 0, 1), (49, .getfield 16, 3), (52, .invokevirtual 246, 3), (55, .iconst 1, 1), (56, .ireturn, 1)]
def mq_Eye_image : ov_M := (11, ⟨"OneEye", "image", "(Z)Z"⟩, prog_1_method_30_code, 2, (some .boolean), mq_Eye_image_c)
def mq_Eye_look_c : List (Nat × Instr × Nat) := [(0, .iload_n 1, 1), (1, .tableswitch 105 0 6 #[43, 51, 59, 70, 81, 89, 97], 43), (44, .aload_n 0, 1), (45, .getfield 10, 3), (48, .getfield 97, 3), (51, .ireturn, 1), (52, .aload_n 0, 1), (53, .getfield 10, 3), (56, .getfield 128, 3), (59, .ireturn, 1), (60, .aload_n 0, 1), (61, .getfield 10, 3), (64, .getfield 157, 3), (67, .getfield 250, 3), (70, .ireturn, 1), (71, .aload_n 0, 1), (72, .getfield 10, 3), (75, .getfield 186, 3), (78, .getfield 225, 3), (81, .ireturn, 1), (82, .aload_n 0, 1), (83, .getfield 10, 3), (86, .getfield 54, 3), (89, .ireturn, 1), (90, .aload_n 0, 1), (91, .getfield 10, 3), (94, .getfield 253, 3), (97, .ireturn, 1), (98, .aload_n 0, 1), (99, .getfield 10, 3), (102, .getfield 256, 3), (105, .ireturn, 1), (106, .iload_n 1, 1), (107, .bipush 10, 2), (109, .bipush 19, 2), (111, .invokestatic 58, 3), (114, .ifCond .eq 18, 3), (117, .aload_n 0, 1), (118, .getfield 10, 3), (121, .getfield 66, 3), (124, .iload_n 1, 1), (125, .bipush 10, 2), (127, .isub, 1), (128, .iaload, 1), (129, .goto 4, 3), (132, .iconst (-1), 1), (133, .ireturn, 1)]
def mq_Eye_look : ov_M := (11, ⟨"OneEye", "look", "(I)I"⟩, prog_1_method_31_code, 2, (some .int), mq_Eye_look_c)
def mq_Mod_init_c : List (Nat × Instr × Nat) := [(0, .aload_n 0, 1), (1, .invokespecial 1, 3), (4, .aload_n 0, 1), (5, .iconst 4, 1), (6, .newarray .int, 2), (8, .putfield 7, 3), (11, .aload_n 0, 1), (12, .iconst 4, 1), (13, .newarray .int, 2), (15, .putfield 13, 3), (18, .aload_n 0, 1), (19, .iconst 4, 1), (20, .newarray .int, 2), (22, .putfield 16, 3), (25, .aload_n 0, 1), (26, .iconst 4, 1), (27, .newarray .int, 2), (29, .putfield 19, 3), (32, .aload_n 0, 1), (33, .bipush 12, 2), (35, .newarray .int, 2), (37, .putfield 22, 3), (40, .aload_n 0, 1), (41, .bipush 10, 2), (43, .newarray .int, 2), (45, .putfield 25, 3), (48, .aload_n 0, 1), (49, .bipush 120, 2), (51, .newarray .int, 2), (53, .putfield 28, 3), (56, .aload_n 0, 1), (57, .bipush 48, 2), (59, .newarray .int, 2), (61, .putfield 31, 3), (64, .aload_n 0, 1), (65, .bipush 36, 2), (67, .newarray .int, 2), (69, .putfield 34, 3), (72, .aload_n 0, 1), (73, .bipush 120, 2), (75, .newarray .int, 2), (77, .putfield 37, 3), (80, .aload_n 0, 1), (81, .bipush 120, 2), (83, .newarray .int, 2), (85, .putfield 40, 3), (88, .aload_n 0, 1), (89, .bipush 120, 2), (91, .newarray .int, 2), (93, .putfield 43, 3), (96, .aload_n 0, 1), (97, .bipush 120, 2), (99, .newarray .int, 2), (101, .putfield 46, 3), (104, .aload_n 0, 1), (105, .iconst (-1), 1), (106, .putfield 49, 3), (109, .aload_n 0, 1), (110, .bipush 20, 2), (112, .newarray .int, 2), (114, .putfield 53, 3), (117, .aload_n 0, 1), (118, .bipush 12, 2), (120, .newarray .int, 2), (122, .putfield 56, 3), (125, .aload_n 0, 1), (126, .iconst 4, 1), (127, .newarray .int, 2), (129, .putfield 59, 3), (132, .aload_n 0, 1), (133, .bipush 99, 2), (135, .newarray .int, 2), (137, .putfield 62, 3), (140, .aload_n 0, 1), (141, .bipush 99, 2), (143, .newarray .int, 2), (145, .putfield 65, 3), (148, .aload_n 0, 1), (149, .bipush 99, 2), (151, .newarray .int, 2), (153, .putfield 68, 3), (156, .aload_n 0, 1), (157, .bipush 99, 2), (159, .newarray .int, 2), (161, .putfield 71, 3), (164, .aload_n 0, 1), (165, .bipush 99, 2), (167, .newarray .int, 2), (169, .putfield 74, 3), (172, .aload_n 0, 1), (173, .iconst 4, 1), (174, .newarray .int, 2), (176, .putfield 77, 3), (179, .aload_n 0, 1), (180, .iconst 4, 1), (181, .newarray .int, 2), (183, .putfield 80, 3), (186, .aload_n 0, 1), (187, .iconst 4, 1), (188, .newarray .int, 2), (190, .putfield 83, 3), (193, .aload_n 0, 1), (194, .iconst 4, 1), (195, .newarray .int, 2), (197, .putfield 86, 3), (200, .aload_n 0, 1), (201, .bipush 45, 2), (203, .newarray .char, 2), (205, .dup, 1), (206, .iconst 0, 1), (207, .bipush 32, 2), (209, .castore, 1), (210, .dup, 1), (211, .iconst 1, 1), (212, .bipush 103, 2), (214, .castore, 1), (215, .dup, 1), (216, .iconst 2, 1), (217, .bipush 105, 2), (219, .castore, 1), (220, .dup, 1), (221, .iconst 3, 1), (222, .bipush 118, 2), (224, .castore, 1), (225, .dup, 1), (226, .iconst 4, 1), (227, .bipush 101, 2), (229, .castore, 1), (230, .dup, 1), (231, .iconst 5, 1), (232, .bipush 32, 2), (234, .castore, 1), (235, .dup, 1), (236, .bipush 6, 2), (238, .bipush 115, 2), (240, .castore, 1), (241, .dup, 1), (242, .bipush 7, 2), (244, .bipush 101, 2), (246, .castore, 1), (247, .dup, 1), (248, .bipush 8, 2), (250, .bipush 101, 2), (252, .castore, 1), (253, .dup, 1), (254, .bipush 9, 2), (256, .bipush 32, 2), (258, .castore, 1), (259, .dup, 1), (260, .bipush 10, 2), (262, .bipush 115, 2), (264, .castore, 1), (265, .dup, 1), (266, .bipush 11, 2), (268, .bipush 97, 2), (270, .castore, 1), (271, .dup, 1), (272, .bipush 12, 2), (274, .bipush 121, 2), (276, .castore, 1), (277, .dup, 1), (278, .bipush 13, 2), (280, .bipush 32, 2), (282, .castore, 1), (283, .dup, 1), (284, .bipush 14, 2), (286, .bipush 108, 2), (288, .castore, 1), (289, .dup, 1), (290, .bipush 15, 2), (292, .bipush 105, 2), (294, .castore, 1), (295, .dup, 1), (296, .bipush 16, 2), (298, .bipush 101, 2), (300, .castore, 1), (301, .dup, 1), (302, .bipush 17, 2), (304, .bipush 32, 2), (306, .castore, 1), (307, .dup, 1), (308, .bipush 18, 2), (310, .bipush 114, 2), (312, .castore, 1), (313, .dup, 1), (314, .bipush 19, 2), (316, .bipush 101, 2), (318, .castore, 1), (319, .dup, 1), (320, .bipush 20, 2), (322, .bipush 115, 2), (324, .castore, 1), (325, .dup, 1), (326, .bipush 21, 2), (328, .bipush 116, 2), (330, .castore, 1), (331, .dup, 1), (332, .bipush 22, 2), (334, .bipush 32, 2), (336, .castore, 1), (337, .dup, 1), (338, .bipush 23, 2), (340, .bipush 102, 2), (342, .castore, 1), (343, .dup, 1), (344, .bipush 24, 2), (346, .bipush 101, 2), (348, .castore, 1), (349, .dup, 1), (350, .bipush 25, 2), (352, .bipush 101, 2), (354, .castore, 1), (355, .dup, 1), (356, .bipush 26, 2), (358, .bipush 108, 2), (360, .castore, 1), (361, .dup, 1), (362, .bipush 27, 2), (364, .bipush 32, 2), (366, .castore, 1), (367, .dup, 1), (368, .bipush 28, 2), (370, .bipush 116, 2), (372, .castore, 1), (373, .dup, 1), (374, .bipush 29, 2), (376, .bipush 111, 2), (378, .castore, 1), (379, .dup, 1), (380, .bipush 30, 2), (382, .bipush 32, 2), (384, .castore, 1), (385, .dup, 1), (386, .bipush 31, 2), (388, .bipush 101, 2), (390, .castore, 1), (391, .dup, 1), (392, .bipush 32, 2), (394, .bipush 121, 2), (396, .castore, 1), (397, .dup, 1), (398, .bipush 33, 2), (400, .bipush 101, 2), (402, .castore, 1), (403, .dup, 1), (404, .bipush 34, 2), (406, .bipush 32, 2), (408, .castore, 1), (409, .dup, 1), (410, .bipush 35, 2), (412, .bipush 101, 2), (414, .castore, 1), (415, .dup, 1), (416, .bipush 36, 2), (418, .bipush 97, 2), (420, .castore, 1), (421, .dup, 1), (422, .bipush 37, 2), (424, .bipush 114, 2), (426, .castore, 1), (427, .dup, 1), (428, .bipush 38, 2), (430, .bipush 32, 2), (432, .castore, 1), (433, .dup, 1), (434, .bipush 39, 2), (436, .bipush 109, 2), (438, .castore, 1), (439, .dup, 1), (440, .bipush 40, 2), (442, .bipush 111, 2), (444, .castore, 1), (445, .dup, 1), (446, .bipush 41, 2), (448, .bipush 117, 2), (450, .castore, 1), (451, .dup, 1), (452, .bipush 42, 2), (454, .bipush 116, 2), (456, .castore, 1), (457, .dup, 1), (458, .bipush 43, 2), (460, .bipush 104, 2), (462, .castore, 1), (463, .dup, 1), (464, .bipush 44, 2), (466, .bipush 32, 2), (468, .castore, 1), (469, .putfield 89, 3), (472, .aload_n 0, 1), (473, .sipush 400, 3), (476, .newarray .int, 2), (478, .putfield 93, 3), (481, .aload_n 0, 1), (482, .iconst (-1), 1), (483, .putfield 96, 3), (486, .aload_n 0, 1), (487, .sipush 600, 3), (490, .newarray .int, 2), (492, .putfield 99, 3), (495, .aload_n 0, 1), (496, .iconst 4, 1), (497, .newarray .int, 2), (499, .putfield 102, 3), (502, .aload_n 0, 1), (503, .iconst 4, 1), (504, .newarray .int, 2), (506, .putfield 105, 3), (509, .aload_n 0, 1), (510, .ldc 108, 2), (512, .newarray .int, 2), (514, .putfield 109, 3), (517, .aload_n 0, 1), (518, .ldc 108, 2), (520, .newarray .int, 2), (522, .putfield 112, 3), (525, .aload_n 0, 1), (526, .bipush 108, 2), (528, .newarray .int, 2), (530, .putfield 115, 3), (533, .aload_n 0, 1), (534, .sipush 351, 3), (537, .newarray .int, 2), (539, .putfield 118, 3), (542, .aload_n 0, 1), (543, .bipush 9, 2), (545, .newarray .int, 2), (547, .putfield 121, 3), (550, .aload_n 0, 1), (551, .bipush 9, 2), (553, .newarray .int, 2), (555, .putfield 124, 3), (558, .aload_n 0, 1), (559, .bipush 9, 2), (561, .newarray .int, 2), (563, .putfield 127, 3), (566, .aload_n 0, 1), (567, .bipush 9, 2), (569, .newarray .int, 2), (571, .putfield 130, 3), (574, .aload_n 0, 1), (575, .iconst 3, 1), (576, .newarray .int, 2), (578, .putfield 133, 3), (581, .aload_n 0, 1), (582, .bipush 36, 2), (584, .newarray .int, 2), (586, .putfield 136, 3), (589, .aload_n 0, 1), (590, .bipush 16, 2), (592, .newarray .int, 2), (594, .putfield 139, 3), (597, .aload_n 0, 1), (598, .sipush 2000, 3), (601, .newarray .int, 2), (603, .putfield 142, 3), (606, .return_, 1)]
def mq_Mod_init : ov_M := (12, ⟨"OneEyeModel", "<init>", "()V"⟩, prog_14_method_1_code, 1, none, mq_Mod_init_c)
def mq_Mod_state_c : List (Nat × Instr × Nat) := [(0, .aload_n 0, 1), (1, .iconst 0, 1), (2, .putfield 145, 3), (5, .aload_n 0, 1), (6, .getfield 148, 3), (9, .istore_n 2, 1), (10, .aload_n 0, 1), (11, .iload_n 1, 1), (12, .putfield 148, 3), (15, .iload_n 2, 1), (16, .ireturn, 1)]
def mq_Mod_state : ov_M := (12, ⟨"OneEyeModel", "state", "(I)I"⟩, prog_14_method_5_code, 3, (some .int), mq_Mod_state_c)
def mq_Mod_three_c : List (Nat × Instr × Nat) := [(0, .aload_n 0, 1), (1, .iconst 0, 1), (2, .putfield 145, 3), (5, .aload_n 0, 1), (6, .iload_n 1, 1), (7, .iconst 1, 1), (8, .bipush 9, 2), (10, .invokevirtual 156, 3), (13, .ifCond .eq 23, 3), (16, .aload_n 0, 1), (17, .iload_n 2, 1), (18, .iconst 0, 1), (19, .sipush 1000, 3), (22, .invokevirtual 156, 3), (25, .ifCond .eq 11, 3), (28, .aload_n 0, 1), (29, .getfield 153, 3), (32, .iconst 4, 1), (33, .if_icmp .ne 5, 3), (36, .iconst (-1), 1), (37, .ireturn, 1), (38, .aload_n 0, 1), (39, .getfield 7, 3), (42, .aload_n 0, 1), (43, .getfield 153, 3), (46, .iload_n 1, 1), (47, .iastore, 1), (48, .aload_n 0, 1), (49, .getfield 13, 3), (52, .aload_n 0, 1), (53, .getfield 153, 3), (56, .iload_n 2, 1), (57, .iastore, 1), (58, .iconst 0, 1), (59, .istore_n 3, 1), (60, .iload_n 3, 1), (61, .iconst 3, 1), (62, .if_icmp .ge 43, 3), (65, .iconst 0, 1), (66, .istore 4, 2), (68, .iload 4, 2), (70, .iconst 4, 1), (71, .if_icmp .ge 28, 3), (74, .aload_n 0, 1), (75, .getfield 31, 3), (78, .iconst 4, 1), (79, .iconst 3, 1), (80, .aload_n 0, 1), (81, .getfield 153, 3), (84, .imul, 1), (85, .iload_n 3, 1), (86, .iadd, 1), (87, .imul, 1), (88, .iload 4, 2), (90, .iadd, 1), (91, .iconst 1, 1), (92, .iastore, 1), (93, .iinc 4 1, 3), (96, .goto (-28), 3), (99, .iinc 3 1, 3), (102, .goto (-42), 3), (105, .aload_n 0, 1), (106, .aload_n 0, 1), (107, .getfield 153, 3), (110, .iconst 1, 1), (111, .iadd, 1), (112, .putfield 153, 3), (115, .aload_n 0, 1), (116, .getfield 153, 3), (119, .iconst 1, 1), (120, .isub, 1), (121, .ireturn, 1)]
def mq_Mod_three : ov_M := (12, ⟨"OneEyeModel", "three", "(II)I"⟩, prog_14_method_11_code, 5, (some .int), mq_Mod_three_c)
def mq_Mod_isIn_c : List (Nat × Instr × Nat) := [(0, .iload_n 1, 1), (1, .iload_n 2, 1), (2, .if_icmp .lt 12, 3), (5, .iload_n 1, 1), (6, .iload_n 3, 1), (7, .if_icmp .gt 7, 3), (10, .iconst 1, 1), (11, .goto 4, 3), (14, .iconst 0, 1), (15, .ireturn, 1)]
def mq_Mod_isIn : ov_M := (12, ⟨"OneEyeModel", "isIn", "(III)Z"⟩, prog_14_method_3_code, 4, (some .boolean), mq_Mod_isIn_c)
def mq_Mod_fact_c : List (Nat × Instr × Nat) := [(0, .aload_n 0, 1), (1, .iconst 0, 1), (2, .putfield 145, 3), (5, .aload_n 0, 1), (6, .iload_n 1, 1), (7, .invokevirtual 160, 3), (10, .ifCond .ne 5, 3), (13, .iconst 0, 1), (14, .ireturn, 1), (15, .aload_n 0, 1), (16, .getfield 25, 3), (19, .iload_n 1, 1), (20, .iload_n 2, 1), (21, .ifCond .eq 7, 3), (24, .iconst 1, 1), (25, .goto 4, 3), (28, .iconst 0, 1), (29, .iastore, 1), (30, .iconst 1, 1), (31, .ireturn, 1)]
def mq_Mod_fact : ov_M := (12, ⟨"OneEyeModel", "fact", "(IZ)Z"⟩, prog_14_method_12_code, 3, (some .boolean), mq_Mod_fact_c)
def mq_Mod_isFact_c : List (Nat × Instr × Nat) := [(0, .iload_n 1, 1), (1, .ifCond .lt 13, 3), (4, .iload_n 1, 1), (5, .bipush 10, 2), (7, .if_icmp .ge 7, 3), (10, .iconst 1, 1), (11, .goto 4, 3), (14, .iconst 0, 1), (15, .ireturn, 1)]
def mq_Mod_isFact : ov_M := (12, ⟨"OneEyeModel", "isFact", "(I)Z"⟩, prog_14_method_10_code, 2, (some .boolean), mq_Mod_isFact_c)
def mq_Mod_trust_c : List (Nat × Instr × Nat) := [(0, .aload_n 0, 1), (1, .iconst 0, 1), (2, .putfield 145, 3), (5, .aload_n 0, 1), (6, .iload_n 1, 1), (7, .invokevirtual 164, 3), (10, .ifCond .eq 11, 3), (13, .aload_n 0, 1), (14, .iload_n 2, 1), (15, .invokevirtual 167, 3), (18, .ifCond .ne 5, 3), (21, .iconst 0, 1), (22, .ireturn, 1), (23, .aload_n 0, 1), (24, .getfield 31, 3), (27, .iconst 4, 1), (28, .iload_n 1, 1), (29, .imul, 1), (30, .iload_n 2, 1), (31, .iadd, 1), (32, .iload_n 3, 1), (33, .ifCond .eq 7, 3), (36, .iconst 1, 1), (37, .goto 4, 3), (40, .iconst 0, 1), (41, .iastore, 1), (42, .iconst 1, 1), (43, .ireturn, 1)]
def mq_Mod_trust : ov_M := (12, ⟨"OneEyeModel", "trust", "(IIZ)Z"⟩, prog_14_method_13_code, 4, (some .boolean), mq_Mod_trust_c)
def mq_Mod_isPerson_c : List (Nat × Instr × Nat) := [(0, .iload_n 1, 1), (1, .ifCond .lt 17, 3), (4, .iload_n 1, 1), (5, .iconst 3, 1), (6, .aload_n 0, 1), (7, .getfield 153, 3), (10, .imul, 1), (11, .if_icmp .ge 7, 3), (14, .iconst 1, 1), (15, .goto 4, 3), (18, .iconst 0, 1), (19, .ireturn, 1)]
def mq_Mod_isPerson : ov_M := (12, ⟨"OneEyeModel", "isPerson", "(I)Z"⟩, prog_14_method_8_code, 2, (some .boolean), mq_Mod_isPerson_c)
def mq_Mod_isThree_c : List (Nat × Instr × Nat) := [(0, .iload_n 1, 1), (1, .ifCond .lt 15, 3), (4, .iload_n 1, 1), (5, .aload_n 0, 1), (6, .getfield 153, 3), (9, .if_icmp .ge 7, 3), (12, .iconst 1, 1), (13, .goto 4, 3), (16, .iconst 0, 1), (17, .ireturn, 1)]
def mq_Mod_isThree : ov_M := (12, ⟨"OneEyeModel", "isThree", "(I)Z"⟩, prog_14_method_7_code, 2, (some .boolean), mq_Mod_isThree_c)
def mq_Mod_feed_c : List (Nat × Instr × Nat) := [(0, .aload_n 0, 1), (1, .iconst 0, 1), (2, .putfield 145, 3), (5, .aload_n 0, 1), (6, .getfield 170, 3), (9, .sipush 380, 3), (12, .if_icmp .le 5, 3), (15, .iconst (-1), 1), (16, .ireturn, 1), (17, .aload_n 0, 1), (18, .iload_n 1, 1), (19, .invokevirtual 173, 3), (22, .aload_n 0, 1), (23, .iload_n 2, 1), (24, .invokevirtual 173, 3), (27, .aload_n 0, 1), (28, .iload_n 3, 1), (29, .invokevirtual 173, 3), (32, .aload_n 0, 1), (33, .iload 4, 2), (35, .invokevirtual 173, 3), (38, .aload_n 0, 1), (39, .iload 5, 2), (41, .invokevirtual 173, 3), (44, .aload_n 0, 1), (45, .getfield 170, 3), (48, .ireturn, 1)]
def mq_Mod_feed : ov_M := (12, ⟨"OneEyeModel", "feed", "(IIIII)I"⟩, prog_14_method_15_code, 6, (some .int), mq_Mod_feed_c)
def mq_Mod_puts_c : List (Nat × Instr × Nat) := [(0, .bipush 24, 2), (2, .istore_n 2, 1), (3, .iload_n 2, 1), (4, .ifCond .lt 35, 3), (7, .aload_n 0, 1), (8, .getfield 93, 3), (11, .aload_n 0, 1), (12, .getfield 170, 3), (15, .iload_n 1, 1), (16, .iload_n 2, 1), (17, .ishr, 1), (18, .sipush 255, 3), (21, .iand, 1), (22, .iastore, 1), (23, .aload_n 0, 1), (24, .aload_n 0, 1), (25, .getfield 170, 3), (28, .iconst 1, 1), (29, .iadd, 1), (30, .putfield 170, 3), (33, .iinc 2 (-8), 3), (36, .goto (-33), 3), (39, .return_, 1)]
def mq_Mod_puts : ov_M := (12, ⟨"OneEyeModel", "puts", "(I)V"⟩, prog_14_method_14_code, 3, none, mq_Mod_puts_c)
def mq_Mod_end_c : List (Nat × Instr × Nat) := [(0, .aload_n 0, 1), (1, .iconst 0, 1), (2, .putfield 145, 3), (5, .aload_n 0, 1), (6, .iload_n 1, 1), (7, .iconst 0, 1), (8, .aload_n 0, 1), (9, .getfield 170, 3), (12, .invokevirtual 156, 3), (15, .ifCond .ne 5, 3), (18, .iconst 0, 1), (19, .ireturn, 1), (20, .aload_n 0, 1), (21, .iload_n 1, 1), (22, .putfield 170, 3), (25, .iconst 1, 1), (26, .ireturn, 1)]
def mq_Mod_end : ov_M := (12, ⟨"OneEyeModel", "end", "(I)Z"⟩, prog_14_method_16_code, 2, (some .boolean), mq_Mod_end_c)
def mq_Mod_text_c : List (Nat × Instr × Nat) := [(0, .aload_n 0, 1), (1, .iconst 0, 1), (2, .putfield 145, 3), (5, .aload_n 0, 1), (6, .iconst 0, 1), (7, .putfield 228, 3), (10, .aload_n 0, 1), (11, .iconst (-1), 1), (12, .putfield 96, 3), (15, .aload_n 0, 1), (16, .iconst 0, 1), (17, .putfield 177, 3), (20, .iconst (-1), 1), (21, .istore_n 2, 1), (22, .aload_n 0, 1), (23, .iload_n 1, 1), (24, .invokevirtual 167, 3), (27, .ifCond .eq 33, 3), (30, .aload_n 0, 1), (31, .invokevirtual 212, 3), (34, .aload_n 0, 1), (35, .invokevirtual 231, 3), (38, .istore_n 2, 1), (39, .iload_n 2, 1), (40, .iconst (-1), 1), (41, .if_icmp .ne 19, 3), (44, .aload_n 0, 1), (45, .aload_n 0, 1), (46, .getfield 203, 3), (49, .putfield 228, 3), (52, .aload_n 0, 1), (53, .aload_n 0, 1), (54, .getfield 206, 3), (57, .putfield 96, 3), (60, .aload_n 0, 1), (61, .iconst 0, 1), (62, .putfield 170, 3), (65, .iload_n 2, 1), (66, .iconst (-1), 1), (67, .if_icmp .ne 5, 3), (70, .iconst (-1), 1), (71, .ireturn, 1), (72, .iconst 0, 1), (73, .istore_n 3, 1), (74, .iload_n 3, 1), (75, .iconst 4, 1), (76, .iload_n 2, 1), (77, .imul, 1), (78, .if_icmp .ge 30, 3), (81, .aload_n 0, 1), (82, .getfield 99, 3), (85, .bipush 120, 2), (87, .iload_n 1, 1), (88, .imul, 1), (89, .iload_n 3, 1), (90, .iadd, 1), (91, .aload_n 0, 1), (92, .getfield 99, 3), (95, .sipush 480, 3), (98, .iload_n 3, 1), (99, .iadd, 1), (100, .iaload, 1), (101, .iastore, 1), (102, .iinc 3 1, 3), (105, .goto (-31), 3), (108, .aload_n 0, 1), (109, .getfield 102, 3), (112, .iload_n 1, 1), (113, .iload_n 2, 1), (114, .iastore, 1), (115, .aload_n 0, 1), (116, .getfield 105, 3), (119, .iload_n 1, 1), (120, .iconst 0, 1), (121, .iastore, 1), (122, .aload_n 0, 1), (123, .getfield 77, 3), (126, .iload_n 1, 1), (127, .iaload, 1), (128, .iconst 1, 1), (129, .if_icmp .eq 17, 3), (132, .aload_n 0, 1), (133, .getfield 77, 3), (136, .iload_n 1, 1), (137, .iconst 0, 1), (138, .iastore, 1), (139, .aload_n 0, 1), (140, .getfield 80, 3), (143, .iload_n 1, 1), (144, .iconst 0, 1), (145, .iastore, 1), (146, .iload_n 2, 1), (147, .ireturn, 1)]
def mq_Mod_text : ov_M := (12, ⟨"OneEyeModel", "text", "(I)I"⟩, prog_14_method_28_code, 4, (some .int), mq_Mod_text_c)
def mq_Mod_reads_c : List (Nat × Instr × Nat) := [(0, .aload_n 0, 1), (1, .aload_n 0, 1), (2, .getfield 177, 3), (5, .invokevirtual 180, 3), (8, .bipush 32, 2), (10, .if_icmp .eq 16, 3), (13, .aload_n 0, 1), (14, .aload_n 0, 1), (15, .getfield 177, 3), (18, .invokevirtual 180, 3), (21, .bipush 10, 2), (23, .if_icmp .ne 16, 3), (26, .aload_n 0, 1), (27, .aload_n 0, 1), (28, .getfield 177, 3), (31, .iconst 1, 1), (32, .iadd, 1), (33, .putfield 177, 3), (36, .goto (-36), 3), (39, .aload_n 0, 1), (40, .aload_n 0, 1), (41, .getfield 177, 3), (44, .putfield 184, 3), (47, .aload_n 0, 1), (48, .iconst 1, 1), (49, .putfield 187, 3), (52, .aload_n 0, 1), (53, .aload_n 0, 1), (54, .getfield 177, 3), (57, .invokevirtual 180, 3), (60, .istore_n 1, 1), (61, .iload_n 1, 1), (62, .iconst (-1), 1), (63, .if_icmp .ne 9, 3), (66, .aload_n 0, 1), (67, .iconst 0, 1), (68, .putfield 187, 3), (71, .return_, 1), (72, .aload_n 0, 1), (73, .aload_n 0, 1), (74, .getfield 177, 3), (77, .iconst 1, 1), (78, .iadd, 1), (79, .putfield 177, 3), (82, .aload_n 0, 1), (83, .iload_n 1, 1), (84, .invokevirtual 190, 3), (87, .ifCond .eq 63, 3), (90, .aload_n 0, 1), (91, .aload_n 0, 1), (92, .aload_n 0, 1), (93, .getfield 177, 3), (96, .invokevirtual 180, 3), (99, .invokevirtual 190, 3), (102, .ifCond .eq 16, 3), (105, .aload_n 0, 1), (106, .aload_n 0, 1), (107, .getfield 177, 3), (110, .iconst 1, 1), (111, .iadd, 1), (112, .putfield 177, 3), (115, .goto (-25), 3), (118, .aload_n 0, 1), (119, .aload_n 0, 1), (120, .aload_n 0, 1), (121, .getfield 184, 3), (124, .aload_n 0, 1), (125, .getfield 177, 3), (128, .invokevirtual 193, 3), (131, .putfield 197, 3), (134, .aload_n 0, 1), (135, .getfield 197, 3), (138, .iconst (-1), 1), (139, .if_icmp .eq 127, 3), (142, .aload_n 0, 1), (143, .iconst 2, 1), (144, .putfield 187, 3), (147, .goto 119, 3), (150, .aload_n 0, 1), (151, .iload_n 1, 1), (152, .invokevirtual 200, 3), (155, .ifCond .eq 100, 3), (158, .aload_n 0, 1), (159, .iload_n 1, 1), (160, .bipush 48, 2), (162, .isub, 1), (163, .putfield 197, 3), (166, .aload_n 0, 1), (167, .aload_n 0, 1), (168, .aload_n 0, 1), (169, .getfield 177, 3), (172, .invokevirtual 180, 3), (175, .invokevirtual 200, 3), (178, .ifCond .eq 56, 3), (181, .aload_n 0, 1), (182, .aload_n 0, 1), (183, .getfield 197, 3), (186, .sipush 10000, 3), (189, .if_icmp .ge 25, 3), (192, .bipush 10, 2), (194, .aload_n 0, 1), (195, .getfield 197, 3), (198, .imul, 1), (199, .aload_n 0, 1), (200, .aload_n 0, 1), (201, .getfield 177, 3), (204, .invokevirtual 180, 3), (207, .iadd, 1), (208, .bipush 48, 2), (210, .isub, 1), (211, .goto 7, 3), (214, .aload_n 0, 1), (215, .getfield 197, 3), (218, .putfield 197, 3), (221, .aload_n 0, 1), (222, .aload_n 0, 1), (223, .getfield 177, 3), (226, .iconst 1, 1), (227, .iadd, 1), (228, .putfield 177, 3), (231, .goto (-65), 3), (234, .aload_n 0, 1), (235, .getfield 177, 3), (238, .aload_n 0, 1), (239, .getfield 184, 3), (242, .isub, 1), (243, .iconst 5, 1), (244, .if_icmp .ge 22, 3), (247, .aload_n 0, 1), (248, .iconst 3, 1), (249, .putfield 187, 3), (252, .goto 14, 3), (255, .iload_n 1, 1), (256, .bipush 59, 2), (258, .if_icmp .ne 8, 3), (261, .aload_n 0, 1), (262, .iconst 4, 1), (263, .putfield 187, 3), (266, .return_, 1)]
def mq_Mod_reads : ov_M := (12, ⟨"OneEyeModel", "reads", "()V"⟩, prog_14_method_21_code, 2, none, mq_Mod_reads_c)
def mq_Mod_raw_c : List (Nat × Instr × Nat) := [(0, .iload_n 1, 1), (1, .aload_n 0, 1), (2, .getfield 170, 3), (5, .if_icmp .ge 12, 3), (8, .aload_n 0, 1), (9, .getfield 93, 3), (12, .iload_n 1, 1), (13, .iaload, 1), (14, .goto 4, 3), (17, .iconst (-1), 1), (18, .ireturn, 1)]
def mq_Mod_raw : ov_M := (12, ⟨"OneEyeModel", "raw", "(I)I"⟩, prog_14_method_17_code, 2, (some .int), mq_Mod_raw_c)
def mq_Mod_isLetter_c : List (Nat × Instr × Nat) := [(0, .aload_n 0, 1), (1, .iload_n 1, 1), (2, .bipush 97, 2), (4, .bipush 122, 2), (6, .invokevirtual 156, 3), (9, .ifCond .ne 15, 3), (12, .aload_n 0, 1), (13, .iload_n 1, 1), (14, .bipush 65, 2), (16, .bipush 90, 2), (18, .invokevirtual 156, 3), (21, .ifCond .eq 7, 3), (24, .iconst 1, 1), (25, .goto 4, 3), (28, .iconst 0, 1), (29, .ireturn, 1)]
def mq_Mod_isLetter : ov_M := (12, ⟨"OneEyeModel", "isLetter", "(I)Z"⟩, prog_14_method_18_code, 2, (some .boolean), mq_Mod_isLetter_c)
def mq_Mod_wordOf_c : List (Nat × Instr × Nat) := [(0, .iconst 0, 1), (1, .istore_n 3, 1), (2, .iconst 1, 1), (3, .istore 4, 2), (5, .iload 4, 2), (7, .bipush 45, 2), (9, .if_icmp .ge 119, 3), (12, .iconst 0, 1), (13, .istore 5, 2), (15, .aload_n 0, 1), (16, .getfield 89, 3), (19, .iload 4, 2), (21, .iload 5, 2), (23, .iadd, 1), (24, .caload, 1), (25, .bipush 32, 2), (27, .if_icmp .eq 42, 3), (30, .iload_n 1, 1), (31, .iload 5, 2), (33, .iadd, 1), (34, .iload_n 2, 1), (35, .if_icmp .ge 34, 3), (38, .aload_n 0, 1), (39, .getfield 89, 3), (42, .iload 4, 2), (44, .iload 5, 2), (46, .iadd, 1), (47, .caload, 1), (48, .aload_n 0, 1), (49, .getfield 93, 3), (52, .iload_n 1, 1), (53, .iload 5, 2), (55, .iadd, 1), (56, .iaload, 1), (57, .if_icmp .ne 12, 3), (60, .iload 5, 2), (62, .iconst 1, 1), (63, .iadd, 1), (64, .istore 5, 2), (66, .goto (-51), 3), (69, .aload_n 0, 1), (70, .getfield 89, 3), (73, .iload 4, 2), (75, .iload 5, 2), (77, .iadd, 1), (78, .caload, 1), (79, .bipush 32, 2), (81, .if_icmp .ne 13, 3), (84, .iload_n 1, 1), (85, .iload 5, 2), (87, .iadd, 1), (88, .iload_n 2, 1), (89, .if_icmp .ne 5, 3), (92, .iload_n 3, 1), (93, .ireturn, 1), (94, .aload_n 0, 1), (95, .getfield 89, 3), (98, .iload 4, 2), (100, .caload, 1), (101, .bipush 32, 2), (103, .if_icmp .eq 12, 3), (106, .iload 4, 2), (108, .iconst 1, 1), (109, .iadd, 1), (110, .istore 4, 2), (112, .goto (-18), 3), (115, .iload 4, 2), (117, .iconst 1, 1), (118, .iadd, 1), (119, .istore 4, 2), (121, .iload_n 3, 1), (122, .iconst 1, 1), (123, .iadd, 1), (124, .istore_n 3, 1), (125, .goto (-120), 3), (128, .iconst (-1), 1), (129, .ireturn, 1)]
def mq_Mod_wordOf : ov_M := (12, ⟨"OneEyeModel", "wordOf", "(II)I"⟩, prog_14_method_20_code, 6, (some .int), mq_Mod_wordOf_c)
def mq_Mod_isDigit_c : List (Nat × Instr × Nat) := [(0, .aload_n 0, 1), (1, .iload_n 1, 1), (2, .bipush 48, 2), (4, .bipush 57, 2), (6, .invokevirtual 156, 3), (9, .ireturn, 1)]
def mq_Mod_isDigit : ov_M := (12, ⟨"OneEyeModel", "isDigit", "(I)Z"⟩, prog_14_method_19_code, 2, (some .boolean), mq_Mod_isDigit_c)
def mq_Mod_readPlan_c : List (Nat × Instr × Nat) := [(0, .iconst 0, 1), (1, .istore_n 1, 1), (2, .aload_n 0, 1), (3, .getfield 187, 3), (6, .iconst 2, 1), (7, .if_icmp .ne 76, 3), (10, .aload_n 0, 1), (11, .getfield 197, 3), (14, .bipush 6, 2), (16, .if_icmp .ge 67, 3), (19, .iload_n 1, 1), (20, .bipush 30, 2), (22, .if_icmp .ne 9, 3), (25, .aload_n 0, 1), (26, .iconst 3, 1), (27, .invokevirtual 209, 3), (30, .ireturn, 1), (31, .aload_n 0, 1), (32, .getfield 197, 3), (35, .istore_n 2, 1), (36, .aload_n 0, 1), (37, .invokevirtual 212, 3), (40, .aload_n 0, 1), (41, .iload_n 2, 1), (42, .sipush 480, 3), (45, .iconst 4, 1), (46, .iload_n 1, 1), (47, .imul, 1), (48, .iadd, 1), (49, .invokevirtual 225, 3), (52, .iconst (-1), 1), (53, .if_icmp .ne 5, 3), (56, .iconst (-1), 1), (57, .ireturn, 1), (58, .aload_n 0, 1), (59, .getfield 187, 3), (62, .iconst 4, 1), (63, .if_icmp .eq 9, 3), (66, .aload_n 0, 1), (67, .iconst 1, 1), (68, .invokevirtual 209, 3), (71, .ireturn, 1), (72, .aload_n 0, 1), (73, .invokevirtual 212, 3), (76, .iload_n 1, 1), (77, .iconst 1, 1), (78, .iadd, 1), (79, .istore_n 1, 1), (80, .goto (-78), 3), (83, .aload_n 0, 1), (84, .getfield 187, 3), (87, .ifCond .ne 7, 3), (90, .iload_n 1, 1), (91, .goto 8, 3), (94, .aload_n 0, 1), (95, .iconst 1, 1), (96, .invokevirtual 209, 3), (99, .ireturn, 1)]
def mq_Mod_readPlan : ov_M := (12, ⟨"OneEyeModel", "readPlan", "()I"⟩, prog_14_method_27_code, 3, (some .int), mq_Mod_readPlan_c)
def mq_Mod_errs_c : List (Nat × Instr × Nat) := [(0, .aload_n 0, 1), (1, .iload_n 1, 1), (2, .putfield 203, 3), (5, .aload_n 0, 1), (6, .aload_n 0, 1), (7, .getfield 184, 3), (10, .putfield 206, 3), (13, .iconst (-1), 1), (14, .ireturn, 1)]
def mq_Mod_errs : ov_M := (12, ⟨"OneEyeModel", "errs", "(I)I"⟩, prog_14_method_22_code, 2, (some .int), mq_Mod_errs_c)
def mq_Mod_readStep_c : List (Nat × Instr × Nat) := [(0, .aload_n 0, 1), (1, .getfield 99, 3), (4, .iload_n 2, 1), (5, .iload_n 1, 1), (6, .iastore, 1), (7, .iload_n 1, 1), (8, .ifCond .eq 8, 3), (11, .iload_n 1, 1), (12, .iconst 5, 1), (13, .if_icmp .ne 7, 3), (16, .iconst 1, 1), (17, .goto 4, 3), (20, .iconst 0, 1), (21, .istore_n 3, 1), (22, .aload_n 0, 1), (23, .getfield 99, 3), (26, .iload_n 2, 1), (27, .iconst 1, 1), (28, .iadd, 1), (29, .iload_n 3, 1), (30, .ifCond .eq 10, 3), (33, .aload_n 0, 1), (34, .invokevirtual 218, 3), (37, .goto 25, 3), (40, .iload_n 1, 1), (41, .iconst 4, 1), (42, .if_icmp .ne 13, 3), (45, .aload_n 0, 1), (46, .iconst 1, 1), (47, .bipush 99, 2), (49, .invokevirtual 215, 3), (52, .goto 10, 3), (55, .aload_n 0, 1), (56, .iconst 0, 1), (57, .bipush 9, 2), (59, .invokevirtual 215, 3), (62, .iastore, 1), (63, .aload_n 0, 1), (64, .getfield 99, 3), (67, .iload_n 2, 1), (68, .iconst 1, 1), (69, .iadd, 1), (70, .iaload, 1), (71, .iconst (-1), 1), (72, .if_icmp .ne 5, 3), (75, .iconst (-1), 1), (76, .ireturn, 1), (77, .aload_n 0, 1), (78, .getfield 99, 3), (81, .iload_n 2, 1), (82, .iconst 2, 1), (83, .iadd, 1), (84, .iconst 0, 1), (85, .iastore, 1), (86, .iload_n 1, 1), (87, .ifCond .ne 17, 3), (90, .aload_n 0, 1), (91, .getfield 99, 3), (94, .iload_n 2, 1), (95, .iconst 2, 1), (96, .iadd, 1), (97, .aload_n 0, 1), (98, .iconst 0, 1), (99, .iconst 2, 1), (100, .invokevirtual 215, 3), (103, .iastore, 1), (104, .iload_n 1, 1), (105, .iconst 5, 1), (106, .if_icmp .ne 18, 3), (109, .aload_n 0, 1), (110, .getfield 99, 3), (113, .iload_n 2, 1), (114, .iconst 2, 1), (115, .iadd, 1), (116, .aload_n 0, 1), (117, .iconst 0, 1), (118, .bipush 8, 2), (120, .invokevirtual 215, 3), (123, .iastore, 1), (124, .iload_n 1, 1), (125, .iconst 2, 1), (126, .if_icmp .eq 8, 3), (129, .iload_n 1, 1), (130, .iconst 3, 1), (131, .if_icmp .ne 15, 3), (134, .aload_n 0, 1), (135, .getfield 99, 3), (138, .iload_n 2, 1), (139, .iconst 2, 1), (140, .iadd, 1), (141, .aload_n 0, 1), (142, .invokevirtual 222, 3), (145, .iastore, 1), (146, .aload_n 0, 1), (147, .getfield 99, 3), (150, .iload_n 2, 1), (151, .iconst 2, 1), (152, .iadd, 1), (153, .iaload, 1), (154, .iconst (-1), 1), (155, .if_icmp .ne 7, 3), (158, .iconst (-1), 1), (159, .goto 4, 3), (162, .iconst 0, 1), (163, .ireturn, 1)]
def mq_Mod_readStep : ov_M := (12, ⟨"OneEyeModel", "readStep", "(II)I"⟩, prog_14_method_26_code, 4, (some .int), mq_Mod_readStep_c)
def mq_Mod_readThing_c : List (Nat × Instr × Nat) := [(0, .aload_n 0, 1), (1, .getfield 187, 3), (4, .iconst 2, 1), (5, .if_icmp .ne 12, 3), (8, .aload_n 0, 1), (9, .getfield 197, 3), (12, .bipush 7, 2), (14, .if_icmp .ge 9, 3), (17, .aload_n 0, 1), (18, .iconst 1, 1), (19, .invokevirtual 209, 3), (22, .ireturn, 1), (23, .aload_n 0, 1), (24, .getfield 197, 3), (27, .bipush 7, 2), (29, .isub, 1), (30, .istore_n 1, 1), (31, .aload_n 0, 1), (32, .invokevirtual 212, 3), (35, .iload_n 1, 1), (36, .ireturn, 1)]
def mq_Mod_readThing : ov_M := (12, ⟨"OneEyeModel", "readThing", "()I"⟩, prog_14_method_24_code, 2, (some .int), mq_Mod_readThing_c)
def mq_Mod_readNumber_c : List (Nat × Instr × Nat) := [(0, .aload_n 0, 1), (1, .getfield 187, 3), (4, .iconst 3, 1), (5, .if_icmp .eq 9, 3), (8, .aload_n 0, 1), (9, .iconst 1, 1), (10, .invokevirtual 209, 3), (13, .ireturn, 1), (14, .aload_n 0, 1), (15, .aload_n 0, 1), (16, .getfield 197, 3), (19, .iload_n 1, 1), (20, .iload_n 2, 1), (21, .invokevirtual 156, 3), (24, .ifCond .ne 9, 3), (27, .aload_n 0, 1), (28, .iconst 2, 1), (29, .invokevirtual 209, 3), (32, .ireturn, 1), (33, .aload_n 0, 1), (34, .getfield 197, 3), (37, .istore_n 3, 1), (38, .aload_n 0, 1), (39, .invokevirtual 212, 3), (42, .iload_n 3, 1), (43, .ireturn, 1)]
def mq_Mod_readNumber : ov_M := (12, ⟨"OneEyeModel", "readNumber", "(II)I"⟩, prog_14_method_23_code, 4, (some .int), mq_Mod_readNumber_c)
def mq_Mod_readTo_c : List (Nat × Instr × Nat) := [(0, .aload_n 0, 1), (1, .getfield 187, 3), (4, .iconst 2, 1), (5, .if_icmp .ne 12, 3), (8, .aload_n 0, 1), (9, .getfield 197, 3), (12, .bipush 6, 2), (14, .if_icmp .eq 9, 3), (17, .aload_n 0, 1), (18, .iconst 1, 1), (19, .invokevirtual 209, 3), (22, .ireturn, 1), (23, .aload_n 0, 1), (24, .invokevirtual 212, 3), (27, .aload_n 0, 1), (28, .iconst 0, 1), (29, .aload_n 0, 1), (30, .getfield 153, 3), (33, .iconst 1, 1), (34, .isub, 1), (35, .invokevirtual 215, 3), (38, .ireturn, 1)]
def mq_Mod_readTo : ov_M := (12, ⟨"OneEyeModel", "readTo", "()I"⟩, prog_14_method_25_code, 1, (some .int), mq_Mod_readTo_c)
def mq_Mod_fault_c : List (Nat × Instr × Nat) := [(0, .aload_n 0, 1), (1, .iconst 0, 1), (2, .putfield 145, 3), (5, .iload_n 1, 1), (6, .ifCond .ne 10, 3), (9, .aload_n 0, 1), (10, .getfield 228, 3), (13, .goto 16, 3), (16, .iload_n 1, 1), (17, .iconst 1, 1), (18, .if_icmp .ne 10, 3), (21, .aload_n 0, 1), (22, .getfield 96, 3), (25, .goto 4, 3), (28, .iconst (-1), 1), (29, .ireturn, 1)]
def mq_Mod_fault : ov_M := (12, ⟨"OneEyeModel", "fault", "(I)I"⟩, prog_14_method_29_code, 2, (some .int), mq_Mod_fault_c)
def mq_Mod_minutes_c : List (Nat × Instr × Nat) := [(0, .aload_n 0, 1), (1, .iconst 0, 1), (2, .putfield 145, 3), (5, .aload_n 0, 1), (6, .iload_n 1, 1), (7, .iconst 1, 1), (8, .sipush 1000, 3), (11, .invokevirtual 156, 3), (14, .ifCond .eq 15, 3), (17, .aload_n 0, 1), (18, .getfield 252, 3), (21, .iload_n 1, 1), (22, .iadd, 1), (23, .ldc_w 275, 3), (26, .if_icmp .le 5, 3), (29, .iconst (-1), 1), (30, .ireturn, 1), (31, .iconst 0, 1), (32, .istore_n 2, 1), (33, .iload_n 2, 1), (34, .iload_n 1, 1), (35, .if_icmp .ge 13, 3), (38, .aload_n 0, 1), (39, .invokevirtual 276, 3), (42, .iinc 2 1, 3), (45, .goto (-12), 3), (48, .aload_n 0, 1), (49, .getfield 252, 3), (52, .ireturn, 1)]
def mq_Mod_minutes : ov_M := (12, ⟨"OneEyeModel", "minutes", "(I)I"⟩, prog_14_method_40_code, 3, (some .int), mq_Mod_minutes_c)
def mq_Mod_goesBy_c : List (Nat × Instr × Nat) := [(0, .aload_n 0, 1), (1, .getfield 252, 3), (4, .sipush 240, 3), (7, .irem, 1), (8, .ifCond .ne 16, 3), (11, .aload_n 0, 1), (12, .bipush 120, 2), (14, .aload_n 0, 1), (15, .bipush 61, 2), (17, .invokevirtual 237, 3), (20, .iadd, 1), (21, .putfield 49, 3), (24, .iconst 0, 1), (25, .istore_n 1, 1), (26, .iload_n 1, 1), (27, .aload_n 0, 1), (28, .getfield 153, 3), (31, .if_icmp .ge 69, 3), (34, .aload_n 0, 1), (35, .getfield 80, 3), (38, .iload_n 1, 1), (39, .iaload, 1), (40, .ifCond .le 34, 3), (43, .aload_n 0, 1), (44, .getfield 80, 3), (47, .iload_n 1, 1), (48, .aload_n 0, 1), (49, .getfield 80, 3), (52, .iload_n 1, 1), (53, .iaload, 1), (54, .iconst 1, 1), (55, .isub, 1), (56, .iastore, 1), (57, .aload_n 0, 1), (58, .getfield 80, 3), (61, .iload_n 1, 1), (62, .iaload, 1), (63, .ifCond .ne 31, 3), (66, .aload_n 0, 1), (67, .iload_n 1, 1), (68, .invokevirtual 263, 3), (71, .goto 23, 3), (74, .aload_n 0, 1), (75, .getfield 105, 3), (78, .iload_n 1, 1), (79, .iaload, 1), (80, .aload_n 0, 1), (81, .getfield 102, 3), (84, .iload_n 1, 1), (85, .iaload, 1), (86, .if_icmp .ge 8, 3), (89, .aload_n 0, 1), (90, .iload_n 1, 1), (91, .invokevirtual 269, 3), (94, .iinc 1 1, 3), (97, .goto (-71), 3), (100, .iconst 0, 1), (101, .istore_n 1, 1), (102, .iload_n 1, 1), (103, .aload_n 0, 1), (104, .getfield 153, 3), (107, .if_icmp .ge 64, 3), (110, .iconst 0, 1), (111, .istore_n 2, 1), (112, .iload_n 2, 1), (113, .iconst 3, 1), (114, .if_icmp .ge 51, 3), (117, .aload_n 0, 1), (118, .iload_n 1, 1), (119, .iload_n 2, 1), (120, .invokevirtual 246, 3), (123, .iconst (-1), 1), (124, .if_icmp .eq 35, 3), (127, .aload_n 0, 1), (128, .getfield 34, 3), (131, .iconst 3, 1), (132, .aload_n 0, 1), (133, .iload_n 1, 1), (134, .iload_n 2, 1), (135, .invokevirtual 246, 3), (138, .imul, 1), (139, .iload_n 2, 1), (140, .iadd, 1), (141, .aload_n 0, 1), (142, .getfield 34, 3), (145, .iconst 3, 1), (146, .aload_n 0, 1), (147, .iload_n 1, 1), (148, .iload_n 2, 1), (149, .invokevirtual 246, 3), (152, .imul, 1), (153, .iload_n 2, 1), (154, .iadd, 1), (155, .iaload, 1), (156, .iconst 1, 1), (157, .iadd, 1), (158, .iastore, 1), (159, .iinc 2 1, 3), (162, .goto (-50), 3), (165, .iinc 1 1, 3), (168, .goto (-66), 3), (171, .aload_n 0, 1), (172, .invokevirtual 272, 3), (175, .aload_n 0, 1), (176, .aload_n 0, 1), (177, .getfield 252, 3), (180, .iconst 1, 1), (181, .iadd, 1), (182, .putfield 252, 3), (185, .return_, 1)]
def mq_Mod_goesBy : ov_M := (12, ⟨"OneEyeModel", "goesBy", "()V"⟩, prog_14_method_39_code, 3, none, mq_Mod_goesBy_c)
def mq_Mod_draw_c : List (Nat × Instr × Nat) := [(0, .aload_n 0, 1), (1, .ldc 151, 2), (3, .aload_n 0, 1), (4, .getfield 148, 3), (7, .imul, 1), (8, .ldc 152, 2), (10, .iadd, 1), (11, .putfield 148, 3), (14, .aload_n 0, 1), (15, .getfield 148, 3), (18, .bipush 8, 2), (20, .iushr, 1), (21, .iload_n 1, 1), (22, .irem, 1), (23, .ireturn, 1)]
def mq_Mod_draw : ov_M := (12, ⟨"OneEyeModel", "draw", "(I)I"⟩, prog_14_method_6_code, 2, (some .int), mq_Mod_draw_c)
def mq_Mod_ends_c : List (Nat × Instr × Nat) := [(0, .aload_n 0, 1), (1, .getfield 77, 3), (4, .iload_n 1, 1), (5, .iaload, 1), (6, .iconst 1, 1), (7, .if_icmp .ne 11, 3), (10, .aload_n 0, 1), (11, .iload_n 1, 1), (12, .invokevirtual 240, 3), (15, .goto 18, 3), (18, .aload_n 0, 1), (19, .getfield 77, 3), (22, .iload_n 1, 1), (23, .iaload, 1), (24, .iconst 3, 1), (25, .if_icmp .ne 8, 3), (28, .aload_n 0, 1), (29, .iload_n 1, 1), (30, .invokevirtual 243, 3), (33, .aload_n 0, 1), (34, .getfield 77, 3), (37, .iload_n 1, 1), (38, .iconst 0, 1), (39, .iastore, 1), (40, .return_, 1)]
def mq_Mod_ends : ov_M := (12, ⟨"OneEyeModel", "ends", "(I)V"⟩, prog_14_method_34_code, 2, none, mq_Mod_ends_c)
def mq_Mod_handsOver_c : List (Nat × Instr × Nat) := [(0, .iconst 3, 1), (1, .iload_n 1, 1), (2, .imul, 1), (3, .aload_n 0, 1), (4, .getfield 83, 3), (7, .iload_n 1, 1), (8, .iaload, 1), (9, .iadd, 1), (10, .istore_n 2, 1), (11, .aload_n 0, 1), (12, .getfield 16, 3), (15, .iload_n 1, 1), (16, .aload_n 0, 1), (17, .getfield 16, 3), (20, .iload_n 1, 1), (21, .iaload, 1), (22, .iconst 1, 1), (23, .iadd, 1), (24, .iastore, 1), (25, .aload_n 0, 1), (26, .getfield 77, 3), (29, .iload_n 1, 1), (30, .iconst 0, 1), (31, .iastore, 1), (32, .aload_n 0, 1), (33, .getfield 13, 3), (36, .iload_n 1, 1), (37, .iaload, 1), (38, .ifCond .le 23, 3), (41, .aload_n 0, 1), (42, .sipush 1000, 3), (45, .invokevirtual 237, 3), (48, .aload_n 0, 1), (49, .getfield 13, 3), (52, .iload_n 1, 1), (53, .iaload, 1), (54, .if_icmp .ge 7, 3), (57, .iconst 1, 1), (58, .goto 4, 3), (61, .iconst 0, 1), (62, .istore_n 3, 1), (63, .iload_n 3, 1), (64, .ifCond .eq 17, 3), (67, .aload_n 0, 1), (68, .getfield 19, 3), (71, .iload_n 1, 1), (72, .aload_n 0, 1), (73, .getfield 19, 3), (76, .iload_n 1, 1), (77, .iaload, 1), (78, .iconst 1, 1), (79, .iadd, 1), (80, .iastore, 1), (81, .aload_n 0, 1), (82, .getfield 22, 3), (85, .iload_n 2, 1), (86, .iload_n 3, 1), (87, .ifCond .eq 15, 3), (90, .bipush 10, 2), (92, .aload_n 0, 1), (93, .bipush 9, 2), (95, .invokevirtual 237, 3), (98, .iadd, 1), (99, .goto 9, 3), (102, .aload_n 0, 1), (103, .getfield 86, 3), (106, .iload_n 1, 1), (107, .iaload, 1), (108, .iastore, 1), (109, .return_, 1)]
def mq_Mod_handsOver : ov_M := (12, ⟨"OneEyeModel", "handsOver", "(I)V"⟩, prog_14_method_32_code, 4, none, mq_Mod_handsOver_c)
def mq_Mod_feels_c : List (Nat × Instr × Nat) := [(0, .aload_n 0, 1), (1, .getfield 77, 3), (4, .iload_n 1, 1), (5, .iconst 0, 1), (6, .iastore, 1), (7, .iconst 3, 1), (8, .iload_n 1, 1), (9, .imul, 1), (10, .aload_n 0, 1), (11, .getfield 83, 3), (14, .iload_n 1, 1), (15, .iaload, 1), (16, .iadd, 1), (17, .istore_n 2, 1), (18, .aload_n 0, 1), (19, .getfield 22, 3), (22, .iload_n 2, 1), (23, .iaload, 1), (24, .bipush 10, 2), (26, .aload_n 0, 1), (27, .getfield 86, 3), (30, .iload_n 1, 1), (31, .iaload, 1), (32, .iadd, 1), (33, .if_icmp .eq 4, 3), (36, .return_, 1), (37, .iconst 2, 1), (38, .istore_n 3, 1), (39, .iload_n 3, 1), (40, .ifCond .lt 40, 3), (43, .aload_n 0, 1), (44, .iload_n 1, 1), (45, .iconst 0, 1), (46, .invokevirtual 234, 3), (49, .iload_n 3, 1), (50, .if_icmp .eq 23, 3), (53, .aload_n 0, 1), (54, .iload_n 1, 1), (55, .iconst 1, 1), (56, .invokevirtual 234, 3), (59, .iload_n 3, 1), (60, .if_icmp .eq 13, 3), (63, .aload_n 0, 1), (64, .iload_n 1, 1), (65, .iconst 2, 1), (66, .invokevirtual 234, 3), (69, .iload_n 3, 1), (70, .if_icmp .ne 10, 3), (73, .iload_n 3, 1), (74, .iconst 1, 1), (75, .isub, 1), (76, .istore_n 3, 1), (77, .goto (-38), 3), (80, .iload_n 3, 1), (81, .iconst 1, 1), (82, .isub, 1), (83, .istore 4, 2), (85, .iload 4, 2), (87, .ifCond .lt 45, 3), (90, .aload_n 0, 1), (91, .iload_n 1, 1), (92, .iconst 0, 1), (93, .invokevirtual 234, 3), (96, .iload 4, 2), (98, .if_icmp .eq 28, 3), (101, .aload_n 0, 1), (102, .iload_n 1, 1), (103, .iconst 1, 1), (104, .invokevirtual 234, 3), (107, .iload 4, 2), (109, .if_icmp .eq 17, 3), (112, .aload_n 0, 1), (113, .iload_n 1, 1), (114, .iconst 2, 1), (115, .invokevirtual 234, 3), (118, .iload 4, 2), (120, .if_icmp .eq 6, 3), (123, .iload 4, 2), (125, .istore_n 3, 1), (126, .iinc 4 (-1), 3), (129, .goto (-44), 3), (132, .aload_n 0, 1), (133, .getfield 22, 3), (136, .iload_n 2, 1), (137, .iload_n 3, 1), (138, .ifCond .ge 7, 3), (141, .iconst 0, 1), (142, .goto 4, 3), (145, .iload_n 3, 1), (146, .iastore, 1), (147, .return_, 1)]
def mq_Mod_feels : ov_M := (12, ⟨"OneEyeModel", "feels", "(I)V"⟩, prog_14_method_33_code, 5, none, mq_Mod_feels_c)
def mq_Mod_thing_c : List (Nat × Instr × Nat) := [(0, .aload_n 0, 1), (1, .getfield 22, 3), (4, .iconst 3, 1), (5, .iload_n 1, 1), (6, .imul, 1), (7, .iload_n 2, 1), (8, .iadd, 1), (9, .iaload, 1), (10, .ireturn, 1)]
def mq_Mod_thing : ov_M := (12, ⟨"OneEyeModel", "thing", "(II)I"⟩, prog_14_method_30_code, 3, (some .int), mq_Mod_thing_c)
def mq_Mod_begins_c : List (Nat × Instr × Nat) := [(0, .bipush 120, 2), (2, .iload_n 1, 1), (3, .imul, 1), (4, .iconst 4, 1), (5, .aload_n 0, 1), (6, .getfield 105, 3), (9, .iload_n 1, 1), (10, .iaload, 1), (11, .imul, 1), (12, .iadd, 1), (13, .istore_n 2, 1), (14, .aload_n 0, 1), (15, .getfield 99, 3), (18, .iload_n 2, 1), (19, .iaload, 1), (20, .istore_n 3, 1), (21, .aload_n 0, 1), (22, .getfield 99, 3), (25, .iload_n 2, 1), (26, .iconst 1, 1), (27, .iadd, 1), (28, .iaload, 1), (29, .istore 4, 2), (31, .aload_n 0, 1), (32, .getfield 99, 3), (35, .iload_n 2, 1), (36, .iconst 2, 1), (37, .iadd, 1), (38, .iaload, 1), (39, .istore 5, 2), (41, .aload_n 0, 1), (42, .getfield 105, 3), (45, .iload_n 1, 1), (46, .aload_n 0, 1), (47, .getfield 105, 3), (50, .iload_n 1, 1), (51, .iaload, 1), (52, .iconst 1, 1), (53, .iadd, 1), (54, .iastore, 1), (55, .iload_n 3, 1), (56, .iconst 1, 1), (57, .if_icmp .ne 10, 3), (60, .aload_n 0, 1), (61, .iload_n 1, 1), (62, .iload 4, 2), (64, .invokevirtual 255, 3), (67, .iload_n 3, 1), (68, .iconst 2, 1), (69, .if_icmp .eq 8, 3), (72, .iload_n 3, 1), (73, .iconst 3, 1), (74, .if_icmp .ne 22, 3), (77, .aload_n 0, 1), (78, .iload_n 1, 1), (79, .iload 4, 2), (81, .iload 5, 2), (83, .iload_n 3, 1), (84, .iconst 3, 1), (85, .if_icmp .ne 7, 3), (88, .iconst 1, 1), (89, .goto 4, 3), (92, .iconst 0, 1), (93, .invokevirtual 259, 3), (96, .iload_n 3, 1), (97, .iconst 4, 1), (98, .if_icmp .ne 8, 3), (101, .iload 4, 2), (103, .goto 13, 3), (106, .iload_n 3, 1), (107, .iconst 5, 1), (108, .if_icmp .ne 7, 3), (111, .iconst 2, 1), (112, .goto 4, 3), (115, .iconst 0, 1), (116, .istore 6, 2), (118, .iload_n 3, 1), (119, .ifCond .ne 46, 3), (122, .aload_n 0, 1), (123, .iload_n 1, 1), (124, .iload 4, 2), (126, .invokevirtual 234, 3), (129, .iconst 3, 1), (130, .if_icmp .ge 35, 3), (133, .aload_n 0, 1), (134, .iload_n 1, 1), (135, .iload 4, 2), (137, .invokevirtual 234, 3), (140, .iload 5, 2), (142, .if_icmp .eq 23, 3), (145, .aload_n 0, 1), (146, .getfield 7, 3), (149, .iload_n 1, 1), (150, .iaload, 1), (151, .istore 6, 2), (153, .aload_n 0, 1), (154, .getfield 22, 3), (157, .iconst 3, 1), (158, .iload_n 1, 1), (159, .imul, 1), (160, .iload 4, 2), (162, .iadd, 1), (163, .iconst 3, 1), (164, .iastore, 1), (165, .iload 6, 2), (167, .ifCond .ne 4, 3), (170, .return_, 1), (171, .aload_n 0, 1), (172, .getfield 77, 3), (175, .iload_n 1, 1), (176, .iload_n 3, 1), (177, .iconst 4, 1), (178, .if_icmp .ne 7, 3), (181, .iconst 2, 1), (182, .goto 13, 3), (185, .iload_n 3, 1), (186, .iconst 5, 1), (187, .if_icmp .ne 7, 3), (190, .iconst 3, 1), (191, .goto 4, 3), (194, .iconst 1, 1), (195, .iastore, 1), (196, .aload_n 0, 1), (197, .getfield 83, 3), (200, .iload_n 1, 1), (201, .iload 4, 2), (203, .iastore, 1), (204, .aload_n 0, 1), (205, .getfield 86, 3), (208, .iload_n 1, 1), (209, .iload 5, 2), (211, .iastore, 1), (212, .aload_n 0, 1), (213, .getfield 80, 3), (216, .iload_n 1, 1), (217, .iload 6, 2), (219, .iconst 1, 1), (220, .isub, 1), (221, .iastore, 1), (222, .aload_n 0, 1), (223, .getfield 80, 3), (226, .iload_n 1, 1), (227, .iaload, 1), (228, .ifCond .ne 8, 3), (231, .aload_n 0, 1), (232, .iload_n 1, 1), (233, .invokevirtual 263, 3), (236, .return_, 1)]
def mq_Mod_begins : ov_M := (12, ⟨"OneEyeModel", "begins", "(I)V"⟩, prog_14_method_37_code, 7, none, mq_Mod_begins_c)
def mq_Mod_sees_c : List (Nat × Instr × Nat) := [(0, .aload_n 0, 1), (1, .iload_n 1, 1), (2, .iconst 0, 1), (3, .invokevirtual 246, 3), (6, .istore_n 3, 1), (7, .iload_n 3, 1), (8, .iconst (-1), 1), (9, .if_icmp .eq 18, 3), (12, .aload_n 0, 1), (13, .getfield 252, 3), (16, .sipush 240, 3), (19, .irem, 1), (20, .aload_n 0, 1), (21, .getfield 49, 3), (24, .if_icmp .lt 4, 3), (27, .return_, 1), (28, .aload_n 0, 1), (29, .getfield 28, 3), (32, .bipush 10, 2), (34, .iload_n 3, 1), (35, .imul, 1), (36, .iload_n 2, 1), (37, .iadd, 1), (38, .aload_n 0, 1), (39, .getfield 25, 3), (42, .iload_n 2, 1), (43, .iaload, 1), (44, .iconst 1, 1), (45, .if_icmp .ne 7, 3), (48, .iconst 1, 1), (49, .goto 4, 3), (52, .iconst 2, 1), (53, .iastore, 1), (54, .aload_n 0, 1), (55, .getfield 37, 3), (58, .bipush 10, 2), (60, .iload_n 3, 1), (61, .imul, 1), (62, .iload_n 2, 1), (63, .iadd, 1), (64, .iload_n 3, 1), (65, .iastore, 1), (66, .aload_n 0, 1), (67, .getfield 40, 3), (70, .bipush 10, 2), (72, .iload_n 3, 1), (73, .imul, 1), (74, .iload_n 2, 1), (75, .iadd, 1), (76, .aload_n 0, 1), (77, .getfield 252, 3), (80, .iastore, 1), (81, .aload_n 0, 1), (82, .getfield 43, 3), (85, .bipush 10, 2), (87, .iload_n 3, 1), (88, .imul, 1), (89, .iload_n 2, 1), (90, .iadd, 1), (91, .iconst 0, 1), (92, .iastore, 1), (93, .aload_n 0, 1), (94, .getfield 46, 3), (97, .bipush 10, 2), (99, .iload_n 3, 1), (100, .imul, 1), (101, .iload_n 2, 1), (102, .iadd, 1), (103, .iconst 0, 1), (104, .iastore, 1), (105, .return_, 1)]
def mq_Mod_sees : ov_M := (12, ⟨"OneEyeModel", "sees", "(II)V"⟩, prog_14_method_36_code, 4, none, mq_Mod_sees_c)
def mq_Mod_holder_c : List (Nat × Instr × Nat) := [(0, .aload_n 0, 1), (1, .iload_n 1, 1), (2, .iload_n 2, 1), (3, .invokevirtual 234, 3), (6, .iconst 3, 1), (7, .if_icmp .ge 16, 3), (10, .iconst 3, 1), (11, .iload_n 1, 1), (12, .imul, 1), (13, .aload_n 0, 1), (14, .iload_n 1, 1), (15, .iload_n 2, 1), (16, .invokevirtual 234, 3), (19, .iadd, 1), (20, .goto 4, 3), (23, .iconst (-1), 1), (24, .ireturn, 1)]
def mq_Mod_holder : ov_M := (12, ⟨"OneEyeModel", "holder", "(II)I"⟩, prog_14_method_31_code, 3, (some .int), mq_Mod_holder_c)
def mq_Mod_says_c : List (Nat × Instr × Nat) := [(0, .aload_n 0, 1), (1, .iload_n 1, 1), (2, .iconst 2, 1), (3, .invokevirtual 246, 3), (6, .istore 5, 2), (8, .aload_n 0, 1), (9, .iload_n 3, 1), (10, .iconst 1, 1), (11, .invokevirtual 246, 3), (14, .istore 6, 2), (16, .iload 5, 2), (18, .iconst (-1), 1), (19, .if_icmp .eq 24, 3), (22, .iload 6, 2), (24, .iconst (-1), 1), (25, .if_icmp .eq 18, 3), (28, .aload_n 0, 1), (29, .getfield 28, 3), (32, .bipush 10, 2), (34, .iload 5, 2), (36, .imul, 1), (37, .iload_n 2, 1), (38, .iadd, 1), (39, .iaload, 1), (40, .ifCond .ne 4, 3), (43, .return_, 1), (44, .iload 4, 2), (46, .ifCond .eq 20, 3), (49, .iconst 3, 1), (50, .aload_n 0, 1), (51, .getfield 28, 3), (54, .bipush 10, 2), (56, .iload 5, 2), (58, .imul, 1), (59, .iload_n 2, 1), (60, .iadd, 1), (61, .iaload, 1), (62, .isub, 1), (63, .goto 15, 3), (66, .aload_n 0, 1), (67, .getfield 28, 3), (70, .bipush 10, 2), (72, .iload 5, 2), (74, .imul, 1), (75, .iload_n 2, 1), (76, .iadd, 1), (77, .iaload, 1), (78, .istore 7, 2), (80, .aload_n 0, 1), (81, .getfield 249, 3), (84, .bipush 99, 2), (86, .if_icmp .ge 78, 3), (89, .aload_n 0, 1), (90, .getfield 62, 3), (93, .aload_n 0, 1), (94, .getfield 249, 3), (97, .iload 5, 2), (99, .iastore, 1), (100, .aload_n 0, 1), (101, .getfield 65, 3), (104, .aload_n 0, 1), (105, .getfield 249, 3), (108, .iload_n 2, 1), (109, .iastore, 1), (110, .aload_n 0, 1), (111, .getfield 68, 3), (114, .aload_n 0, 1), (115, .getfield 249, 3), (118, .iload 7, 2), (120, .iconst 1, 1), (121, .if_icmp .ne 7, 3), (124, .iconst 1, 1), (125, .goto 4, 3), (128, .iconst 0, 1), (129, .iastore, 1), (130, .aload_n 0, 1), (131, .getfield 71, 3), (134, .aload_n 0, 1), (135, .getfield 249, 3), (138, .iload 6, 2), (140, .iastore, 1), (141, .aload_n 0, 1), (142, .getfield 74, 3), (145, .aload_n 0, 1), (146, .getfield 249, 3), (149, .aload_n 0, 1), (150, .getfield 252, 3), (153, .iastore, 1), (154, .aload_n 0, 1), (155, .aload_n 0, 1), (156, .getfield 249, 3), (159, .iconst 1, 1), (160, .iadd, 1), (161, .putfield 249, 3), (164, .aload_n 0, 1), (165, .getfield 31, 3), (168, .iconst 4, 1), (169, .iload 6, 2), (171, .imul, 1), (172, .iload_n 1, 1), (173, .iadd, 1), (174, .iaload, 1), (175, .ifCond .ne 4, 3), (178, .return_, 1), (179, .bipush 10, 2), (181, .iload 5, 2), (183, .imul, 1), (184, .iload_n 2, 1), (185, .iadd, 1), (186, .istore 8, 2), (188, .bipush 10, 2), (190, .iload 6, 2), (192, .imul, 1), (193, .iload_n 2, 1), (194, .iadd, 1), (195, .istore 9, 2), (197, .aload_n 0, 1), (198, .getfield 46, 3), (201, .iload 8, 2), (203, .iaload, 1), (204, .iload 4, 2), (206, .ifCond .eq 7, 3), (209, .iconst 1, 1), (210, .goto 4, 3), (213, .iconst 0, 1), (214, .iadd, 1), (215, .istore 10, 2), (217, .aload_n 0, 1), (218, .getfield 28, 3), (221, .iload 9, 2), (223, .iload 7, 2), (225, .iastore, 1), (226, .aload_n 0, 1), (227, .getfield 37, 3), (230, .iload 9, 2), (232, .aload_n 0, 1), (233, .getfield 37, 3), (236, .iload 8, 2), (238, .iaload, 1), (239, .iastore, 1), (240, .aload_n 0, 1), (241, .getfield 40, 3), (244, .iload 9, 2), (246, .aload_n 0, 1), (247, .getfield 40, 3), (250, .iload 8, 2), (252, .iaload, 1), (253, .iastore, 1), (254, .aload_n 0, 1), (255, .getfield 43, 3), (258, .iload 9, 2), (260, .aload_n 0, 1), (261, .getfield 43, 3), (264, .iload 8, 2), (266, .iaload, 1), (267, .iconst 1, 1), (268, .iadd, 1), (269, .iastore, 1), (270, .aload_n 0, 1), (271, .getfield 46, 3), (274, .iload 9, 2), (276, .iload 10, 2), (278, .iastore, 1), (279, .return_, 1)]
def mq_Mod_says : ov_M := (12, ⟨"OneEyeModel", "says", "(IIIZ)V"⟩, prog_14_method_35_code, 11, none, mq_Mod_says_c)
def mq_Mod_sounds_c : List (Nat × Instr × Nat) := [(0, .iconst 0, 1), (1, .istore_n 1, 1), (2, .iconst 0, 1), (3, .istore_n 2, 1), (4, .iload_n 2, 1), (5, .aload_n 0, 1), (6, .getfield 266, 3), (9, .if_icmp .ge 26, 3), (12, .aload_n 0, 1), (13, .getfield 53, 3), (16, .iload_n 2, 1), (17, .iaload, 1), (18, .aload_n 0, 1), (19, .getfield 252, 3), (22, .if_icmp .ne 7, 3), (25, .iload_n 1, 1), (26, .iconst 1, 1), (27, .iadd, 1), (28, .istore_n 1, 1), (29, .iinc 2 1, 3), (32, .goto (-28), 3), (35, .iconst 0, 1), (36, .istore_n 2, 1), (37, .iload_n 2, 1), (38, .aload_n 0, 1), (39, .getfield 153, 3), (42, .if_icmp .ge 52, 3), (45, .aload_n 0, 1), (46, .iload_n 2, 1), (47, .iconst 1, 1), (48, .invokevirtual 246, 3), (51, .istore_n 3, 1), (52, .iload_n 3, 1), (53, .iconst (-1), 1), (54, .if_icmp .ne 20, 3), (57, .aload_n 0, 1), (58, .getfield 59, 3), (61, .iload_n 2, 1), (62, .aload_n 0, 1), (63, .getfield 59, 3), (66, .iload_n 2, 1), (67, .iaload, 1), (68, .iload_n 1, 1), (69, .iadd, 1), (70, .iastore, 1), (71, .goto 17, 3), (74, .aload_n 0, 1), (75, .getfield 56, 3), (78, .iload_n 3, 1), (79, .aload_n 0, 1), (80, .getfield 56, 3), (83, .iload_n 3, 1), (84, .iaload, 1), (85, .iload_n 1, 1), (86, .iadd, 1), (87, .iastore, 1), (88, .iinc 2 1, 3), (91, .goto (-54), 3), (94, .return_, 1)]
def mq_Mod_sounds : ov_M := (12, ⟨"OneEyeModel", "sounds", "()V"⟩, prog_14_method_38_code, 4, none, mq_Mod_sounds_c)
def mq_Mod_where_c : List (Nat × Instr × Nat) := [(0, .aload_n 0, 1), (1, .iconst 0, 1), (2, .putfield 145, 3), (5, .aload_n 0, 1), (6, .iload_n 1, 1), (7, .invokevirtual 167, 3), (10, .ifCond .eq 20, 3), (13, .aload_n 0, 1), (14, .iload_n 2, 1), (15, .invokevirtual 279, 3), (18, .ifCond .eq 12, 3), (21, .aload_n 0, 1), (22, .iload_n 1, 1), (23, .iload_n 2, 1), (24, .invokevirtual 234, 3), (27, .goto 4, 3), (30, .iconst (-1), 1), (31, .ireturn, 1)]
def mq_Mod_where : ov_M := (12, ⟨"OneEyeModel", "where", "(II)I"⟩, prog_14_method_41_code, 3, (some .int), mq_Mod_where_c)
def mq_Mod_isThing_c : List (Nat × Instr × Nat) := [(0, .iload_n 1, 1), (1, .ifCond .lt 12, 3), (4, .iload_n 1, 1), (5, .iconst 3, 1), (6, .if_icmp .ge 7, 3), (9, .iconst 1, 1), (10, .goto 4, 3), (13, .iconst 0, 1), (14, .ireturn, 1)]
def mq_Mod_isThing : ov_M := (12, ⟨"OneEyeModel", "isThing", "(I)Z"⟩, prog_14_method_9_code, 2, (some .boolean), mq_Mod_isThing_c)
def mq_Mod_knows_c : List (Nat × Instr × Nat) := [(0, .aload_n 0, 1), (1, .iconst 0, 1), (2, .putfield 145, 3), (5, .aload_n 0, 1), (6, .iload_n 1, 1), (7, .invokevirtual 164, 3), (10, .ifCond .eq 25, 3), (13, .aload_n 0, 1), (14, .iload_n 2, 1), (15, .invokevirtual 160, 3), (18, .ifCond .eq 17, 3), (21, .aload_n 0, 1), (22, .getfield 28, 3), (25, .bipush 10, 2), (27, .iload_n 1, 1), (28, .imul, 1), (29, .iload_n 2, 1), (30, .iadd, 1), (31, .iaload, 1), (32, .goto 4, 3), (35, .iconst (-1), 1), (36, .ireturn, 1)]
def mq_Mod_knows : ov_M := (12, ⟨"OneEyeModel", "knows", "(II)I"⟩, prog_14_method_42_code, 3, (some .int), mq_Mod_knows_c)
def mq_Mod_held_c : List (Nat × Instr × Nat) := [(0, .aload_n 0, 1), (1, .iconst 0, 1), (2, .putfield 145, 3), (5, .aload_n 0, 1), (6, .iload_n 1, 1), (7, .invokevirtual 164, 3), (10, .ifCond .eq 24, 3), (13, .aload_n 0, 1), (14, .iload_n 2, 1), (15, .invokevirtual 279, 3), (18, .ifCond .eq 16, 3), (21, .aload_n 0, 1), (22, .getfield 34, 3), (25, .iconst 3, 1), (26, .iload_n 1, 1), (27, .imul, 1), (28, .iload_n 2, 1), (29, .iadd, 1), (30, .iaload, 1), (31, .goto 4, 3), (34, .iconst (-1), 1), (35, .ireturn, 1)]
def mq_Mod_held : ov_M := (12, ⟨"OneEyeModel", "held", "(II)I"⟩, prog_14_method_43_code, 3, (some .int), mq_Mod_held_c)
def mq_Mod_of_c : List (Nat × Instr × Nat) := [(0, .aload_n 0, 1), (1, .iconst 0, 1), (2, .putfield 145, 3), (5, .aload_n 0, 1), (6, .iload_n 1, 1), (7, .invokevirtual 167, 3), (10, .ifCond .ne 5, 3), (13, .iconst (-1), 1), (14, .ireturn, 1), (15, .iload_n 2, 1), (16, .ifCond .ne 10, 3), (19, .aload_n 0, 1), (20, .getfield 7, 3), (23, .iload_n 1, 1), (24, .iaload, 1), (25, .ireturn, 1), (26, .iload_n 2, 1), (27, .iconst 1, 1), (28, .if_icmp .ne 10, 3), (31, .aload_n 0, 1), (32, .getfield 13, 3), (35, .iload_n 1, 1), (36, .iaload, 1), (37, .ireturn, 1), (38, .iload_n 2, 1), (39, .iconst 2, 1), (40, .if_icmp .ne 10, 3), (43, .aload_n 0, 1), (44, .getfield 16, 3), (47, .iload_n 1, 1), (48, .iaload, 1), (49, .ireturn, 1), (50, .iload_n 2, 1), (51, .iconst 3, 1), (52, .if_icmp .ne 10, 3), (55, .aload_n 0, 1), (56, .getfield 19, 3), (59, .iload_n 1, 1), (60, .iaload, 1), (61, .ireturn, 1), (62, .iload_n 2, 1), (63, .iconst 4, 1), (64, .if_icmp .ne 10, 3), (67, .aload_n 0, 1), (68, .getfield 102, 3), (71, .iload_n 1, 1), (72, .iaload, 1), (73, .ireturn, 1), (74, .iload_n 2, 1), (75, .iconst 5, 1), (76, .if_icmp .ne 10, 3), (79, .aload_n 0, 1), (80, .getfield 105, 3), (83, .iload_n 1, 1), (84, .iaload, 1), (85, .ireturn, 1), (86, .iload_n 2, 1), (87, .bipush 6, 2), (89, .if_icmp .ne 12, 3), (92, .aload_n 0, 1), (93, .getfield 80, 3), (96, .iload_n 1, 1), (97, .iaload, 1), (98, .goto 19, 3), (101, .iload_n 2, 1), (102, .bipush 7, 2), (104, .if_icmp .ne 12, 3), (107, .aload_n 0, 1), (108, .getfield 59, 3), (111, .iload_n 1, 1), (112, .iaload, 1), (113, .goto 4, 3), (116, .iconst (-1), 1), (117, .ireturn, 1)]
def mq_Mod_of : ov_M := (12, ⟨"OneEyeModel", "of", "(II)I"⟩, prog_14_method_44_code, 3, (some .int), mq_Mod_of_c)
def mq_Mod_book_c : List (Nat × Instr × Nat) := [(0, .aload_n 0, 1), (1, .iconst 0, 1), (2, .putfield 145, 3), (5, .aload_n 0, 1), (6, .iload_n 1, 1), (7, .iconst 0, 1), (8, .aload_n 0, 1), (9, .getfield 249, 3), (12, .iconst 1, 1), (13, .isub, 1), (14, .invokevirtual 156, 3), (17, .ifCond .ne 5, 3), (20, .iconst (-1), 1), (21, .ireturn, 1), (22, .iload_n 2, 1), (23, .ifCond .ne 10, 3), (26, .aload_n 0, 1), (27, .getfield 62, 3), (30, .iload_n 1, 1), (31, .iaload, 1), (32, .ireturn, 1), (33, .iload_n 2, 1), (34, .iconst 1, 1), (35, .if_icmp .ne 10, 3), (38, .aload_n 0, 1), (39, .getfield 65, 3), (42, .iload_n 1, 1), (43, .iaload, 1), (44, .ireturn, 1), (45, .iload_n 2, 1), (46, .iconst 2, 1), (47, .if_icmp .ne 10, 3), (50, .aload_n 0, 1), (51, .getfield 68, 3), (54, .iload_n 1, 1), (55, .iaload, 1), (56, .ireturn, 1), (57, .iload_n 2, 1), (58, .iconst 3, 1), (59, .if_icmp .ne 12, 3), (62, .aload_n 0, 1), (63, .getfield 71, 3), (66, .iload_n 1, 1), (67, .iaload, 1), (68, .goto 18, 3), (71, .iload_n 2, 1), (72, .iconst 4, 1), (73, .if_icmp .ne 12, 3), (76, .aload_n 0, 1), (77, .getfield 74, 3), (80, .iload_n 1, 1), (81, .iaload, 1), (82, .goto 4, 3), (85, .iconst (-1), 1), (86, .ireturn, 1)]
def mq_Mod_book : ov_M := (12, ⟨"OneEyeModel", "book", "(II)I"⟩, prog_14_method_45_code, 3, (some .int), mq_Mod_book_c)
def mq_Mod_origin_c : List (Nat × Instr × Nat) := [(0, .aload_n 0, 1), (1, .iconst 0, 1), (2, .putfield 145, 3), (5, .aload_n 0, 1), (6, .iload_n 1, 1), (7, .invokevirtual 164, 3), (10, .ifCond .eq 25, 3), (13, .aload_n 0, 1), (14, .iload_n 2, 1), (15, .invokevirtual 160, 3), (18, .ifCond .eq 17, 3), (21, .aload_n 0, 1), (22, .getfield 28, 3), (25, .bipush 10, 2), (27, .iload_n 1, 1), (28, .imul, 1), (29, .iload_n 2, 1), (30, .iadd, 1), (31, .iaload, 1), (32, .ifCond .ne 5, 3), (35, .iconst (-1), 1), (36, .ireturn, 1), (37, .bipush 10, 2), (39, .iload_n 1, 1), (40, .imul, 1), (41, .iload_n 2, 1), (42, .iadd, 1), (43, .istore 4, 2), (45, .iload_n 3, 1), (46, .ifCond .ne 11, 3), (49, .aload_n 0, 1), (50, .getfield 37, 3), (53, .iload 4, 2), (55, .iaload, 1), (56, .ireturn, 1), (57, .iload_n 3, 1), (58, .iconst 1, 1), (59, .if_icmp .ne 11, 3), (62, .aload_n 0, 1), (63, .getfield 40, 3), (66, .iload 4, 2), (68, .iaload, 1), (69, .ireturn, 1), (70, .iload_n 3, 1), (71, .iconst 2, 1), (72, .if_icmp .ne 13, 3), (75, .aload_n 0, 1), (76, .getfield 43, 3), (79, .iload 4, 2), (81, .iaload, 1), (82, .goto 19, 3), (85, .iload_n 3, 1), (86, .iconst 3, 1), (87, .if_icmp .ne 13, 3), (90, .aload_n 0, 1), (91, .getfield 46, 3), (94, .iload 4, 2), (96, .iaload, 1), (97, .goto 4, 3), (100, .iconst (-1), 1), (101, .ireturn, 1)]
def mq_Mod_origin : ov_M := (12, ⟨"OneEyeModel", "origin", "(III)I"⟩, prog_14_method_46_code, 5, (some .int), mq_Mod_origin_c)
def mq_Mod_noise_c : List (Nat × Instr × Nat) := [(0, .aload_n 0, 1), (1, .iconst 0, 1), (2, .putfield 145, 3), (5, .aload_n 0, 1), (6, .iload_n 1, 1), (7, .aload_n 0, 1), (8, .getfield 252, 3), (11, .ldc_w 275, 3), (14, .invokevirtual 156, 3), (17, .ifCond .eq 12, 3), (20, .aload_n 0, 1), (21, .getfield 266, 3), (24, .bipush 20, 2), (26, .if_icmp .ne 5, 3), (29, .iconst (-1), 1), (30, .ireturn, 1), (31, .aload_n 0, 1), (32, .getfield 53, 3), (35, .aload_n 0, 1), (36, .getfield 266, 3), (39, .iload_n 1, 1), (40, .iastore, 1), (41, .aload_n 0, 1), (42, .aload_n 0, 1), (43, .getfield 266, 3), (46, .iconst 1, 1), (47, .iadd, 1), (48, .putfield 266, 3), (51, .aload_n 0, 1), (52, .getfield 266, 3), (55, .iconst 1, 1), (56, .isub, 1), (57, .ireturn, 1)]
def mq_Mod_noise : ov_M := (12, ⟨"OneEyeModel", "noise", "(I)I"⟩, prog_14_method_47_code, 2, (some .int), mq_Mod_noise_c)
def mq_Mod_heard_c : List (Nat × Instr × Nat) := [(0, .aload_n 0, 1), (1, .iconst 0, 1), (2, .putfield 145, 3), (5, .aload_n 0, 1), (6, .iload_n 1, 1), (7, .invokevirtual 164, 3), (10, .ifCond .eq 12, 3), (13, .aload_n 0, 1), (14, .getfield 56, 3), (17, .iload_n 1, 1), (18, .iaload, 1), (19, .goto 4, 3), (22, .iconst (-1), 1), (23, .ireturn, 1)]
def mq_Mod_heard : ov_M := (12, ⟨"OneEyeModel", "heard", "(I)I"⟩, prog_14_method_48_code, 2, (some .int), mq_Mod_heard_c)
def mq_Mod_errand_c : List (Nat × Instr × Nat) := [(0, .aload_n 0, 1), (1, .iconst 0, 1), (2, .putfield 145, 3), (5, .aload_n 0, 1), (6, .iload_n 1, 1), (7, .invokevirtual 167, 3), (10, .ifCond .eq 35, 3), (13, .aload_n 0, 1), (14, .iload_n 2, 1), (15, .invokevirtual 160, 3), (18, .ifCond .eq 27, 3), (21, .aload_n 0, 1), (22, .iload_n 3, 1), (23, .invokevirtual 167, 3), (26, .ifCond .eq 19, 3), (29, .iload_n 1, 1), (30, .iload_n 3, 1), (31, .if_icmp .eq 14, 3), (34, .aload_n 0, 1), (35, .iload 4, 2), (37, .iconst 0, 1), (38, .iconst 1, 1), (39, .invokevirtual 156, 3), (42, .ifCond .ne 5, 3), (45, .iconst (-1), 1), (46, .ireturn, 1), (47, .aload_n 0, 1), (48, .iload_n 3, 1), (49, .iload_n 2, 1), (50, .invokevirtual 297, 3), (53, .aload_n 0, 1), (54, .aload_n 0, 1), (55, .iload_n 3, 1), (56, .invokevirtual 300, 3), (59, .iconst 1, 1), (60, .invokevirtual 282, 3), (63, .ishr, 1), (64, .iconst 1, 1), (65, .iand, 1), (66, .iconst 1, 1), (67, .if_icmp .ne 5, 3), (70, .iconst 0, 1), (71, .ireturn, 1), (72, .iload 4, 2), (74, .ifCond .ne 19, 3), (77, .aload_n 0, 1), (78, .iload_n 1, 1), (79, .iload_n 2, 1), (80, .aload_n 0, 1), (81, .getfield 7, 3), (84, .iload_n 1, 1), (85, .iaload, 1), (86, .iconst 1, 1), (87, .invokevirtual 307, 3), (90, .goto 11, 3), (93, .aload_n 0, 1), (94, .iload_n 1, 1), (95, .iload_n 2, 1), (96, .iconst 1, 1), (97, .iconst 0, 1), (98, .invokevirtual 307, 3), (101, .ireturn, 1)]
def mq_Mod_errand : ov_M := (12, ⟨"OneEyeModel", "errand", "(IIII)I"⟩, prog_14_method_56_code, 5, (some .int), mq_Mod_errand_c)
def mq_Mod_knowersOf_c : List (Nat × Instr × Nat) := [(0, .iconst 0, 1), (1, .istore_n 3, 1), (2, .iconst 0, 1), (3, .istore 4, 2), (5, .iload 4, 2), (7, .iconst 3, 1), (8, .if_icmp .ge 35, 3), (11, .aload_n 0, 1), (12, .getfield 28, 3), (15, .bipush 10, 2), (17, .iconst 3, 1), (18, .iload_n 1, 1), (19, .imul, 1), (20, .iload 4, 2), (22, .iadd, 1), (23, .imul, 1), (24, .iload_n 2, 1), (25, .iadd, 1), (26, .iaload, 1), (27, .ifCond .eq 10, 3), (30, .iload_n 3, 1), (31, .iconst 1, 1), (32, .iload 4, 2), (34, .ishl, 1), (35, .ior, 1), (36, .istore_n 3, 1), (37, .iinc 4 1, 3), (40, .goto (-35), 3), (43, .iload_n 3, 1), (44, .ireturn, 1)]
def mq_Mod_knowersOf : ov_M := (12, ⟨"OneEyeModel", "knowersOf", "(II)I"⟩, prog_14_method_52_code, 5, (some .int), mq_Mod_knowersOf_c)
def mq_Mod_placesOf_c : List (Nat × Instr × Nat) := [(0, .iconst 0, 1), (1, .istore_n 2, 1), (2, .iconst 0, 1), (3, .istore_n 3, 1), (4, .iload_n 3, 1), (5, .iconst 3, 1), (6, .if_icmp .ge 59, 3), (9, .aload_n 0, 1), (10, .iload_n 1, 1), (11, .iload_n 3, 1), (12, .invokevirtual 234, 3), (15, .istore 4, 2), (17, .iconst 3, 1), (18, .iload_n 2, 1), (19, .imul, 1), (20, .iload 4, 2), (22, .iconst 3, 1), (23, .if_icmp .ge 8, 3), (26, .iload 4, 2), (28, .goto 29, 3), (31, .iload 4, 2), (33, .iconst 3, 1), (34, .if_icmp .ne 22, 3), (37, .aload_n 0, 1), (38, .getfield 77, 3), (41, .iload_n 1, 1), (42, .iaload, 1), (43, .iconst 1, 1), (44, .if_icmp .ne 12, 3), (47, .aload_n 0, 1), (48, .getfield 86, 3), (51, .iload_n 1, 1), (52, .iaload, 1), (53, .goto 4, 3), (56, .iconst 0, 1), (57, .iadd, 1), (58, .istore_n 2, 1), (59, .iinc 3 1, 3), (62, .goto (-58), 3), (65, .iload_n 2, 1), (66, .ireturn, 1)]
def mq_Mod_placesOf : ov_M := (12, ⟨"OneEyeModel", "placesOf", "(I)I"⟩, prog_14_method_51_code, 5, (some .int), mq_Mod_placesOf_c)
def mq_Mod_memberOf_c : List (Nat × Instr × Nat) := [(0, .iload_n 2, 1), (1, .ifCond .ne 10, 3), (4, .iload_n 1, 1), (5, .bipush 9, 2), (7, .idiv, 1), (8, .goto 19, 3), (11, .iload_n 2, 1), (12, .iconst 1, 1), (13, .if_icmp .ne 11, 3), (16, .iload_n 1, 1), (17, .iconst 3, 1), (18, .idiv, 1), (19, .iconst 3, 1), (20, .irem, 1), (21, .goto 6, 3), (24, .iload_n 1, 1), (25, .iconst 3, 1), (26, .irem, 1), (27, .ireturn, 1)]
def mq_Mod_memberOf : ov_M := (12, ⟨"OneEyeModel", "memberOf", "(II)I"⟩, prog_14_method_49_code, 3, (some .int), mq_Mod_memberOf_c)
def mq_Mod_findsErrand_c : List (Nat × Instr × Nat) := [(0, .iconst 0, 1), (1, .istore 5, 2), (3, .iload 5, 2), (5, .sipush 216, 3), (8, .if_icmp .ge 19, 3), (11, .aload_n 0, 1), (12, .getfield 109, 3), (15, .iload 5, 2), (17, .ldc_w 296, 3), (20, .iastore, 1), (21, .iinc 5 1, 3), (24, .goto (-21), 3), (27, .aload_n 0, 1), (28, .getfield 109, 3), (31, .bipush 27, 2), (33, .aload_n 0, 1), (34, .iload_n 1, 1), (35, .iload_n 2, 1), (36, .invokevirtual 297, 3), (39, .imul, 1), (40, .aload_n 0, 1), (41, .iload_n 1, 1), (42, .invokevirtual 300, 3), (45, .iadd, 1), (46, .iconst 0, 1), (47, .iastore, 1), (48, .aload_n 0, 1), (49, .iconst 1, 1), (50, .putfield 285, 3), (53, .aload_n 0, 1), (54, .getfield 285, 3), (57, .ifCond .eq 50, 3), (60, .aload_n 0, 1), (61, .iconst 0, 1), (62, .putfield 285, 3), (65, .iconst 0, 1), (66, .istore 5, 2), (68, .iload 5, 2), (70, .sipush 216, 3), (73, .if_icmp .ge 31, 3), (76, .aload_n 0, 1), (77, .getfield 109, 3), (80, .iload 5, 2), (82, .iaload, 1), (83, .ldc_w 296, 3), (86, .if_icmp .ge 12, 3), (89, .aload_n 0, 1), (90, .iload 5, 2), (92, .iload_n 3, 1), (93, .iload 4, 2), (95, .invokevirtual 303, 3), (98, .iinc 5 1, 3), (101, .goto (-33), 3), (104, .goto (-51), 3), (107, .ldc_w 296, 3), (110, .istore 5, 2), (112, .iconst 0, 1), (113, .istore 6, 2), (115, .iload 6, 2), (117, .sipush 216, 3), (120, .if_icmp .ge 52, 3), (123, .iload 6, 2), (125, .bipush 27, 2), (127, .idiv, 1), (128, .aload_n 0, 1), (129, .iload 6, 2), (131, .bipush 27, 2), (133, .irem, 1), (134, .iconst 2, 1), (135, .invokevirtual 282, 3), (138, .ishr, 1), (139, .iconst 1, 1), (140, .iand, 1), (141, .iconst 1, 1), (142, .if_icmp .ne 24, 3), (145, .aload_n 0, 1), (146, .getfield 109, 3), (149, .iload 6, 2), (151, .iaload, 1), (152, .iload 5, 2), (154, .if_icmp .ge 12, 3), (157, .aload_n 0, 1), (158, .getfield 109, 3), (161, .iload 6, 2), (163, .iaload, 1), (164, .istore 5, 2), (166, .iinc 6 1, 3), (169, .goto (-54), 3), (172, .iload 5, 2), (174, .iload 4, 2), (176, .iadd, 1), (177, .ireturn, 1)]
def mq_Mod_findsErrand : ov_M := (12, ⟨"OneEyeModel", "findsErrand", "(IIII)I"⟩, prog_14_method_55_code, 7, (some .int), mq_Mod_findsErrand_c)
def mq_Mod_errandFrom_c : List (Nat × Instr × Nat) := [(0, .iload_n 1, 1), (1, .bipush 27, 2), (3, .irem, 1), (4, .istore 4, 2), (6, .iload_n 1, 1), (7, .bipush 27, 2), (9, .idiv, 1), (10, .istore 5, 2), (12, .iconst 0, 1), (13, .istore 6, 2), (15, .iload 6, 2), (17, .iconst 3, 1), (18, .if_icmp .ge 65, 3), (21, .iconst 0, 1), (22, .istore 7, 2), (24, .iload 7, 2), (26, .iconst 3, 1), (27, .if_icmp .ge 50, 3), (30, .iload 7, 2), (32, .aload_n 0, 1), (33, .iload 4, 2), (35, .iload 6, 2), (37, .invokevirtual 282, 3), (40, .if_icmp .eq 31, 3), (43, .aload_n 0, 1), (44, .bipush 27, 2), (46, .iload 5, 2), (48, .imul, 1), (49, .aload_n 0, 1), (50, .iload 4, 2), (52, .iload 6, 2), (54, .iload 7, 2), (56, .invokevirtual 289, 3), (59, .iadd, 1), (60, .aload_n 0, 1), (61, .getfield 109, 3), (64, .iload_n 1, 1), (65, .iaload, 1), (66, .iload_n 2, 1), (67, .iadd, 1), (68, .invokevirtual 293, 3), (71, .iinc 7 1, 3), (74, .goto (-50), 3), (77, .iinc 6 1, 3), (80, .goto (-65), 3), (83, .aload_n 0, 1), (84, .bipush 27, 2), (86, .iload 5, 2), (88, .iconst 1, 1), (89, .aload_n 0, 1), (90, .iload 4, 2), (92, .iconst 0, 1), (93, .invokevirtual 282, 3), (96, .ishl, 1), (97, .ior, 1), (98, .imul, 1), (99, .iload 4, 2), (101, .iadd, 1), (102, .aload_n 0, 1), (103, .getfield 109, 3), (106, .iload_n 1, 1), (107, .iaload, 1), (108, .iload_n 3, 1), (109, .iadd, 1), (110, .invokevirtual 293, 3), (113, .iload 5, 2), (115, .aload_n 0, 1), (116, .iload 4, 2), (118, .iconst 2, 1), (119, .invokevirtual 282, 3), (122, .ishr, 1), (123, .iconst 1, 1), (124, .iand, 1), (125, .iconst 1, 1), (126, .if_icmp .ne 33, 3), (129, .aload_n 0, 1), (130, .bipush 27, 2), (132, .iload 5, 2), (134, .iconst 1, 1), (135, .aload_n 0, 1), (136, .iload 4, 2), (138, .iconst 1, 1), (139, .invokevirtual 282, 3), (142, .ishl, 1), (143, .ior, 1), (144, .imul, 1), (145, .iload 4, 2), (147, .iadd, 1), (148, .aload_n 0, 1), (149, .getfield 109, 3), (152, .iload_n 1, 1), (153, .iaload, 1), (154, .iload_n 3, 1), (155, .iadd, 1), (156, .invokevirtual 293, 3), (159, .return_, 1)]
def mq_Mod_errandFrom : ov_M := (12, ⟨"OneEyeModel", "errandFrom", "(III)V"⟩, prog_14_method_54_code, 8, none, mq_Mod_errandFrom_c)
def mq_Mod_movedTo_c : List (Nat × Instr × Nat) := [(0, .iload_n 1, 1), (1, .iload_n 3, 1), (2, .aload_n 0, 1), (3, .iload_n 1, 1), (4, .iload_n 2, 1), (5, .invokevirtual 282, 3), (8, .isub, 1), (9, .iload_n 2, 1), (10, .ifCond .ne 8, 3), (13, .bipush 9, 2), (15, .goto 13, 3), (18, .iload_n 2, 1), (19, .iconst 1, 1), (20, .if_icmp .ne 7, 3), (23, .iconst 3, 1), (24, .goto 4, 3), (27, .iconst 1, 1), (28, .imul, 1), (29, .iadd, 1), (30, .ireturn, 1)]
def mq_Mod_movedTo : ov_M := (12, ⟨"OneEyeModel", "movedTo", "(III)I"⟩, prog_14_method_50_code, 4, (some .int), mq_Mod_movedTo_c)
def mq_Mod_comes_c : List (Nat × Instr × Nat) := [(0, .iload_n 2, 1), (1, .aload_n 0, 1), (2, .getfield 109, 3), (5, .iload_n 1, 1), (6, .iaload, 1), (7, .if_icmp .lt 4, 3), (10, .return_, 1), (11, .aload_n 0, 1), (12, .getfield 109, 3), (15, .iload_n 1, 1), (16, .iload_n 2, 1), (17, .iastore, 1), (18, .aload_n 0, 1), (19, .iconst 1, 1), (20, .putfield 285, 3), (23, .return_, 1)]
def mq_Mod_comes : ov_M := (12, ⟨"OneEyeModel", "comes", "(II)V"⟩, prog_14_method_53_code, 3, none, mq_Mod_comes_c)
def mq_Mod_talk_c : List (Nat × Instr × Nat) := [(0, .aload_n 0, 1), (1, .iconst 0, 1), (2, .putfield 145, 3), (5, .aload_n 0, 1), (6, .iload_n 1, 1), (7, .invokevirtual 167, 3), (10, .ifCond .eq 24, 3), (13, .aload_n 0, 1), (14, .iload_n 2, 1), (15, .invokevirtual 167, 3), (18, .ifCond .eq 16, 3), (21, .iload_n 1, 1), (22, .iload_n 2, 1), (23, .if_icmp .eq 11, 3), (26, .aload_n 0, 1), (27, .iload_n 3, 1), (28, .invokevirtual 160, 3), (31, .ifCond .ne 5, 3), (34, .iconst (-1), 1), (35, .ireturn, 1), (36, .aload_n 0, 1), (37, .iload_n 1, 1), (38, .iload_n 3, 1), (39, .invokevirtual 297, 3), (42, .aload_n 0, 1), (43, .iload_n 2, 1), (44, .iload_n 3, 1), (45, .invokevirtual 297, 3), (48, .iconst 3, 1), (49, .ishl, 1), (50, .ior, 1), (51, .istore 4, 2), (53, .iload 4, 2), (55, .ifCond .ne 5, 3), (58, .iconst (-1), 1), (59, .ireturn, 1), (60, .iconst 0, 1), (61, .istore 5, 2), (63, .iload 5, 2), (65, .ldc 108, 2), (67, .if_icmp .ge 19, 3), (70, .aload_n 0, 1), (71, .getfield 109, 3), (74, .iload 5, 2), (76, .ldc_w 296, 3), (79, .iastore, 1), (80, .iinc 5 1, 3), (83, .goto (-20), 3), (86, .aload_n 0, 1), (87, .iconst 0, 1), (88, .putfield 311, 3), (91, .aload_n 0, 1), (92, .aload_n 0, 1), (93, .aload_n 0, 1), (94, .iload_n 1, 1), (95, .invokevirtual 300, 3), (98, .aload_n 0, 1), (99, .iload_n 2, 1), (100, .invokevirtual 300, 3), (103, .iload 4, 2), (105, .invokevirtual 314, 3), (108, .iconst 0, 1), (109, .invokevirtual 317, 3), (112, .iconst 0, 1), (113, .istore 5, 2), (115, .aload_n 0, 1), (116, .getfield 112, 3), (119, .iload 5, 2), (121, .iaload, 1), (122, .sipush 729, 3), (125, .idiv, 1), (126, .bipush 63, 2), (128, .if_icmp .eq 23, 3), (131, .aload_n 0, 1), (132, .aload_n 0, 1), (133, .getfield 112, 3), (136, .iload 5, 2), (138, .iaload, 1), (139, .invokevirtual 320, 3), (142, .iload 5, 2), (144, .iconst 1, 1), (145, .iadd, 1), (146, .istore 5, 2), (148, .goto (-33), 3), (151, .aload_n 0, 1), (152, .getfield 109, 3), (155, .aload_n 0, 1), (156, .getfield 112, 3), (159, .iload 5, 2), (161, .iaload, 1), (162, .iaload, 1), (163, .ireturn, 1)]
def mq_Mod_talk : ov_M := (12, ⟨"OneEyeModel", "talk", "(III)I"⟩, prog_14_method_60_code, 6, (some .int), mq_Mod_talk_c)
def mq_Mod_stateOf_c : List (Nat × Instr × Nat) := [(0, .sipush 729, 3), (3, .iload_n 3, 1), (4, .imul, 1), (5, .bipush 27, 2), (7, .iload_n 1, 1), (8, .imul, 1), (9, .iadd, 1), (10, .iload_n 2, 1), (11, .iadd, 1), (12, .ireturn, 1)]
def mq_Mod_stateOf : ov_M := (12, ⟨"OneEyeModel", "stateOf", "(III)I"⟩, prog_14_method_58_code, 4, (some .int), mq_Mod_stateOf_c)
def mq_Mod_talks_c : List (Nat × Instr × Nat) := [(0, .aload_n 0, 1), (1, .getfield 109, 3), (4, .iload_n 1, 1), (5, .iaload, 1), (6, .ldc_w 296, 3), (9, .if_icmp .ge 4, 3), (12, .return_, 1), (13, .aload_n 0, 1), (14, .getfield 109, 3), (17, .iload_n 1, 1), (18, .iload_n 2, 1), (19, .iastore, 1), (20, .aload_n 0, 1), (21, .getfield 112, 3), (24, .aload_n 0, 1), (25, .getfield 311, 3), (28, .iload_n 1, 1), (29, .iastore, 1), (30, .aload_n 0, 1), (31, .aload_n 0, 1), (32, .getfield 311, 3), (35, .iconst 1, 1), (36, .iadd, 1), (37, .putfield 311, 3), (40, .return_, 1)]
def mq_Mod_talks : ov_M := (12, ⟨"OneEyeModel", "talks", "(II)V"⟩, prog_14_method_57_code, 3, none, mq_Mod_talks_c)
def mq_Mod_talkFrom_c : List (Nat × Instr × Nat) := [(0, .iload_n 1, 1), (1, .sipush 729, 3), (4, .idiv, 1), (5, .istore_n 2, 1), (6, .iload_n 1, 1), (7, .bipush 27, 2), (9, .idiv, 1), (10, .bipush 27, 2), (12, .irem, 1), (13, .istore_n 3, 1), (14, .iload_n 1, 1), (15, .bipush 27, 2), (17, .irem, 1), (18, .istore 4, 2), (20, .aload_n 0, 1), (21, .getfield 109, 3), (24, .iload_n 1, 1), (25, .iaload, 1), (26, .iconst 1, 1), (27, .iadd, 1), (28, .istore 5, 2), (30, .iconst 0, 1), (31, .istore 6, 2), (33, .iload 6, 2), (35, .iconst 3, 1), (36, .if_icmp .ge 93, 3), (39, .iconst 0, 1), (40, .istore 7, 2), (42, .iload 7, 2), (44, .iconst 3, 1), (45, .if_icmp .ge 78, 3), (48, .iload 7, 2), (50, .aload_n 0, 1), (51, .iload_n 3, 1), (52, .iload 6, 2), (54, .invokevirtual 282, 3), (57, .if_icmp .eq 25, 3), (60, .aload_n 0, 1), (61, .aload_n 0, 1), (62, .aload_n 0, 1), (63, .iload_n 3, 1), (64, .iload 6, 2), (66, .iload 7, 2), (68, .invokevirtual 289, 3), (71, .iload 4, 2), (73, .iload_n 2, 1), (74, .invokevirtual 314, 3), (77, .iload 5, 2), (79, .invokevirtual 317, 3), (82, .iload 7, 2), (84, .aload_n 0, 1), (85, .iload 4, 2), (87, .iload 6, 2), (89, .invokevirtual 282, 3), (92, .if_icmp .eq 25, 3), (95, .aload_n 0, 1), (96, .aload_n 0, 1), (97, .iload_n 3, 1), (98, .aload_n 0, 1), (99, .iload 4, 2), (101, .iload 6, 2), (103, .iload 7, 2), (105, .invokevirtual 289, 3), (108, .iload_n 2, 1), (109, .invokevirtual 314, 3), (112, .iload 5, 2), (114, .invokevirtual 317, 3), (117, .iinc 7 1, 3), (120, .goto (-78), 3), (123, .iinc 6 1, 3), (126, .goto (-93), 3), (129, .iconst 1, 1), (130, .aload_n 0, 1), (131, .iload_n 3, 1), (132, .iconst 1, 1), (133, .invokevirtual 282, 3), (136, .ishl, 1), (137, .istore 6, 2), (139, .bipush 8, 2), (141, .aload_n 0, 1), (142, .iload 4, 2), (144, .iconst 1, 1), (145, .invokevirtual 282, 3), (148, .ishl, 1), (149, .istore 7, 2), (151, .iload_n 2, 1), (152, .aload_n 0, 1), (153, .iload_n 3, 1), (154, .iconst 2, 1), (155, .invokevirtual 282, 3), (158, .ishr, 1), (159, .iconst 1, 1), (160, .iand, 1), (161, .iconst 1, 1), (162, .if_icmp .eq 20, 3), (165, .iload_n 2, 1), (166, .iconst 3, 1), (167, .aload_n 0, 1), (168, .iload 4, 2), (170, .iconst 2, 1), (171, .invokevirtual 282, 3), (174, .iadd, 1), (175, .ishr, 1), (176, .iconst 1, 1), (177, .iand, 1), (178, .iconst 1, 1), (179, .if_icmp .ne 7, 3), (182, .iconst 1, 1), (183, .goto 4, 3), (186, .iconst 0, 1), (187, .istore 8, 2), (189, .iload 8, 2), (191, .ifCond .ne 4, 3), (194, .return_, 1), (195, .aload_n 0, 1), (196, .aload_n 0, 1), (197, .iload_n 3, 1), (198, .iload 4, 2), (200, .iload_n 2, 1), (201, .iload 6, 2), (203, .ior, 1), (204, .invokevirtual 314, 3), (207, .iload 5, 2), (209, .invokevirtual 317, 3), (212, .aload_n 0, 1), (213, .aload_n 0, 1), (214, .iload_n 3, 1), (215, .iload 4, 2), (217, .iload_n 2, 1), (218, .iload 7, 2), (220, .ior, 1), (221, .invokevirtual 314, 3), (224, .iload 5, 2), (226, .invokevirtual 317, 3), (229, .return_, 1)]
def mq_Mod_talkFrom : ov_M := (12, ⟨"OneEyeModel", "talkFrom", "(I)V"⟩, prog_14_method_59_code, 9, none, mq_Mod_talkFrom_c)
def mq_Mod_danger_c : List (Nat × Instr × Nat) := [(0, .aload_n 0, 1), (1, .iconst 0, 1), (2, .putfield 145, 3), (5, .aload_n 0, 1), (6, .iload_n 1, 1), (7, .iconst 0, 1), (8, .bipush 11, 2), (10, .invokevirtual 156, 3), (13, .ifCond .eq 33, 3), (16, .aload_n 0, 1), (17, .iload_n 2, 1), (18, .iconst 0, 1), (19, .iconst 2, 1), (20, .invokevirtual 156, 3), (23, .ifCond .eq 23, 3), (26, .aload_n 0, 1), (27, .iload_n 3, 1), (28, .invokevirtual 279, 3), (31, .ifCond .eq 15, 3), (34, .aload_n 0, 1), (35, .iload 4, 2), (37, .iconst 0, 1), (38, .bipush 9, 2), (40, .invokevirtual 156, 3), (43, .ifCond .ne 5, 3), (46, .iconst 0, 1), (47, .ireturn, 1), (48, .aload_n 0, 1), (49, .getfield 115, 3), (52, .bipush 9, 2), (54, .iload_n 1, 1), (55, .imul, 1), (56, .iconst 3, 1), (57, .iload_n 2, 1), (58, .imul, 1), (59, .iadd, 1), (60, .iload_n 3, 1), (61, .iadd, 1), (62, .iload 4, 2), (64, .iastore, 1), (65, .iconst 1, 1), (66, .ireturn, 1)]
def mq_Mod_danger : ov_M := (12, ⟨"OneEyeModel", "danger", "(IIII)Z"⟩, prog_14_method_61_code, 5, (some .boolean), mq_Mod_danger_c)
def mq_Mod_way_c : List (Nat × Instr × Nat) := [(0, .aload_n 0, 1), (1, .iconst 0, 1), (2, .putfield 145, 3), (5, .aload_n 0, 1), (6, .iload_n 1, 1), (7, .iconst 1, 1), (8, .bipush 12, 2), (10, .invokevirtual 156, 3), (13, .ifCond .eq 32, 3), (16, .aload_n 0, 1), (17, .iload_n 2, 1), (18, .iconst 0, 1), (19, .bipush 9, 2), (21, .invokevirtual 156, 3), (24, .ifCond .eq 21, 3), (27, .iload_n 3, 1), (28, .ifCond .eq 19, 3), (31, .aload_n 0, 1), (32, .iload_n 3, 1), (33, .bipush 10, 2), (35, .bipush 9, 2), (37, .iload_n 1, 1), (38, .iadd, 1), (39, .invokevirtual 156, 3), (42, .ifCond .ne 5, 3), (45, .iconst (-1), 1), (46, .ireturn, 1), (47, .iload_n 1, 1), (48, .iconst 1, 1), (49, .isub, 1), (50, .istore 4, 2), (52, .iload 4, 2), (54, .ifCond .lt 68, 3), (57, .iconst 0, 1), (58, .istore 5, 2), (60, .iload 5, 2), (62, .bipush 27, 2), (64, .if_icmp .ge 52, 3), (67, .aload_n 0, 1), (68, .getfield 118, 3), (71, .bipush 27, 2), (73, .iload 4, 2), (75, .imul, 1), (76, .iload 5, 2), (78, .iadd, 1), (79, .aload_n 0, 1), (80, .iload 4, 2), (82, .iload 5, 2), (84, .invokevirtual 326, 3), (87, .iload 4, 2), (89, .iload_n 1, 1), (90, .iconst 1, 1), (91, .isub, 1), (92, .if_icmp .ne 7, 3), (95, .iconst 0, 1), (96, .goto 12, 3), (99, .aload_n 0, 1), (100, .iload 4, 2), (102, .iload 5, 2), (104, .iload_n 2, 1), (105, .invokevirtual 329, 3), (108, .iadd, 1), (109, .iastore, 1), (110, .iinc 5 1, 3), (113, .goto (-53), 3), (116, .iinc 4 (-1), 3), (119, .goto (-67), 3), (122, .iconst 0, 1), (123, .istore 4, 2), (125, .iconst 1, 1), (126, .istore 5, 2), (128, .iload 5, 2), (130, .bipush 27, 2), (132, .if_icmp .ge 30, 3), (135, .aload_n 0, 1), (136, .getfield 118, 3), (139, .iload 5, 2), (141, .iaload, 1), (142, .aload_n 0, 1), (143, .getfield 118, 3), (146, .iload 4, 2), (148, .iaload, 1), (149, .if_icmp .ge 7, 3), (152, .iload 5, 2), (154, .istore 4, 2), (156, .iinc 5 1, 3), (159, .goto (-31), 3), (162, .iload_n 3, 1), (163, .ifCond .ne 11, 3), (166, .aload_n 0, 1), (167, .getfield 118, 3), (170, .iload 4, 2), (172, .iaload, 1), (173, .ireturn, 1), (174, .iconst 0, 1), (175, .istore 5, 2), (177, .iload 5, 2), (179, .iload_n 3, 1), (180, .bipush 10, 2), (182, .isub, 1), (183, .if_icmp .ge 67, 3), (186, .aload_n 0, 1), (187, .iload 5, 2), (189, .iload 4, 2), (191, .iload_n 2, 1), (192, .invokevirtual 329, 3), (195, .istore 6, 2), (197, .iconst 0, 1), (198, .istore 7, 2), (200, .iload_n 2, 1), (201, .aload_n 0, 1), (202, .iload 4, 2), (204, .iload 7, 2), (206, .invokevirtual 323, 3), (209, .imul, 1), (210, .aload_n 0, 1), (211, .getfield 118, 3), (214, .bipush 27, 2), (216, .iload 5, 2), (218, .iconst 1, 1), (219, .iadd, 1), (220, .imul, 1), (221, .iload 7, 2), (223, .iadd, 1), (224, .iaload, 1), (225, .iadd, 1), (226, .iload 6, 2), (228, .if_icmp .eq 12, 3), (231, .iload 7, 2), (233, .iconst 1, 1), (234, .iadd, 1), (235, .istore 7, 2), (237, .goto (-37), 3), (240, .iload 7, 2), (242, .istore 4, 2), (244, .iinc 5 1, 3), (247, .goto (-70), 3), (250, .iload 4, 2), (252, .ireturn, 1)]
def mq_Mod_way : ov_M := (12, ⟨"OneEyeModel", "way", "(III)I"⟩, prog_14_method_65_code, 8, (some .int), mq_Mod_way_c)
def mq_Mod_dangerAt_c : List (Nat × Instr × Nat) := [(0, .iconst 0, 1), (1, .istore_n 3, 1), (2, .iconst 0, 1), (3, .istore 4, 2), (5, .iload 4, 2), (7, .iconst 3, 1), (8, .if_icmp .ge 34, 3), (11, .iload_n 3, 1), (12, .aload_n 0, 1), (13, .getfield 115, 3), (16, .bipush 9, 2), (18, .iload_n 1, 1), (19, .imul, 1), (20, .iconst 3, 1), (21, .aload_n 0, 1), (22, .iload_n 2, 1), (23, .iload 4, 2), (25, .invokevirtual 282, 3), (28, .imul, 1), (29, .iadd, 1), (30, .iload 4, 2), (32, .iadd, 1), (33, .iaload, 1), (34, .iadd, 1), (35, .istore_n 3, 1), (36, .iinc 4 1, 3), (39, .goto (-34), 3), (42, .iload_n 3, 1), (43, .ireturn, 1)]
def mq_Mod_dangerAt : ov_M := (12, ⟨"OneEyeModel", "dangerAt", "(II)I"⟩, prog_14_method_62_code, 5, (some .int), mq_Mod_dangerAt_c)
def mq_Mod_behind_c : List (Nat × Instr × Nat) := [(0, .ldc_w 296, 3), (3, .istore 4, 2), (5, .iconst 0, 1), (6, .istore 5, 2), (8, .iload 5, 2), (10, .bipush 27, 2), (12, .if_icmp .ge 51, 3), (15, .iload_n 3, 1), (16, .aload_n 0, 1), (17, .iload_n 2, 1), (18, .iload 5, 2), (20, .invokevirtual 323, 3), (23, .imul, 1), (24, .aload_n 0, 1), (25, .getfield 118, 3), (28, .bipush 27, 2), (30, .iload_n 1, 1), (31, .iconst 1, 1), (32, .iadd, 1), (33, .imul, 1), (34, .iload 5, 2), (36, .iadd, 1), (37, .iaload, 1), (38, .iadd, 1), (39, .istore 6, 2), (41, .iload 6, 2), (43, .iload 4, 2), (45, .if_icmp .ge 8, 3), (48, .iload 6, 2), (50, .goto 5, 3), (53, .iload 4, 2), (55, .istore 4, 2), (57, .iinc 5 1, 3), (60, .goto (-52), 3), (63, .iload 4, 2), (65, .ireturn, 1)]
def mq_Mod_behind : ov_M := (12, ⟨"OneEyeModel", "behind", "(III)I"⟩, prog_14_method_64_code, 7, (some .int), mq_Mod_behind_c)
def mq_Mod_tolls_c : List (Nat × Instr × Nat) := [(0, .iconst 0, 1), (1, .istore_n 3, 1), (2, .iconst 0, 1), (3, .istore 4, 2), (5, .iload 4, 2), (7, .iconst 3, 1), (8, .if_icmp .ge 30, 3), (11, .aload_n 0, 1), (12, .iload_n 1, 1), (13, .iload 4, 2), (15, .invokevirtual 282, 3), (18, .aload_n 0, 1), (19, .iload_n 2, 1), (20, .iload 4, 2), (22, .invokevirtual 282, 3), (25, .if_icmp .eq 7, 3), (28, .iload_n 3, 1), (29, .iconst 1, 1), (30, .iadd, 1), (31, .istore_n 3, 1), (32, .iinc 4 1, 3), (35, .goto (-30), 3), (38, .iload_n 3, 1), (39, .ireturn, 1)]
def mq_Mod_tolls : ov_M := (12, ⟨"OneEyeModel", "tolls", "(II)I"⟩, prog_14_method_63_code, 5, (some .int), mq_Mod_tolls_c)
def mq_Mod_spot_c : List (Nat × Instr × Nat) := [(0, .aload_n 0, 1), (1, .iconst 0, 1), (2, .putfield 145, 3), (5, .aload_n 0, 1), (6, .iload_n 1, 1), (7, .iconst 0, 1), (8, .bipush 8, 2), (10, .invokevirtual 156, 3), (13, .ifCond .eq 25, 3), (16, .aload_n 0, 1), (17, .iload_n 2, 1), (18, .iconst 0, 1), (19, .bipush 99, 2), (21, .invokevirtual 156, 3), (24, .ifCond .eq 14, 3), (27, .aload_n 0, 1), (28, .iload_n 3, 1), (29, .iconst 1, 1), (30, .bipush 9, 2), (32, .invokevirtual 156, 3), (35, .ifCond .ne 5, 3), (38, .iconst 0, 1), (39, .ireturn, 1), (40, .aload_n 0, 1), (41, .getfield 121, 3), (44, .iload_n 1, 1), (45, .iload_n 2, 1), (46, .iastore, 1), (47, .aload_n 0, 1), (48, .getfield 124, 3), (51, .iload_n 1, 1), (52, .iload_n 3, 1), (53, .iconst 1, 1), (54, .isub, 1), (55, .iastore, 1), (56, .iconst 1, 1), (57, .ireturn, 1)]
def mq_Mod_spot : ov_M := (12, ⟨"OneEyeModel", "spot", "(III)Z"⟩, prog_14_method_66_code, 4, (some .boolean), mq_Mod_spot_c)
def mq_Mod_felt_c : List (Nat × Instr × Nat) := [(0, .aload_n 0, 1), (1, .iconst 0, 1), (2, .putfield 145, 3), (5, .iconst 0, 1), (6, .istore_n 1, 1), (7, .iload_n 1, 1), (8, .bipush 9, 2), (10, .if_icmp .ge 90, 3), (13, .iload_n 1, 1), (14, .istore_n 2, 1), (15, .iload_n 2, 1), (16, .ifCond .le 71, 3), (19, .aload_n 0, 1), (20, .getfield 121, 3), (23, .iload_n 1, 1), (24, .iaload, 1), (25, .aload_n 0, 1), (26, .getfield 124, 3), (29, .aload_n 0, 1), (30, .getfield 127, 3), (33, .iload_n 2, 1), (34, .iconst 1, 1), (35, .isub, 1), (36, .iaload, 1), (37, .iaload, 1), (38, .iconst 1, 1), (39, .iadd, 1), (40, .imul, 1), (41, .aload_n 0, 1), (42, .getfield 121, 3), (45, .aload_n 0, 1), (46, .getfield 127, 3), (49, .iload_n 2, 1), (50, .iconst 1, 1), (51, .isub, 1), (52, .iaload, 1), (53, .iaload, 1), (54, .aload_n 0, 1), (55, .getfield 124, 3), (58, .iload_n 1, 1), (59, .iaload, 1), (60, .iconst 1, 1), (61, .iadd, 1), (62, .imul, 1), (63, .if_icmp .le 24, 3), (66, .aload_n 0, 1), (67, .getfield 127, 3), (70, .iload_n 2, 1), (71, .aload_n 0, 1), (72, .getfield 127, 3), (75, .iload_n 2, 1), (76, .iconst 1, 1), (77, .isub, 1), (78, .iaload, 1), (79, .iastore, 1), (80, .iload_n 2, 1), (81, .iconst 1, 1), (82, .isub, 1), (83, .istore_n 2, 1), (84, .goto (-69), 3), (87, .aload_n 0, 1), (88, .getfield 127, 3), (91, .iload_n 2, 1), (92, .iload_n 1, 1), (93, .iastore, 1), (94, .iinc 1 1, 3), (97, .goto (-90), 3), (100, .ldc_w 296, 3), (103, .istore_n 1, 1), (104, .iconst 0, 1), (105, .istore_n 2, 1), (106, .iload_n 2, 1), (107, .sipush 512, 3), (110, .if_icmp .ge 38, 3), (113, .aload_n 0, 1), (114, .iload_n 2, 1), (115, .invokevirtual 332, 3), (118, .aload_n 0, 1), (119, .sipush 511, 3), (122, .iload_n 2, 1), (123, .iconst (-1), 1), (124, .ixor, 1), (125, .iand, 1), (126, .invokevirtual 332, 3), (129, .iadd, 1), (130, .istore_n 3, 1), (131, .iload_n 3, 1), (132, .iload_n 1, 1), (133, .if_icmp .ge 7, 3), (136, .iload_n 3, 1), (137, .goto 4, 3), (140, .iload_n 1, 1), (141, .istore_n 1, 1), (142, .iinc 2 1, 3), (145, .goto (-39), 3), (148, .iload_n 1, 1), (149, .ireturn, 1)]
def mq_Mod_felt : ov_M := (12, ⟨"OneEyeModel", "felt", "()I"⟩, prog_14_method_68_code, 4, (some .int), mq_Mod_felt_c)
def mq_Mod_feltBy_c : List (Nat × Instr × Nat) := [(0, .iconst 0, 1), (1, .istore_n 2, 1), (2, .iconst 0, 1), (3, .istore_n 3, 1), (4, .iconst 0, 1), (5, .istore 4, 2), (7, .iload 4, 2), (9, .bipush 9, 2), (11, .if_icmp .ge 54, 3), (14, .aload_n 0, 1), (15, .getfield 127, 3), (18, .iload 4, 2), (20, .iaload, 1), (21, .istore 5, 2), (23, .iload_n 1, 1), (24, .iload 5, 2), (26, .ishr, 1), (27, .iconst 1, 1), (28, .iand, 1), (29, .ifCond .ne 6, 3), (32, .goto 27, 3), (35, .iload_n 3, 1), (36, .aload_n 0, 1), (37, .getfield 124, 3), (40, .iload 5, 2), (42, .iaload, 1), (43, .iadd, 1), (44, .iconst 1, 1), (45, .iadd, 1), (46, .istore_n 3, 1), (47, .iload_n 2, 1), (48, .aload_n 0, 1), (49, .getfield 121, 3), (52, .iload 5, 2), (54, .iaload, 1), (55, .iload_n 3, 1), (56, .imul, 1), (57, .iadd, 1), (58, .istore_n 2, 1), (59, .iinc 4 1, 3), (62, .goto (-55), 3), (65, .iload_n 2, 1), (66, .ireturn, 1)]
def mq_Mod_feltBy : ov_M := (12, ⟨"OneEyeModel", "feltBy", "(I)I"⟩, prog_14_method_67_code, 6, (some .int), mq_Mod_feltBy_c)
def mq_Mod_liars_c : List (Nat × Instr × Nat) := [(0, .aload_n 0, 1), (1, .iconst 0, 1), (2, .putfield 145, 3), (5, .iconst 1, 1), (6, .iconst 3, 1), (7, .aload_n 0, 1), (8, .getfield 153, 3), (11, .imul, 1), (12, .ishl, 1), (13, .iconst 1, 1), (14, .isub, 1), (15, .istore_n 1, 1), (16, .iconst 0, 1), (17, .istore_n 2, 1), (18, .iload_n 2, 1), (19, .iconst 1, 1), (20, .iconst 3, 1), (21, .aload_n 0, 1), (22, .getfield 153, 3), (25, .imul, 1), (26, .ishl, 1), (27, .if_icmp .ge 32, 3), (30, .aload_n 0, 1), (31, .iload_n 2, 1), (32, .invokevirtual 335, 3), (35, .aload_n 0, 1), (36, .iload_n 1, 1), (37, .invokevirtual 335, 3), (40, .if_icmp .ge 13, 3), (43, .aload_n 0, 1), (44, .iload_n 2, 1), (45, .invokevirtual 338, 3), (48, .ifCond .eq 5, 3), (51, .iload_n 2, 1), (52, .istore_n 1, 1), (53, .iinc 2 1, 3), (56, .goto (-38), 3), (59, .iload_n 1, 1), (60, .ireturn, 1)]
def mq_Mod_liars : ov_M := (12, ⟨"OneEyeModel", "liars", "()I"⟩, prog_14_method_70_code, 3, (some .int), mq_Mod_liars_c)
def mq_Mod_ones_c : List (Nat × Instr × Nat) := [(0, .iconst 0, 1), (1, .istore_n 2, 1), (2, .iload_n 1, 1), (3, .istore_n 3, 1), (4, .iload_n 3, 1), (5, .ifCond .eq 16, 3), (8, .iload_n 2, 1), (9, .iconst 1, 1), (10, .iadd, 1), (11, .istore_n 2, 1), (12, .iload_n 3, 1), (13, .iload_n 3, 1), (14, .iconst 1, 1), (15, .isub, 1), (16, .iand, 1), (17, .istore_n 3, 1), (18, .goto (-14), 3), (21, .iload_n 2, 1), (22, .ireturn, 1)]
def mq_Mod_ones : ov_M := (12, ⟨"OneEyeModel", "ones", "(I)I"⟩, prog_14_method_4_code, 4, (some .int), mq_Mod_ones_c)
def mq_Mod_goTogether_c : List (Nat × Instr × Nat) := [(0, .iconst 0, 1), (1, .istore_n 2, 1), (2, .iconst 0, 1), (3, .istore_n 3, 1), (4, .iconst 0, 1), (5, .istore 4, 2), (7, .iload 4, 2), (9, .aload_n 0, 1), (10, .getfield 249, 3), (13, .if_icmp .ge 65, 3), (16, .iload_n 1, 1), (17, .aload_n 0, 1), (18, .getfield 62, 3), (21, .iload 4, 2), (23, .iaload, 1), (24, .ishr, 1), (25, .iconst 1, 1), (26, .iand, 1), (27, .iconst 1, 1), (28, .if_icmp .ne 6, 3), (31, .goto 41, 3), (34, .aload_n 0, 1), (35, .getfield 68, 3), (38, .iload 4, 2), (40, .iaload, 1), (41, .iconst 1, 1), (42, .if_icmp .ne 18, 3), (45, .iload_n 2, 1), (46, .iconst 1, 1), (47, .aload_n 0, 1), (48, .getfield 65, 3), (51, .iload 4, 2), (53, .iaload, 1), (54, .ishl, 1), (55, .ior, 1), (56, .istore_n 2, 1), (57, .goto 15, 3), (60, .iload_n 3, 1), (61, .iconst 1, 1), (62, .aload_n 0, 1), (63, .getfield 65, 3), (66, .iload 4, 2), (68, .iaload, 1), (69, .ishl, 1), (70, .ior, 1), (71, .istore_n 3, 1), (72, .iinc 4 1, 3), (75, .goto (-68), 3), (78, .iload_n 2, 1), (79, .iload_n 3, 1), (80, .iand, 1), (81, .ifCond .ne 7, 3), (84, .iconst 1, 1), (85, .goto 4, 3), (88, .iconst 0, 1), (89, .ireturn, 1)]
def mq_Mod_goTogether : ov_M := (12, ⟨"OneEyeModel", "goTogether", "(I)Z"⟩, prog_14_method_69_code, 5, (some .boolean), mq_Mod_goTogether_c)
def mq_Mod_watch_c : List (Nat × Instr × Nat) := [(0, .aload_n 0, 1), (1, .iconst 0, 1), (2, .putfield 145, 3), (5, .aload_n 0, 1), (6, .iload_n 1, 1), (7, .iconst 1, 1), (8, .bipush 99, 2), (10, .invokevirtual 156, 3), (13, .ifCond .eq 12, 3), (16, .aload_n 0, 1), (17, .getfield 341, 3), (20, .bipush 9, 2), (22, .if_icmp .ne 5, 3), (25, .iconst (-1), 1), (26, .ireturn, 1), (27, .aload_n 0, 1), (28, .getfield 130, 3), (31, .aload_n 0, 1), (32, .getfield 341, 3), (35, .iload_n 1, 1), (36, .iastore, 1), (37, .aload_n 0, 1), (38, .aload_n 0, 1), (39, .getfield 341, 3), (42, .iconst 1, 1), (43, .iadd, 1), (44, .putfield 341, 3), (47, .aload_n 0, 1), (48, .getfield 341, 3), (51, .iconst 1, 1), (52, .isub, 1), (53, .ireturn, 1)]
def mq_Mod_watch : ov_M := (12, ⟨"OneEyeModel", "watch", "(I)I"⟩, prog_14_method_71_code, 2, (some .int), mq_Mod_watch_c)
def mq_Mod_watches_c : List (Nat × Instr × Nat) := [(0, .aload_n 0, 1), (1, .iconst 0, 1), (2, .putfield 145, 3), (5, .iload_n 1, 1), (6, .ifCond .eq 22, 3), (9, .aload_n 0, 1), (10, .iload_n 1, 1), (11, .bipush 10, 2), (13, .bipush 9, 2), (15, .aload_n 0, 1), (16, .getfield 341, 3), (19, .iadd, 1), (20, .invokevirtual 156, 3), (23, .ifCond .ne 5, 3), (26, .iconst (-1), 1), (27, .ireturn, 1), (28, .iconst 1, 1), (29, .istore_n 2, 1), (30, .iconst 0, 1), (31, .istore_n 3, 1), (32, .iload_n 3, 1), (33, .aload_n 0, 1), (34, .getfield 341, 3), (37, .if_icmp .ge 13, 3), (40, .iconst 3, 1), (41, .iload_n 2, 1), (42, .imul, 1), (43, .istore_n 2, 1), (44, .iinc 3 1, 3), (47, .goto (-15), 3), (50, .iconst 0, 1), (51, .istore_n 3, 1), (52, .ldc_w 296, 3), (55, .istore 4, 2), (57, .iconst 0, 1), (58, .istore 5, 2), (60, .iload 5, 2), (62, .iload_n 2, 1), (63, .if_icmp .ge 34, 3), (66, .aload_n 0, 1), (67, .iload 5, 2), (69, .invokevirtual 344, 3), (72, .istore 6, 2), (74, .iload 6, 2), (76, .iload 4, 2), (78, .if_icmp .lt 6, 3), (81, .goto 10, 3), (84, .iload 5, 2), (86, .istore_n 3, 1), (87, .iload 6, 2), (89, .istore 4, 2), (91, .iinc 5 1, 3), (94, .goto (-34), 3), (97, .iload_n 1, 1), (98, .ifCond .ne 8, 3), (101, .iload 4, 2), (103, .goto 12, 3), (106, .aload_n 0, 1), (107, .iload_n 3, 1), (108, .iload_n 1, 1), (109, .bipush 10, 2), (111, .isub, 1), (112, .invokevirtual 347, 3), (115, .ireturn, 1)]
def mq_Mod_watches : ov_M := (12, ⟨"OneEyeModel", "watches", "(I)I"⟩, prog_14_method_74_code, 7, (some .int), mq_Mod_watches_c)
def mq_Mod_spread_c : List (Nat × Instr × Nat) := [(0, .iconst 0, 1), (1, .istore_n 2, 1), (2, .iload_n 2, 1), (3, .iconst 3, 1), (4, .if_icmp .ge 16, 3), (7, .aload_n 0, 1), (8, .getfield 133, 3), (11, .iload_n 2, 1), (12, .iconst 0, 1), (13, .iastore, 1), (14, .iinc 2 1, 3), (17, .goto (-15), 3), (20, .iload_n 1, 1), (21, .istore_n 2, 1), (22, .aload_n 0, 1), (23, .getfield 341, 3), (26, .iconst 1, 1), (27, .isub, 1), (28, .istore_n 3, 1), (29, .iload_n 3, 1), (30, .ifCond .lt 36, 3), (33, .aload_n 0, 1), (34, .getfield 133, 3), (37, .iload_n 2, 1), (38, .iconst 3, 1), (39, .irem, 1), (40, .aload_n 0, 1), (41, .getfield 133, 3), (44, .iload_n 2, 1), (45, .iconst 3, 1), (46, .irem, 1), (47, .iaload, 1), (48, .aload_n 0, 1), (49, .getfield 130, 3), (52, .iload_n 3, 1), (53, .iaload, 1), (54, .iadd, 1), (55, .iastore, 1), (56, .iload_n 2, 1), (57, .iconst 3, 1), (58, .idiv, 1), (59, .istore_n 2, 1), (60, .iinc 3 (-1), 3), (63, .goto (-34), 3), (66, .aload_n 0, 1), (67, .getfield 133, 3), (70, .iconst 0, 1), (71, .iaload, 1), (72, .aload_n 0, 1), (73, .getfield 133, 3), (76, .iconst 1, 1), (77, .iaload, 1), (78, .if_icmp .le 12, 3), (81, .aload_n 0, 1), (82, .getfield 133, 3), (85, .iconst 0, 1), (86, .iaload, 1), (87, .goto 9, 3), (90, .aload_n 0, 1), (91, .getfield 133, 3), (94, .iconst 1, 1), (95, .iaload, 1), (96, .istore_n 3, 1), (97, .aload_n 0, 1), (98, .getfield 133, 3), (101, .iconst 0, 1), (102, .iaload, 1), (103, .aload_n 0, 1), (104, .getfield 133, 3), (107, .iconst 1, 1), (108, .iaload, 1), (109, .if_icmp .ge 12, 3), (112, .aload_n 0, 1), (113, .getfield 133, 3), (116, .iconst 0, 1), (117, .iaload, 1), (118, .goto 9, 3), (121, .aload_n 0, 1), (122, .getfield 133, 3), (125, .iconst 1, 1), (126, .iaload, 1), (127, .istore 4, 2), (129, .aload_n 0, 1), (130, .getfield 133, 3), (133, .iconst 2, 1), (134, .iaload, 1), (135, .iload_n 3, 1), (136, .if_icmp .le 12, 3), (139, .aload_n 0, 1), (140, .getfield 133, 3), (143, .iconst 2, 1), (144, .iaload, 1), (145, .goto 4, 3), (148, .iload_n 3, 1), (149, .istore_n 3, 1), (150, .iload_n 3, 1), (151, .aload_n 0, 1), (152, .getfield 133, 3), (155, .iconst 2, 1), (156, .iaload, 1), (157, .iload 4, 2), (159, .if_icmp .ge 12, 3), (162, .aload_n 0, 1), (163, .getfield 133, 3), (166, .iconst 2, 1), (167, .iaload, 1), (168, .goto 5, 3), (171, .iload 4, 2), (173, .isub, 1), (174, .ireturn, 1)]
def mq_Mod_spread : ov_M := (12, ⟨"OneEyeModel", "spread", "(I)I"⟩, prog_14_method_73_code, 5, (some .int), mq_Mod_spread_c)
def mq_Mod_watcher_c : List (Nat × Instr × Nat) := [(0, .iload_n 1, 1), (1, .istore_n 3, 1), (2, .aload_n 0, 1), (3, .getfield 341, 3), (6, .iconst 1, 1), (7, .isub, 1), (8, .istore 4, 2), (10, .iload 4, 2), (12, .iload_n 2, 1), (13, .if_icmp .le 13, 3), (16, .iload_n 3, 1), (17, .iconst 3, 1), (18, .idiv, 1), (19, .istore_n 3, 1), (20, .iinc 4 (-1), 3), (23, .goto (-13), 3), (26, .iload_n 3, 1), (27, .iconst 3, 1), (28, .irem, 1), (29, .ireturn, 1)]
def mq_Mod_watcher : ov_M := (12, ⟨"OneEyeModel", "watcher", "(II)I"⟩, prog_14_method_72_code, 5, (some .int), mq_Mod_watcher_c)
def mq_Mod_lends_c : List (Nat × Instr × Nat) := [(0, .aload_n 0, 1), (1, .iconst 0, 1), (2, .putfield 145, 3), (5, .aload_n 0, 1), (6, .iload_n 1, 1), (7, .invokevirtual 167, 3), (10, .ifCond .eq 24, 3), (13, .aload_n 0, 1), (14, .iload_n 2, 1), (15, .invokevirtual 279, 3), (18, .ifCond .eq 16, 3), (21, .aload_n 0, 1), (22, .iload_n 3, 1), (23, .invokevirtual 279, 3), (26, .ifCond .eq 8, 3), (29, .iload_n 2, 1), (30, .iload_n 3, 1), (31, .if_icmp .ne 5, 3), (34, .iconst 0, 1), (35, .ireturn, 1), (36, .aload_n 0, 1), (37, .getfield 136, 3), (40, .bipush 9, 2), (42, .iload_n 1, 1), (43, .imul, 1), (44, .iconst 3, 1), (45, .iload_n 2, 1), (46, .imul, 1), (47, .iadd, 1), (48, .iload_n 3, 1), (49, .iadd, 1), (50, .iload 4, 2), (52, .ifCond .eq 7, 3), (55, .iconst 1, 1), (56, .goto 4, 3), (59, .iconst 0, 1), (60, .iastore, 1), (61, .iconst 1, 1), (62, .ireturn, 1)]
def mq_Mod_lends : ov_M := (12, ⟨"OneEyeModel", "lends", "(IIIZ)Z"⟩, prog_14_method_75_code, 5, (some .boolean), mq_Mod_lends_c)
def mq_Mod_ring_c : List (Nat × Instr × Nat) := [(0, .aload_n 0, 1), (1, .iconst 0, 1), (2, .putfield 145, 3), (5, .iconst (-1), 1), (6, .istore_n 1, 1), (7, .iconst 1, 1), (8, .istore_n 2, 1), (9, .iload_n 2, 1), (10, .iconst 1, 1), (11, .aload_n 0, 1), (12, .getfield 153, 3), (15, .ishl, 1), (16, .if_icmp .ge 46, 3), (19, .aload_n 0, 1), (20, .iload_n 2, 1), (21, .invokevirtual 335, 3), (24, .iconst 1, 1), (25, .if_icmp .le 31, 3), (28, .iload_n 1, 1), (29, .iconst (-1), 1), (30, .if_icmp .eq 16, 3), (33, .aload_n 0, 1), (34, .iload_n 2, 1), (35, .invokevirtual 335, 3), (38, .aload_n 0, 1), (39, .iload_n 1, 1), (40, .invokevirtual 335, 3), (43, .if_icmp .ge 13, 3), (46, .aload_n 0, 1), (47, .iload_n 2, 1), (48, .invokevirtual 356, 3), (51, .ifCond .eq 5, 3), (54, .iload_n 2, 1), (55, .istore_n 1, 1), (56, .iinc 2 1, 3), (59, .goto (-50), 3), (62, .iload_n 1, 1), (63, .ireturn, 1)]
def mq_Mod_ring : ov_M := (12, ⟨"OneEyeModel", "ring", "()I"⟩, prog_14_method_79_code, 3, (some .int), mq_Mod_ring_c)
def mq_Mod_canRing_c : List (Nat × Instr × Nat) := [(0, .iconst 0, 1), (1, .istore_n 2, 1), (2, .iload_n 1, 1), (3, .iload_n 2, 1), (4, .ishr, 1), (5, .iconst 1, 1), (6, .iand, 1), (7, .ifCond .ne 10, 3), (10, .iload_n 2, 1), (11, .iconst 1, 1), (12, .iadd, 1), (13, .istore_n 2, 1), (14, .goto (-12), 3), (17, .iconst 0, 1), (18, .istore_n 3, 1), (19, .iload_n 3, 1), (20, .iconst 3, 1), (21, .if_icmp .ge 21, 3), (24, .aload_n 0, 1), (25, .iload_n 1, 1), (26, .iload_n 2, 1), (27, .iload_n 3, 1), (28, .invokevirtual 353, 3), (31, .ifCond .eq 5, 3), (34, .iconst 1, 1), (35, .ireturn, 1), (36, .iinc 3 1, 3), (39, .goto (-20), 3), (42, .iconst 0, 1), (43, .ireturn, 1)]
def mq_Mod_canRing : ov_M := (12, ⟨"OneEyeModel", "canRing", "(I)Z"⟩, prog_14_method_78_code, 4, (some .boolean), mq_Mod_canRing_c)
def mq_Mod_isRing_c : List (Nat × Instr × Nat) := [(0, .iconst 0, 1), (1, .istore 4, 2), (3, .iload 4, 2), (5, .bipush 16, 2), (7, .if_icmp .ge 17, 3), (10, .aload_n 0, 1), (11, .getfield 139, 3), (14, .iload 4, 2), (16, .iconst 0, 1), (17, .iastore, 1), (18, .iinc 4 1, 3), (21, .goto (-18), 3), (24, .aload_n 0, 1), (25, .getfield 139, 3), (28, .iconst 1, 1), (29, .iload_n 2, 1), (30, .ishl, 1), (31, .iconst 1, 1), (32, .iconst 3, 1), (33, .iload_n 2, 1), (34, .imul, 1), (35, .iload_n 3, 1), (36, .iadd, 1), (37, .ishl, 1), (38, .iastore, 1), (39, .iconst 0, 1), (40, .istore 4, 2), (42, .iload 4, 2), (44, .bipush 16, 2), (46, .if_icmp .ge 72, 3), (49, .iload 4, 2), (51, .iload_n 1, 1), (52, .iconst (-1), 1), (53, .ixor, 1), (54, .iand, 1), (55, .ifCond .ne 57, 3), (58, .aload_n 0, 1), (59, .getfield 139, 3), (62, .iload 4, 2), (64, .iaload, 1), (65, .ifCond .ne 6, 3), (68, .goto 44, 3), (71, .iconst 0, 1), (72, .istore 5, 2), (74, .iload 5, 2), (76, .bipush 12, 2), (78, .if_icmp .ge 34, 3), (81, .aload_n 0, 1), (82, .getfield 139, 3), (85, .iload 4, 2), (87, .iaload, 1), (88, .iload 5, 2), (90, .ishr, 1), (91, .iconst 1, 1), (92, .iand, 1), (93, .iconst 1, 1), (94, .if_icmp .ne 12, 3), (97, .aload_n 0, 1), (98, .iload 4, 2), (100, .iload_n 1, 1), (101, .iload 5, 2), (103, .invokevirtual 350, 3), (106, .iinc 5 1, 3), (109, .goto (-35), 3), (112, .iinc 4 1, 3), (115, .goto (-73), 3), (118, .iconst 0, 1), (119, .istore 4, 2), (121, .iload 4, 2), (123, .bipush 12, 2), (125, .if_icmp .ge 48, 3), (128, .aload_n 0, 1), (129, .getfield 139, 3), (132, .iload_n 1, 1), (133, .iaload, 1), (134, .iload 4, 2), (136, .ishr, 1), (137, .iconst 1, 1), (138, .iand, 1), (139, .iconst 1, 1), (140, .if_icmp .ne 27, 3), (143, .aload_n 0, 1), (144, .getfield 136, 3), (147, .bipush 9, 2), (149, .iload_n 2, 1), (150, .imul, 1), (151, .iconst 3, 1), (152, .iload_n 3, 1), (153, .imul, 1), (154, .iadd, 1), (155, .iload 4, 2), (157, .iconst 3, 1), (158, .irem, 1), (159, .iadd, 1), (160, .iaload, 1), (161, .iconst 1, 1), (162, .if_icmp .ne 5, 3), (165, .iconst 1, 1), (166, .ireturn, 1), (167, .iinc 4 1, 3), (170, .goto (-49), 3), (173, .iconst 0, 1), (174, .ireturn, 1)]
def mq_Mod_isRing : ov_M := (12, ⟨"OneEyeModel", "isRing", "(III)Z"⟩, prog_14_method_76_code, 6, (some .boolean), mq_Mod_isRing_c)
def mq_Mod_grows_c : List (Nat × Instr × Nat) := [(0, .iconst 0, 1), (1, .istore 4, 2), (3, .iload 4, 2), (5, .aload_n 0, 1), (6, .getfield 153, 3), (9, .if_icmp .ge 101, 3), (12, .iload_n 2, 1), (13, .iload 4, 2), (15, .ishr, 1), (16, .iconst 1, 1), (17, .iand, 1), (18, .ifCond .eq 86, 3), (21, .iload_n 1, 1), (22, .iload 4, 2), (24, .ishr, 1), (25, .iconst 1, 1), (26, .iand, 1), (27, .iconst 1, 1), (28, .if_icmp .ne 6, 3), (31, .goto 73, 3), (34, .iconst 0, 1), (35, .istore 5, 2), (37, .iload 5, 2), (39, .iconst 3, 1), (40, .if_icmp .ge 64, 3), (43, .aload_n 0, 1), (44, .getfield 136, 3), (47, .bipush 9, 2), (49, .iload 4, 2), (51, .imul, 1), (52, .iconst 3, 1), (53, .iload 5, 2), (55, .imul, 1), (56, .iadd, 1), (57, .iload_n 3, 1), (58, .iconst 3, 1), (59, .irem, 1), (60, .iadd, 1), (61, .iaload, 1), (62, .iconst 1, 1), (63, .if_icmp .ne 35, 3), (66, .aload_n 0, 1), (67, .getfield 139, 3), (70, .iload_n 1, 1), (71, .iconst 1, 1), (72, .iload 4, 2), (74, .ishl, 1), (75, .ior, 1), (76, .aload_n 0, 1), (77, .getfield 139, 3), (80, .iload_n 1, 1), (81, .iconst 1, 1), (82, .iload 4, 2), (84, .ishl, 1), (85, .ior, 1), (86, .iaload, 1), (87, .iconst 1, 1), (88, .iconst 3, 1), (89, .iload 4, 2), (91, .imul, 1), (92, .iload 5, 2), (94, .iadd, 1), (95, .ishl, 1), (96, .ior, 1), (97, .iastore, 1), (98, .iinc 5 1, 3), (101, .goto (-64), 3), (104, .iinc 4 1, 3), (107, .goto (-104), 3), (110, .return_, 1)]
def mq_Mod_grows : ov_M := (12, ⟨"OneEyeModel", "grows", "(III)V"⟩, prog_14_method_77_code, 6, none, mq_Mod_grows_c)
def mq_Mod_image_c : List (Nat × Instr × Nat) := [(0, .aload_n 0, 1), (1, .iconst 0, 1), (2, .putfield 145, 3), (5, .iload_n 1, 1), (6, .ifCond .ne 12, 3), (9, .aload_n 0, 1), (10, .getfield 368, 3), (13, .ifCond .ne 5, 3), (16, .iconst 0, 1), (17, .ireturn, 1), (18, .aload_n 0, 1), (19, .iload_n 1, 1), (20, .putfield 362, 3), (23, .aload_n 0, 1), (24, .iconst 1, 1), (25, .putfield 368, 3), (28, .aload_n 0, 1), (29, .iconst 0, 1), (30, .putfield 359, 3), (33, .aload_n 0, 1), (34, .aload_n 0, 1), (35, .aload_n 0, 1), (36, .getfield 148, 3), (39, .invokevirtual 365, 3), (42, .putfield 148, 3), (45, .aload_n 0, 1), (46, .aload_n 0, 1), (47, .aload_n 0, 1), (48, .getfield 252, 3), (51, .invokevirtual 365, 3), (54, .putfield 252, 3), (57, .iconst 0, 1), (58, .istore_n 2, 1), (59, .iload_n 2, 1), (60, .bipush 10, 2), (62, .if_icmp .ge 25, 3), (65, .aload_n 0, 1), (66, .getfield 25, 3), (69, .iload_n 2, 1), (70, .aload_n 0, 1), (71, .aload_n 0, 1), (72, .getfield 25, 3), (75, .iload_n 2, 1), (76, .iaload, 1), (77, .invokevirtual 365, 3), (80, .iastore, 1), (81, .iinc 2 1, 3), (84, .goto (-25), 3), (87, .aload_n 0, 1), (88, .aload_n 0, 1), (89, .aload_n 0, 1), (90, .getfield 249, 3), (93, .invokevirtual 365, 3), (96, .putfield 249, 3), (99, .iconst 0, 1), (100, .istore_n 2, 1), (101, .iload_n 2, 1), (102, .bipush 99, 2), (104, .if_icmp .ge 89, 3), (107, .aload_n 0, 1), (108, .getfield 62, 3), (111, .iload_n 2, 1), (112, .aload_n 0, 1), (113, .aload_n 0, 1), (114, .getfield 62, 3), (117, .iload_n 2, 1), (118, .iaload, 1), (119, .invokevirtual 365, 3), (122, .iastore, 1), (123, .aload_n 0, 1), (124, .getfield 65, 3), (127, .iload_n 2, 1), (128, .aload_n 0, 1), (129, .aload_n 0, 1), (130, .getfield 65, 3), (133, .iload_n 2, 1), (134, .iaload, 1), (135, .invokevirtual 365, 3), (138, .iastore, 1), (139, .aload_n 0, 1), (140, .getfield 68, 3), (143, .iload_n 2, 1), (144, .aload_n 0, 1), (145, .aload_n 0, 1), (146, .getfield 68, 3), (149, .iload_n 2, 1), (150, .iaload, 1), (151, .invokevirtual 365, 3), (154, .iastore, 1), (155, .aload_n 0, 1), (156, .getfield 71, 3), (159, .iload_n 2, 1), (160, .aload_n 0, 1), (161, .aload_n 0, 1), (162, .getfield 71, 3), (165, .iload_n 2, 1), (166, .iaload, 1), (167, .invokevirtual 365, 3), (170, .iastore, 1), (171, .aload_n 0, 1), (172, .getfield 74, 3), (175, .iload_n 2, 1), (176, .aload_n 0, 1), (177, .aload_n 0, 1), (178, .getfield 74, 3), (181, .iload_n 2, 1), (182, .iaload, 1), (183, .invokevirtual 365, 3), (186, .iastore, 1), (187, .iinc 2 1, 3), (190, .goto (-89), 3), (193, .aload_n 0, 1), (194, .invokevirtual 371, 3), (197, .aload_n 0, 1), (198, .invokevirtual 374, 3), (201, .iconst 1, 1), (202, .ireturn, 1)]
def mq_Mod_image : ov_M := (12, ⟨"OneEyeModel", "image", "(Z)Z"⟩, prog_14_method_83_code, 3, (some .boolean), mq_Mod_image_c)
def mq_Mod_kept_c : List (Nat × Instr × Nat) := [(0, .aload_n 0, 1), (1, .aload_n 0, 1), (2, .getfield 359, 3), (5, .iconst 1, 1), (6, .iadd, 1), (7, .putfield 359, 3), (10, .aload_n 0, 1), (11, .getfield 362, 3), (14, .ifCond .ne 15, 3), (17, .aload_n 0, 1), (18, .getfield 142, 3), (21, .aload_n 0, 1), (22, .getfield 359, 3), (25, .iconst 1, 1), (26, .isub, 1), (27, .iaload, 1), (28, .ireturn, 1), (29, .aload_n 0, 1), (30, .getfield 142, 3), (33, .aload_n 0, 1), (34, .getfield 359, 3), (37, .iconst 1, 1), (38, .isub, 1), (39, .iload_n 1, 1), (40, .iastore, 1), (41, .iload_n 1, 1), (42, .ireturn, 1)]
def mq_Mod_kept : ov_M := (12, ⟨"OneEyeModel", "kept", "(I)I"⟩, prog_14_method_80_code, 2, (some .int), mq_Mod_kept_c)
def mq_Mod_keepsThrees_c : List (Nat × Instr × Nat) := [(0, .aload_n 0, 1), (1, .aload_n 0, 1), (2, .aload_n 0, 1), (3, .getfield 153, 3), (6, .invokevirtual 365, 3), (9, .putfield 153, 3), (12, .iconst 0, 1), (13, .istore_n 1, 1), (14, .iload_n 1, 1), (15, .iconst 4, 1), (16, .if_icmp .ge 169, 3), (19, .aload_n 0, 1), (20, .getfield 7, 3), (23, .iload_n 1, 1), (24, .aload_n 0, 1), (25, .aload_n 0, 1), (26, .getfield 7, 3), (29, .iload_n 1, 1), (30, .iaload, 1), (31, .invokevirtual 365, 3), (34, .iastore, 1), (35, .aload_n 0, 1), (36, .getfield 13, 3), (39, .iload_n 1, 1), (40, .aload_n 0, 1), (41, .aload_n 0, 1), (42, .getfield 13, 3), (45, .iload_n 1, 1), (46, .iaload, 1), (47, .invokevirtual 365, 3), (50, .iastore, 1), (51, .aload_n 0, 1), (52, .getfield 16, 3), (55, .iload_n 1, 1), (56, .aload_n 0, 1), (57, .aload_n 0, 1), (58, .getfield 16, 3), (61, .iload_n 1, 1), (62, .iaload, 1), (63, .invokevirtual 365, 3), (66, .iastore, 1), (67, .aload_n 0, 1), (68, .getfield 19, 3), (71, .iload_n 1, 1), (72, .aload_n 0, 1), (73, .aload_n 0, 1), (74, .getfield 19, 3), (77, .iload_n 1, 1), (78, .iaload, 1), (79, .invokevirtual 365, 3), (82, .iastore, 1), (83, .aload_n 0, 1), (84, .getfield 77, 3), (87, .iload_n 1, 1), (88, .aload_n 0, 1), (89, .aload_n 0, 1), (90, .getfield 77, 3), (93, .iload_n 1, 1), (94, .iaload, 1), (95, .invokevirtual 365, 3), (98, .iastore, 1), (99, .aload_n 0, 1), (100, .getfield 80, 3), (103, .iload_n 1, 1), (104, .aload_n 0, 1), (105, .aload_n 0, 1), (106, .getfield 80, 3), (109, .iload_n 1, 1), (110, .iaload, 1), (111, .invokevirtual 365, 3), (114, .iastore, 1), (115, .aload_n 0, 1), (116, .getfield 83, 3), (119, .iload_n 1, 1), (120, .aload_n 0, 1), (121, .aload_n 0, 1), (122, .getfield 83, 3), (125, .iload_n 1, 1), (126, .iaload, 1), (127, .invokevirtual 365, 3), (130, .iastore, 1), (131, .aload_n 0, 1), (132, .getfield 86, 3), (135, .iload_n 1, 1), (136, .aload_n 0, 1), (137, .aload_n 0, 1), (138, .getfield 86, 3), (141, .iload_n 1, 1), (142, .iaload, 1), (143, .invokevirtual 365, 3), (146, .iastore, 1), (147, .aload_n 0, 1), (148, .getfield 102, 3), (151, .iload_n 1, 1), (152, .aload_n 0, 1), (153, .aload_n 0, 1), (154, .getfield 102, 3), (157, .iload_n 1, 1), (158, .iaload, 1), (159, .invokevirtual 365, 3), (162, .iastore, 1), (163, .aload_n 0, 1), (164, .getfield 105, 3), (167, .iload_n 1, 1), (168, .aload_n 0, 1), (169, .aload_n 0, 1), (170, .getfield 105, 3), (173, .iload_n 1, 1), (174, .iaload, 1), (175, .invokevirtual 365, 3), (178, .iastore, 1), (179, .iinc 1 1, 3), (182, .goto (-168), 3), (185, .iconst 0, 1), (186, .istore_n 1, 1), (187, .iload_n 1, 1), (188, .bipush 12, 2), (190, .if_icmp .ge 25, 3), (193, .aload_n 0, 1), (194, .getfield 22, 3), (197, .iload_n 1, 1), (198, .aload_n 0, 1), (199, .aload_n 0, 1), (200, .getfield 22, 3), (203, .iload_n 1, 1), (204, .iaload, 1), (205, .invokevirtual 365, 3), (208, .iastore, 1), (209, .iinc 1 1, 3), (212, .goto (-25), 3), (215, .iconst 0, 1), (216, .istore_n 1, 1), (217, .iload_n 1, 1), (218, .bipush 120, 2), (220, .if_icmp .ge 89, 3), (223, .aload_n 0, 1), (224, .getfield 28, 3), (227, .iload_n 1, 1), (228, .aload_n 0, 1), (229, .aload_n 0, 1), (230, .getfield 28, 3), (233, .iload_n 1, 1), (234, .iaload, 1), (235, .invokevirtual 365, 3), (238, .iastore, 1), (239, .aload_n 0, 1), (240, .getfield 37, 3), (243, .iload_n 1, 1), (244, .aload_n 0, 1), (245, .aload_n 0, 1), (246, .getfield 37, 3), (249, .iload_n 1, 1), (250, .iaload, 1), (251, .invokevirtual 365, 3), (254, .iastore, 1), (255, .aload_n 0, 1), (256, .getfield 40, 3), (259, .iload_n 1, 1), (260, .aload_n 0, 1), (261, .aload_n 0, 1), (262, .getfield 40, 3), (265, .iload_n 1, 1), (266, .iaload, 1), (267, .invokevirtual 365, 3), (270, .iastore, 1), (271, .aload_n 0, 1), (272, .getfield 43, 3), (275, .iload_n 1, 1), (276, .aload_n 0, 1), (277, .aload_n 0, 1), (278, .getfield 43, 3), (281, .iload_n 1, 1), (282, .iaload, 1), (283, .invokevirtual 365, 3), (286, .iastore, 1), (287, .aload_n 0, 1), (288, .getfield 46, 3), (291, .iload_n 1, 1), (292, .aload_n 0, 1), (293, .aload_n 0, 1), (294, .getfield 46, 3), (297, .iload_n 1, 1), (298, .iaload, 1), (299, .invokevirtual 365, 3), (302, .iastore, 1), (303, .iinc 1 1, 3), (306, .goto (-89), 3), (309, .iconst 0, 1), (310, .istore_n 1, 1), (311, .iload_n 1, 1), (312, .bipush 48, 2), (314, .if_icmp .ge 25, 3), (317, .aload_n 0, 1), (318, .getfield 31, 3), (321, .iload_n 1, 1), (322, .aload_n 0, 1), (323, .aload_n 0, 1), (324, .getfield 31, 3), (327, .iload_n 1, 1), (328, .iaload, 1), (329, .invokevirtual 365, 3), (332, .iastore, 1), (333, .iinc 1 1, 3), (336, .goto (-25), 3), (339, .iconst 0, 1), (340, .istore_n 1, 1), (341, .iload_n 1, 1), (342, .bipush 36, 2), (344, .if_icmp .ge 25, 3), (347, .aload_n 0, 1), (348, .getfield 34, 3), (351, .iload_n 1, 1), (352, .aload_n 0, 1), (353, .aload_n 0, 1), (354, .getfield 34, 3), (357, .iload_n 1, 1), (358, .iaload, 1), (359, .invokevirtual 365, 3), (362, .iastore, 1), (363, .iinc 1 1, 3), (366, .goto (-25), 3), (369, .iconst 0, 1), (370, .istore_n 1, 1), (371, .iload_n 1, 1), (372, .sipush 480, 3), (375, .if_icmp .ge 25, 3), (378, .aload_n 0, 1), (379, .getfield 99, 3), (382, .iload_n 1, 1), (383, .aload_n 0, 1), (384, .aload_n 0, 1), (385, .getfield 99, 3), (388, .iload_n 1, 1), (389, .iaload, 1), (390, .invokevirtual 365, 3), (393, .iastore, 1), (394, .iinc 1 1, 3), (397, .goto (-26), 3), (400, .return_, 1)]
def mq_Mod_keepsThrees : ov_M := (12, ⟨"OneEyeModel", "keepsThrees", "()V"⟩, prog_14_method_81_code, 2, none, mq_Mod_keepsThrees_c)
def mq_Mod_keepsOthers_c : List (Nat × Instr × Nat) := [(0, .iconst 0, 1), (1, .istore_n 1, 1), (2, .iload_n 1, 1), (3, .bipush 108, 2), (5, .if_icmp .ge 25, 3), (8, .aload_n 0, 1), (9, .getfield 115, 3), (12, .iload_n 1, 1), (13, .aload_n 0, 1), (14, .aload_n 0, 1), (15, .getfield 115, 3), (18, .iload_n 1, 1), (19, .iaload, 1), (20, .invokevirtual 365, 3), (23, .iastore, 1), (24, .iinc 1 1, 3), (27, .goto (-25), 3), (30, .iconst 0, 1), (31, .istore_n 1, 1), (32, .iload_n 1, 1), (33, .bipush 9, 2), (35, .if_icmp .ge 41, 3), (38, .aload_n 0, 1), (39, .getfield 121, 3), (42, .iload_n 1, 1), (43, .aload_n 0, 1), (44, .aload_n 0, 1), (45, .getfield 121, 3), (48, .iload_n 1, 1), (49, .iaload, 1), (50, .invokevirtual 365, 3), (53, .iastore, 1), (54, .aload_n 0, 1), (55, .getfield 124, 3), (58, .iload_n 1, 1), (59, .aload_n 0, 1), (60, .aload_n 0, 1), (61, .getfield 124, 3), (64, .iload_n 1, 1), (65, .iaload, 1), (66, .invokevirtual 365, 3), (69, .iastore, 1), (70, .iinc 1 1, 3), (73, .goto (-41), 3), (76, .aload_n 0, 1), (77, .aload_n 0, 1), (78, .aload_n 0, 1), (79, .getfield 341, 3), (82, .invokevirtual 365, 3), (85, .putfield 341, 3), (88, .iconst 0, 1), (89, .istore_n 1, 1), (90, .iload_n 1, 1), (91, .bipush 9, 2), (93, .if_icmp .ge 25, 3), (96, .aload_n 0, 1), (97, .getfield 130, 3), (100, .iload_n 1, 1), (101, .aload_n 0, 1), (102, .aload_n 0, 1), (103, .getfield 130, 3), (106, .iload_n 1, 1), (107, .iaload, 1), (108, .invokevirtual 365, 3), (111, .iastore, 1), (112, .iinc 1 1, 3), (115, .goto (-25), 3), (118, .iconst 0, 1), (119, .istore_n 1, 1), (120, .iload_n 1, 1), (121, .bipush 36, 2), (123, .if_icmp .ge 25, 3), (126, .aload_n 0, 1), (127, .getfield 136, 3), (130, .iload_n 1, 1), (131, .aload_n 0, 1), (132, .aload_n 0, 1), (133, .getfield 136, 3), (136, .iload_n 1, 1), (137, .iaload, 1), (138, .invokevirtual 365, 3), (141, .iastore, 1), (142, .iinc 1 1, 3), (145, .goto (-25), 3), (148, .aload_n 0, 1), (149, .aload_n 0, 1), (150, .aload_n 0, 1), (151, .getfield 49, 3), (154, .invokevirtual 365, 3), (157, .putfield 49, 3), (160, .aload_n 0, 1), (161, .aload_n 0, 1), (162, .aload_n 0, 1), (163, .getfield 266, 3), (166, .invokevirtual 365, 3), (169, .putfield 266, 3), (172, .iconst 0, 1), (173, .istore_n 1, 1), (174, .iload_n 1, 1), (175, .bipush 20, 2), (177, .if_icmp .ge 25, 3), (180, .aload_n 0, 1), (181, .getfield 53, 3), (184, .iload_n 1, 1), (185, .aload_n 0, 1), (186, .aload_n 0, 1), (187, .getfield 53, 3), (190, .iload_n 1, 1), (191, .iaload, 1), (192, .invokevirtual 365, 3), (195, .iastore, 1), (196, .iinc 1 1, 3), (199, .goto (-25), 3), (202, .iconst 0, 1), (203, .istore_n 1, 1), (204, .iload_n 1, 1), (205, .bipush 12, 2), (207, .if_icmp .ge 25, 3), (210, .aload_n 0, 1), (211, .getfield 56, 3), (214, .iload_n 1, 1), (215, .aload_n 0, 1), (216, .aload_n 0, 1), (217, .getfield 56, 3), (220, .iload_n 1, 1), (221, .iaload, 1), (222, .invokevirtual 365, 3), (225, .iastore, 1), (226, .iinc 1 1, 3), (229, .goto (-25), 3), (232, .iconst 0, 1), (233, .istore_n 1, 1), (234, .iload_n 1, 1), (235, .iconst 4, 1), (236, .if_icmp .ge 25, 3), (239, .aload_n 0, 1), (240, .getfield 59, 3), (243, .iload_n 1, 1), (244, .aload_n 0, 1), (245, .aload_n 0, 1), (246, .getfield 59, 3), (249, .iload_n 1, 1), (250, .iaload, 1), (251, .invokevirtual 365, 3), (254, .iastore, 1), (255, .iinc 1 1, 3), (258, .goto (-24), 3), (261, .return_, 1)]
def mq_Mod_keepsOthers : ov_M := (12, ⟨"OneEyeModel", "keepsOthers", "()V"⟩, prog_14_method_82_code, 2, none, mq_Mod_keepsOthers_c)
def mq_Mod_look_c : List (Nat × Instr × Nat) := [(0, .aload_n 0, 1), (1, .iconst 0, 1), (2, .putfield 145, 3), (5, .iload_n 1, 1), (6, .ifCond .ne 8, 3), (9, .aload_n 0, 1), (10, .getfield 153, 3), (13, .ireturn, 1), (14, .iload_n 1, 1), (15, .iconst 1, 1), (16, .if_icmp .ne 8, 3), (19, .aload_n 0, 1), (20, .getfield 252, 3), (23, .ireturn, 1), (24, .iload_n 1, 1), (25, .iconst 2, 1), (26, .if_icmp .ne 8, 3), (29, .aload_n 0, 1), (30, .getfield 249, 3), (33, .ireturn, 1), (34, .iload_n 1, 1), (35, .iconst 3, 1), (36, .if_icmp .ne 8, 3), (39, .aload_n 0, 1), (40, .getfield 341, 3), (43, .ireturn, 1), (44, .iload_n 1, 1), (45, .iconst 4, 1), (46, .if_icmp .ne 8, 3), (49, .aload_n 0, 1), (50, .getfield 148, 3), (53, .ireturn, 1), (54, .iload_n 1, 1), (55, .iconst 5, 1), (56, .if_icmp .ne 8, 3), (59, .aload_n 0, 1), (60, .getfield 49, 3), (63, .ireturn, 1), (64, .iload_n 1, 1), (65, .bipush 6, 2), (67, .if_icmp .ne 8, 3), (70, .aload_n 0, 1), (71, .getfield 266, 3), (74, .ireturn, 1), (75, .aload_n 0, 1), (76, .iload_n 1, 1), (77, .bipush 10, 2), (79, .bipush 19, 2), (81, .invokevirtual 156, 3), (84, .ifCond .eq 15, 3), (87, .aload_n 0, 1), (88, .getfield 25, 3), (91, .iload_n 1, 1), (92, .bipush 10, 2), (94, .isub, 1), (95, .iaload, 1), (96, .goto 4, 3), (99, .iconst (-1), 1), (100, .ireturn, 1)]
def mq_Mod_look : ov_M := (12, ⟨"OneEyeModel", "look", "(I)I"⟩, prog_14_method_84_code, 2, (some .int), mq_Mod_look_c)
def mq_Law_law_c : List (Nat × Instr × Nat) := [(0, .new 7, 3), (3, .dup, 1), (4, .invokespecial 9, 3), (7, .astore_n 1, 1), (8, .new 10, 3), (11, .dup, 1), (12, .invokespecial 12, 3), (15, .astore_n 2, 1), (16, .iconst 0, 1), (17, .istore_n 3, 1), (18, .iload_n 3, 1), (19, .aload_n 0, 1), (20, .arraylength, 1), (21, .bipush 6, 2), (23, .isub, 1), (24, .if_icmp .gt 1174, 3), (27, .aload_n 0, 1), (28, .iload_n 3, 1), (29, .iaload, 1), (30, .bipush 31, 2), (32, .iand, 1), (33, .tableswitch 1159 0 29 #[135, 158, 191, 240, 299, 362, 385, 408, 431, 454, 487, 520, 563, 586, 609, 642, 675, 708, 761, 804, 857, 900, 943, 956, 969, 992, 1015, 1084, 1097, 1136], 135), (168, .aload_n 1, 1), (169, .aload_n 0, 1), (170, .iload_n 3, 1), (171, .iconst 1, 1), (172, .iadd, 1), (173, .iaload, 1), (174, .invokevirtual 13, 3), (177, .aload_n 2, 1), (178, .aload_n 0, 1), (179, .iload_n 3, 1), (180, .iconst 1, 1), (181, .iadd, 1), (182, .iaload, 1), (183, .invokevirtual 17, 3), (186, .if_icmp .eq 1006, 3), (189, .iconst 0, 1), (190, .ireturn, 1), (191, .aload_n 1, 1), (192, .aload_n 0, 1), (193, .iload_n 3, 1), (194, .iconst 1, 1), (195, .iadd, 1), (196, .iaload, 1), (197, .aload_n 0, 1), (198, .iload_n 3, 1), (199, .iconst 2, 1), (200, .iadd, 1), (201, .iaload, 1), (202, .invokevirtual 18, 3), (205, .aload_n 2, 1), (206, .aload_n 0, 1), (207, .iload_n 3, 1), (208, .iconst 1, 1), (209, .iadd, 1), (210, .iaload, 1), (211, .aload_n 0, 1), (212, .iload_n 3, 1), (213, .iconst 2, 1), (214, .iadd, 1), (215, .iaload, 1), (216, .invokevirtual 22, 3), (219, .if_icmp .eq 973, 3), (222, .iconst 0, 1), (223, .ireturn, 1), (224, .aload_n 1, 1), (225, .aload_n 0, 1), (226, .iload_n 3, 1), (227, .iconst 1, 1), (228, .iadd, 1), (229, .iaload, 1), (230, .aload_n 0, 1), (231, .iload_n 3, 1), (232, .iconst 2, 1), (233, .iadd, 1), (234, .iaload, 1), (235, .ifCond .eq 7, 3), (238, .iconst 1, 1), (239, .goto 4, 3), (242, .iconst 0, 1), (243, .invokevirtual 23, 3), (246, .aload_n 2, 1), (247, .aload_n 0, 1), (248, .iload_n 3, 1), (249, .iconst 1, 1), (250, .iadd, 1), (251, .iaload, 1), (252, .aload_n 0, 1), (253, .iload_n 3, 1), (254, .iconst 2, 1), (255, .iadd, 1), (256, .iaload, 1), (257, .ifCond .eq 7, 3), (260, .iconst 1, 1), (261, .goto 4, 3), (264, .iconst 0, 1), (265, .invokevirtual 27, 3), (268, .if_icmp .eq 924, 3), (271, .iconst 0, 1), (272, .ireturn, 1), (273, .aload_n 1, 1), (274, .aload_n 0, 1), (275, .iload_n 3, 1), (276, .iconst 1, 1), (277, .iadd, 1), (278, .iaload, 1), (279, .aload_n 0, 1), (280, .iload_n 3, 1), (281, .iconst 2, 1), (282, .iadd, 1), (283, .iaload, 1), (284, .aload_n 0, 1), (285, .iload_n 3, 1), (286, .iconst 3, 1), (287, .iadd, 1), (288, .iaload, 1), (289, .ifCond .eq 7, 3), (292, .iconst 1, 1), (293, .goto 4, 3), (296, .iconst 0, 1), (297, .invokevirtual 28, 3), (300, .aload_n 2, 1), (301, .aload_n 0, 1), (302, .iload_n 3, 1), (303, .iconst 1, 1), (304, .iadd, 1), (305, .iaload, 1), (306, .aload_n 0, 1), (307, .iload_n 3, 1), (308, .iconst 2, 1), (309, .iadd, 1), (310, .iaload, 1), (311, .aload_n 0, 1), (312, .iload_n 3, 1), (313, .iconst 3, 1), (314, .iadd, 1), (315, .iaload, 1), (316, .ifCond .eq 7, 3), (319, .iconst 1, 1), (320, .goto 4, 3), (323, .iconst 0, 1), (324, .invokevirtual 32, 3), (327, .if_icmp .eq 865, 3), (330, .iconst 0, 1), (331, .ireturn, 1), (332, .aload_n 1, 1), (333, .aload_n 0, 1), (334, .iload_n 3, 1), (335, .iconst 1, 1), (336, .iadd, 1), (337, .iaload, 1), (338, .aload_n 0, 1), (339, .iload_n 3, 1), (340, .iconst 2, 1), (341, .iadd, 1), (342, .iaload, 1), (343, .aload_n 0, 1), (344, .iload_n 3, 1), (345, .iconst 3, 1), (346, .iadd, 1), (347, .iaload, 1), (348, .aload_n 0, 1), (349, .iload_n 3, 1), (350, .iconst 4, 1), (351, .iadd, 1), (352, .iaload, 1), (353, .aload_n 0, 1), (354, .iload_n 3, 1), (355, .iconst 5, 1), (356, .iadd, 1), (357, .iaload, 1), (358, .invokevirtual 33, 3), (361, .aload_n 2, 1), (362, .aload_n 0, 1), (363, .iload_n 3, 1), (364, .iconst 1, 1), (365, .iadd, 1), (366, .iaload, 1), (367, .aload_n 0, 1), (368, .iload_n 3, 1), (369, .iconst 2, 1), (370, .iadd, 1), (371, .iaload, 1), (372, .aload_n 0, 1), (373, .iload_n 3, 1), (374, .iconst 3, 1), (375, .iadd, 1), (376, .iaload, 1), (377, .aload_n 0, 1), (378, .iload_n 3, 1), (379, .iconst 4, 1), (380, .iadd, 1), (381, .iaload, 1), (382, .aload_n 0, 1), (383, .iload_n 3, 1), (384, .iconst 5, 1), (385, .iadd, 1), (386, .iaload, 1), (387, .invokevirtual 37, 3), (390, .if_icmp .eq 802, 3), (393, .iconst 0, 1), (394, .ireturn, 1), (395, .aload_n 1, 1), (396, .aload_n 0, 1), (397, .iload_n 3, 1), (398, .iconst 1, 1), (399, .iadd, 1), (400, .iaload, 1), (401, .invokevirtual 38, 3), (404, .aload_n 2, 1), (405, .aload_n 0, 1), (406, .iload_n 3, 1), (407, .iconst 1, 1), (408, .iadd, 1), (409, .iaload, 1), (410, .invokevirtual 42, 3), (413, .if_icmp .eq 779, 3), (416, .iconst 0, 1), (417, .ireturn, 1), (418, .aload_n 1, 1), (419, .aload_n 0, 1), (420, .iload_n 3, 1), (421, .iconst 1, 1), (422, .iadd, 1), (423, .iaload, 1), (424, .invokevirtual 43, 3), (427, .aload_n 2, 1), (428, .aload_n 0, 1), (429, .iload_n 3, 1), (430, .iconst 1, 1), (431, .iadd, 1), (432, .iaload, 1), (433, .invokevirtual 46, 3), (436, .if_icmp .eq 756, 3), (439, .iconst 0, 1), (440, .ireturn, 1), (441, .aload_n 1, 1), (442, .aload_n 0, 1), (443, .iload_n 3, 1), (444, .iconst 1, 1), (445, .iadd, 1), (446, .iaload, 1), (447, .invokevirtual 47, 3), (450, .aload_n 2, 1), (451, .aload_n 0, 1), (452, .iload_n 3, 1), (453, .iconst 1, 1), (454, .iadd, 1), (455, .iaload, 1), (456, .invokevirtual 50, 3), (459, .if_icmp .eq 733, 3), (462, .iconst 0, 1), (463, .ireturn, 1), (464, .aload_n 1, 1), (465, .aload_n 0, 1), (466, .iload_n 3, 1), (467, .iconst 1, 1), (468, .iadd, 1), (469, .iaload, 1), (470, .invokevirtual 51, 3), (473, .aload_n 2, 1), (474, .aload_n 0, 1), (475, .iload_n 3, 1), (476, .iconst 1, 1), (477, .iadd, 1), (478, .iaload, 1), (479, .invokevirtual 54, 3), (482, .if_icmp .eq 710, 3), (485, .iconst 0, 1), (486, .ireturn, 1), (487, .aload_n 1, 1), (488, .aload_n 0, 1), (489, .iload_n 3, 1), (490, .iconst 1, 1), (491, .iadd, 1), (492, .iaload, 1), (493, .aload_n 0, 1), (494, .iload_n 3, 1), (495, .iconst 2, 1), (496, .iadd, 1), (497, .iaload, 1), (498, .invokevirtual 55, 3), (501, .aload_n 2, 1), (502, .aload_n 0, 1), (503, .iload_n 3, 1), (504, .iconst 1, 1), (505, .iadd, 1), (506, .iaload, 1), (507, .aload_n 0, 1), (508, .iload_n 3, 1), (509, .iconst 2, 1), (510, .iadd, 1), (511, .iaload, 1), (512, .invokevirtual 58, 3), (515, .if_icmp .eq 677, 3), (518, .iconst 0, 1), (519, .ireturn, 1), (520, .aload_n 1, 1), (521, .aload_n 0, 1), (522, .iload_n 3, 1), (523, .iconst 1, 1), (524, .iadd, 1), (525, .iaload, 1), (526, .aload_n 0, 1), (527, .iload_n 3, 1), (528, .iconst 2, 1), (529, .iadd, 1), (530, .iaload, 1), (531, .invokevirtual 59, 3), (534, .aload_n 2, 1), (535, .aload_n 0, 1), (536, .iload_n 3, 1), (537, .iconst 1, 1), (538, .iadd, 1), (539, .iaload, 1), (540, .aload_n 0, 1), (541, .iload_n 3, 1), (542, .iconst 2, 1), (543, .iadd, 1), (544, .iaload, 1), (545, .invokevirtual 62, 3), (548, .if_icmp .eq 644, 3), (551, .iconst 0, 1), (552, .ireturn, 1), (553, .aload_n 1, 1), (554, .aload_n 0, 1), (555, .iload_n 3, 1), (556, .iconst 1, 1), (557, .iadd, 1), (558, .iaload, 1), (559, .aload_n 0, 1), (560, .iload_n 3, 1), (561, .iconst 2, 1), (562, .iadd, 1), (563, .iaload, 1), (564, .aload_n 0, 1), (565, .iload_n 3, 1), (566, .iconst 3, 1), (567, .iadd, 1), (568, .iaload, 1), (569, .invokevirtual 63, 3), (572, .aload_n 2, 1), (573, .aload_n 0, 1), (574, .iload_n 3, 1), (575, .iconst 1, 1), (576, .iadd, 1), (577, .iaload, 1), (578, .aload_n 0, 1), (579, .iload_n 3, 1), (580, .iconst 2, 1), (581, .iadd, 1), (582, .iaload, 1), (583, .aload_n 0, 1), (584, .iload_n 3, 1), (585, .iconst 3, 1), (586, .iadd, 1), (587, .iaload, 1), (588, .invokevirtual 67, 3), (591, .if_icmp .eq 601, 3), (594, .iconst 0, 1), (595, .ireturn, 1), (596, .aload_n 1, 1), (597, .aload_n 0, 1), (598, .iload_n 3, 1), (599, .iconst 1, 1), (600, .iadd, 1), (601, .iaload, 1), (602, .invokevirtual 68, 3), (605, .aload_n 2, 1), (606, .aload_n 0, 1), (607, .iload_n 3, 1), (608, .iconst 1, 1), (609, .iadd, 1), (610, .iaload, 1), (611, .invokevirtual 71, 3), (614, .if_icmp .eq 578, 3), (617, .iconst 0, 1), (618, .ireturn, 1), (619, .aload_n 1, 1), (620, .aload_n 0, 1), (621, .iload_n 3, 1), (622, .iconst 1, 1), (623, .iadd, 1), (624, .iaload, 1), (625, .invokevirtual 72, 3), (628, .aload_n 2, 1), (629, .aload_n 0, 1), (630, .iload_n 3, 1), (631, .iconst 1, 1), (632, .iadd, 1), (633, .iaload, 1), (634, .invokevirtual 75, 3), (637, .if_icmp .eq 555, 3), (640, .iconst 0, 1), (641, .ireturn, 1), (642, .aload_n 1, 1), (643, .aload_n 0, 1), (644, .iload_n 3, 1), (645, .iconst 1, 1), (646, .iadd, 1), (647, .iaload, 1), (648, .aload_n 0, 1), (649, .iload_n 3, 1), (650, .iconst 2, 1), (651, .iadd, 1), (652, .iaload, 1), (653, .invokevirtual 76, 3), (656, .aload_n 2, 1), (657, .aload_n 0, 1), (658, .iload_n 3, 1), (659, .iconst 1, 1), (660, .iadd, 1), (661, .iaload, 1), (662, .aload_n 0, 1), (663, .iload_n 3, 1), (664, .iconst 2, 1), (665, .iadd, 1), (666, .iaload, 1), (667, .invokevirtual 79, 3), (670, .if_icmp .eq 522, 3), (673, .iconst 0, 1), (674, .ireturn, 1), (675, .aload_n 1, 1), (676, .aload_n 0, 1), (677, .iload_n 3, 1), (678, .iconst 1, 1), (679, .iadd, 1), (680, .iaload, 1), (681, .aload_n 0, 1), (682, .iload_n 3, 1), (683, .iconst 2, 1), (684, .iadd, 1), (685, .iaload, 1), (686, .invokevirtual 80, 3), (689, .aload_n 2, 1), (690, .aload_n 0, 1), (691, .iload_n 3, 1), (692, .iconst 1, 1), (693, .iadd, 1), (694, .iaload, 1), (695, .aload_n 0, 1), (696, .iload_n 3, 1), (697, .iconst 2, 1), (698, .iadd, 1), (699, .iaload, 1), (700, .invokevirtual 83, 3), (703, .if_icmp .eq 489, 3), (706, .iconst 0, 1), (707, .ireturn, 1), (708, .aload_n 1, 1), (709, .aload_n 0, 1), (710, .iload_n 3, 1), (711, .iconst 1, 1), (712, .iadd, 1), (713, .iaload, 1), (714, .aload_n 0, 1), (715, .iload_n 3, 1), (716, .iconst 2, 1), (717, .iadd, 1), (718, .iaload, 1), (719, .invokevirtual 84, 3), (722, .aload_n 2, 1), (723, .aload_n 0, 1), (724, .iload_n 3, 1), (725, .iconst 1, 1), (726, .iadd, 1), (727, .iaload, 1), (728, .aload_n 0, 1), (729, .iload_n 3, 1), (730, .iconst 2, 1), (731, .iadd, 1), (732, .iaload, 1), (733, .invokevirtual 87, 3), (736, .if_icmp .eq 456, 3), (739, .iconst 0, 1), (740, .ireturn, 1), (741, .aload_n 1, 1), (742, .aload_n 0, 1), (743, .iload_n 3, 1), (744, .iconst 1, 1), (745, .iadd, 1), (746, .iaload, 1), (747, .aload_n 0, 1), (748, .iload_n 3, 1), (749, .iconst 2, 1), (750, .iadd, 1), (751, .iaload, 1), (752, .aload_n 0, 1), (753, .iload_n 3, 1), (754, .iconst 3, 1), (755, .iadd, 1), (756, .iaload, 1), (757, .aload_n 0, 1), (758, .iload_n 3, 1), (759, .iconst 4, 1), (760, .iadd, 1), (761, .iaload, 1), (762, .invokevirtual 88, 3), (765, .aload_n 2, 1), (766, .aload_n 0, 1), (767, .iload_n 3, 1), (768, .iconst 1, 1), (769, .iadd, 1), (770, .iaload, 1), (771, .aload_n 0, 1), (772, .iload_n 3, 1), (773, .iconst 2, 1), (774, .iadd, 1), (775, .iaload, 1), (776, .aload_n 0, 1), (777, .iload_n 3, 1), (778, .iconst 3, 1), (779, .iadd, 1), (780, .iaload, 1), (781, .aload_n 0, 1), (782, .iload_n 3, 1), (783, .iconst 4, 1), (784, .iadd, 1), (785, .iaload, 1), (786, .invokevirtual 92, 3), (789, .if_icmp .eq 403, 3), (792, .iconst 0, 1), (793, .ireturn, 1), (794, .aload_n 1, 1), (795, .aload_n 0, 1), (796, .iload_n 3, 1), (797, .iconst 1, 1), (798, .iadd, 1), (799, .iaload, 1), (800, .aload_n 0, 1), (801, .iload_n 3, 1), (802, .iconst 2, 1), (803, .iadd, 1), (804, .iaload, 1), (805, .aload_n 0, 1), (806, .iload_n 3, 1), (807, .iconst 3, 1), (808, .iadd, 1), (809, .iaload, 1), (810, .invokevirtual 93, 3), (813, .aload_n 2, 1), (814, .aload_n 0, 1), (815, .iload_n 3, 1), (816, .iconst 1, 1), (817, .iadd, 1), (818, .iaload, 1), (819, .aload_n 0, 1), (820, .iload_n 3, 1), (821, .iconst 2, 1), (822, .iadd, 1), (823, .iaload, 1), (824, .aload_n 0, 1), (825, .iload_n 3, 1), (826, .iconst 3, 1), (827, .iadd, 1), (828, .iaload, 1), (829, .invokevirtual 96, 3), (832, .if_icmp .eq 360, 3), (835, .iconst 0, 1), (836, .ireturn, 1), (837, .aload_n 1, 1), (838, .aload_n 0, 1), (839, .iload_n 3, 1), (840, .iconst 1, 1), (841, .iadd, 1), (842, .iaload, 1), (843, .aload_n 0, 1), (844, .iload_n 3, 1), (845, .iconst 2, 1), (846, .iadd, 1), (847, .iaload, 1), (848, .aload_n 0, 1), (849, .iload_n 3, 1), (850, .iconst 3, 1), (851, .iadd, 1), (852, .iaload, 1), (853, .aload_n 0, 1), (854, .iload_n 3, 1), (855, .iconst 4, 1), (856, .iadd, 1), (857, .iaload, 1), (858, .invokevirtual 97, 3), (861, .aload_n 2, 1), (862, .aload_n 0, 1), (863, .iload_n 3, 1), (864, .iconst 1, 1), (865, .iadd, 1), (866, .iaload, 1), (867, .aload_n 0, 1), (868, .iload_n 3, 1), (869, .iconst 2, 1), (870, .iadd, 1), (871, .iaload, 1), (872, .aload_n 0, 1), (873, .iload_n 3, 1), (874, .iconst 3, 1), (875, .iadd, 1), (876, .iaload, 1), (877, .aload_n 0, 1), (878, .iload_n 3, 1), (879, .iconst 4, 1), (880, .iadd, 1), (881, .iaload, 1), (882, .invokevirtual 101, 3), (885, .if_icmp .eq 307, 3), (888, .iconst 0, 1), (889, .ireturn, 1), (890, .aload_n 1, 1), (891, .aload_n 0, 1), (892, .iload_n 3, 1), (893, .iconst 1, 1), (894, .iadd, 1), (895, .iaload, 1), (896, .aload_n 0, 1), (897, .iload_n 3, 1), (898, .iconst 2, 1), (899, .iadd, 1), (900, .iaload, 1), (901, .aload_n 0, 1), (902, .iload_n 3, 1), (903, .iconst 3, 1), (904, .iadd, 1), (905, .iaload, 1), (906, .invokevirtual 102, 3), (909, .aload_n 2, 1), (910, .aload_n 0, 1), (911, .iload_n 3, 1), (912, .iconst 1, 1), (913, .iadd, 1), (914, .iaload, 1), (915, .aload_n 0, 1), (916, .iload_n 3, 1), (917, .iconst 2, 1), (918, .iadd, 1), (919, .iaload, 1), (920, .aload_n 0, 1), (921, .iload_n 3, 1), (922, .iconst 3, 1), (923, .iadd, 1), (924, .iaload, 1), (925, .invokevirtual 105, 3), (928, .if_icmp .eq 264, 3), (931, .iconst 0, 1), (932, .ireturn, 1), (933, .aload_n 1, 1), (934, .aload_n 0, 1), (935, .iload_n 3, 1), (936, .iconst 1, 1), (937, .iadd, 1), (938, .iaload, 1), (939, .aload_n 0, 1), (940, .iload_n 3, 1), (941, .iconst 2, 1), (942, .iadd, 1), (943, .iaload, 1), (944, .aload_n 0, 1), (945, .iload_n 3, 1), (946, .iconst 3, 1), (947, .iadd, 1), (948, .iaload, 1), (949, .invokevirtual 106, 3), (952, .aload_n 2, 1), (953, .aload_n 0, 1), (954, .iload_n 3, 1), (955, .iconst 1, 1), (956, .iadd, 1), (957, .iaload, 1), (958, .aload_n 0, 1), (959, .iload_n 3, 1), (960, .iconst 2, 1), (961, .iadd, 1), (962, .iaload, 1), (963, .aload_n 0, 1), (964, .iload_n 3, 1), (965, .iconst 3, 1), (966, .iadd, 1), (967, .iaload, 1), (968, .invokevirtual 110, 3), (971, .if_icmp .eq 221, 3), (974, .iconst 0, 1), (975, .ireturn, 1), (976, .aload_n 1, 1), (977, .invokevirtual 111, 3), (980, .aload_n 2, 1), (981, .invokevirtual 115, 3), (984, .if_icmp .eq 208, 3), (987, .iconst 0, 1), (988, .ireturn, 1), (989, .aload_n 1, 1), (990, .invokevirtual 116, 3), (993, .aload_n 2, 1), (994, .invokevirtual 119, 3), (997, .if_icmp .eq 195, 3), (1000, .iconst 0, 1), (1001, .ireturn, 1), (1002, .aload_n 1, 1), (1003, .aload_n 0, 1), (1004, .iload_n 3, 1), (1005, .iconst 1, 1), (1006, .iadd, 1), (1007, .iaload, 1), (1008, .invokevirtual 120, 3), (1011, .aload_n 2, 1), (1012, .aload_n 0, 1), (1013, .iload_n 3, 1), (1014, .iconst 1, 1), (1015, .iadd, 1), (1016, .iaload, 1), (1017, .invokevirtual 123, 3), (1020, .if_icmp .eq 172, 3), (1023, .iconst 0, 1), (1024, .ireturn, 1), (1025, .aload_n 1, 1), (1026, .aload_n 0, 1), (1027, .iload_n 3, 1), (1028, .iconst 1, 1), (1029, .iadd, 1), (1030, .iaload, 1), (1031, .invokevirtual 124, 3), (1034, .aload_n 2, 1), (1035, .aload_n 0, 1), (1036, .iload_n 3, 1), (1037, .iconst 1, 1), (1038, .iadd, 1), (1039, .iaload, 1), (1040, .invokevirtual 127, 3), (1043, .if_icmp .eq 149, 3), (1046, .iconst 0, 1), (1047, .ireturn, 1), (1048, .aload_n 1, 1), (1049, .aload_n 0, 1), (1050, .iload_n 3, 1), (1051, .iconst 1, 1), (1052, .iadd, 1), (1053, .iaload, 1), (1054, .aload_n 0, 1), (1055, .iload_n 3, 1), (1056, .iconst 2, 1), (1057, .iadd, 1), (1058, .iaload, 1), (1059, .aload_n 0, 1), (1060, .iload_n 3, 1), (1061, .iconst 3, 1), (1062, .iadd, 1), (1063, .iaload, 1), (1064, .aload_n 0, 1), (1065, .iload_n 3, 1), (1066, .iconst 4, 1), (1067, .iadd, 1), (1068, .iaload, 1), (1069, .ifCond .eq 7, 3), (1072, .iconst 1, 1), (1073, .goto 4, 3), (1076, .iconst 0, 1), (1077, .invokevirtual 128, 3), (1080, .aload_n 2, 1), (1081, .aload_n 0, 1), (1082, .iload_n 3, 1), (1083, .iconst 1, 1), (1084, .iadd, 1), (1085, .iaload, 1), (1086, .aload_n 0, 1), (1087, .iload_n 3, 1), (1088, .iconst 2, 1), (1089, .iadd, 1), (1090, .iaload, 1), (1091, .aload_n 0, 1), (1092, .iload_n 3, 1), (1093, .iconst 3, 1), (1094, .iadd, 1), (1095, .iaload, 1), (1096, .aload_n 0, 1), (1097, .iload_n 3, 1), (1098, .iconst 4, 1), (1099, .iadd, 1), (1100, .iaload, 1), (1101, .ifCond .eq 7, 3), (1104, .iconst 1, 1), (1105, .goto 4, 3), (1108, .iconst 0, 1), (1109, .invokevirtual 132, 3), (1112, .if_icmp .eq 80, 3), (1115, .iconst 0, 1), (1116, .ireturn, 1), (1117, .aload_n 1, 1), (1118, .invokevirtual 133, 3), (1121, .aload_n 2, 1), (1122, .invokevirtual 136, 3), (1125, .if_icmp .eq 67, 3), (1128, .iconst 0, 1), (1129, .ireturn, 1), (1130, .aload_n 1, 1), (1131, .aload_n 0, 1), (1132, .iload_n 3, 1), (1133, .iconst 1, 1), (1134, .iadd, 1), (1135, .iaload, 1), (1136, .ifCond .eq 7, 3), (1139, .iconst 1, 1), (1140, .goto 4, 3), (1143, .iconst 0, 1), (1144, .invokevirtual 137, 3), (1147, .aload_n 2, 1), (1148, .aload_n 0, 1), (1149, .iload_n 3, 1), (1150, .iconst 1, 1), (1151, .iadd, 1), (1152, .iaload, 1), (1153, .ifCond .eq 7, 3), (1156, .iconst 1, 1), (1157, .goto 4, 3), (1160, .iconst 0, 1), (1161, .invokevirtual 141, 3), (1164, .if_icmp .eq 28, 3), (1167, .iconst 0, 1), (1168, .ireturn, 1), (1169, .aload_n 1, 1), (1170, .aload_n 0, 1), (1171, .iload_n 3, 1), (1172, .iconst 1, 1), (1173, .iadd, 1), (1174, .iaload, 1), (1175, .invokevirtual 142, 3), (1178, .aload_n 2, 1), (1179, .aload_n 0, 1), (1180, .iload_n 3, 1), (1181, .iconst 1, 1), (1182, .iadd, 1), (1183, .iaload, 1), (1184, .invokevirtual 145, 3), (1187, .if_icmp .eq 5, 3), (1190, .iconst 0, 1), (1191, .ireturn, 1), (1192, .iinc 3 6, 3), (1195, .goto (-1177), 3), (1198, .iconst 1, 1), (1199, .ireturn, 1)]
def mq_Law_law : ov_M := (13, ⟨"OneEyeLaw", "law", "([I)Z"⟩, code, 4, (some .boolean), mq_Law_law_c)
def mq_Integer_bitCount_c : List (Nat × Instr × Nat) := [(0, .iload_n 0, 1), (1, .iload_n 0, 1), (2, .iconst 1, 1), (3, .iushr, 1), (4, .ldc_w 265, 3), (7, .iand, 1), (8, .isub, 1), (9, .istore_n 0, 1), (10, .iload_n 0, 1), (11, .ldc_w 266, 3), (14, .iand, 1), (15, .iload_n 0, 1), (16, .iconst 2, 1), (17, .iushr, 1), (18, .ldc_w 266, 3), (21, .iand, 1), (22, .iadd, 1), (23, .istore_n 0, 1), (24, .iload_n 0, 1), (25, .iload_n 0, 1), (26, .iconst 4, 1), (27, .iushr, 1), (28, .iadd, 1), (29, .ldc_w 267, 3), (32, .iand, 1), (33, .istore_n 0, 1), (34, .iload_n 0, 1), (35, .iload_n 0, 1), (36, .bipush 8, 2), (38, .iushr, 1), (39, .iadd, 1), (40, .istore_n 0, 1), (41, .iload_n 0, 1), (42, .iload_n 0, 1), (43, .bipush 16, 2), (45, .iushr, 1), (46, .iadd, 1), (47, .istore_n 0, 1), (48, .iload_n 0, 1), (49, .bipush 63, 2), (51, .iand, 1), (52, .ireturn, 1)]
def mq_Integer_bitCount : ov_M := (14, ⟨"java/lang/Integer", "bitCount", "(I)I"⟩, prog_15_method_49_code, 1, (some .int), mq_Integer_bitCount_c)
def mq_Arrays_fillI_c : List (Nat × Instr × Nat) := [(0, .iconst 0, 1), (1, .istore_n 2, 1), (2, .aload_n 0, 1), (3, .arraylength, 1), (4, .istore_n 3, 1), (5, .iload_n 2, 1), (6, .iload_n 3, 1), (7, .if_icmp .ge 13, 3), (10, .aload_n 0, 1), (11, .iload_n 2, 1), (12, .iload_n 1, 1), (13, .iastore, 1), (14, .iinc 2 1, 3), (17, .goto (-12), 3), (20, .return_, 1)]
def mq_Arrays_fillI : ov_M := (16, ⟨"java/util/Arrays", "fill", "([II)V"⟩, prog_21_method_103_code, 4, none, mq_Arrays_fillI_c)
def mq_Arrays_fillJ_c : List (Nat × Instr × Nat) := [(0, .iconst 0, 1), (1, .istore_n 3, 1), (2, .aload_n 0, 1), (3, .arraylength, 1), (4, .istore 4, 2), (6, .iload_n 3, 1), (7, .iload 4, 2), (9, .if_icmp .ge 13, 3), (12, .aload_n 0, 1), (13, .iload_n 3, 1), (14, .lload_n 1, 1), (15, .lastore, 1), (16, .iinc 3 1, 3), (19, .goto (-13), 3), (22, .return_, 1)]
def mq_Arrays_fillJ : ov_M := (16, ⟨"java/util/Arrays", "fill", "([JJ)V"⟩, prog_21_method_101_code, 5, none, mq_Arrays_fillJ_c)
end
section
def ov_id (i : Nat) : Nat := i
/-- a cell's shape by its region: an object (class, its fields: 0 int, 1 boolean, 2 a final reference, 3 a reference; the region it shows to, the index there), or an array (0 int, 1 char, 2 long, 3 Three, 4 Person, 10 the script, 11 SETS_WITH; its length; for references region and index) -/
abbrev ov_Sh : Type := (Nat × List (Nat × Nat × (Nat → Nat))) ⊕ (Nat × Nat × Nat × (Nat → Nat → Nat))
def ov_s0 : ov_Sh := .inl (11, [(2, 1, (fun _ => 0)), (3, 1, (fun _ => 1)), (2, 9, (fun _ => 0)), (2, 10, (fun _ => 0)), (2, 11, (fun _ => 0)), (2, 12, (fun _ => 0)), (2, 13, (fun _ => 0))])
def ov_s1 : ov_Sh := .inl (10, [(2, 2, ov_id), (2, 3, ov_id), (0, 0, ov_id), (2, 20, ov_id), (2, 4, ov_id), (2, 5, ov_id), (2, 21, ov_id), (0, 0, ov_id), (0, 0, ov_id), (0, 0, ov_id), (0, 0, ov_id)])
def ov_s2 : ov_Sh := .inr (3, 4, 6, fun i j => 4 * i + j)
def ov_s3 : ov_Sh := .inr (4, 12, 7, fun i j => 12 * i + j)
def ov_s4 : ov_Sh := .inl (0, [(2, 22, ov_id), (2, 23, ov_id), (2, 24, ov_id), (2, 25, ov_id), (2, 26, ov_id), (0, 0, ov_id), (2, 27, ov_id), (2, 28, ov_id)])
def ov_s5 : ov_Sh := .inl (6, [(2, 29, ov_id), (2, 30, ov_id), (2, 31, ov_id), (2, 32, ov_id), (0, 0, ov_id), (2, 33, ov_id)])
def ov_s6 : ov_Sh := .inl (8, [(0, 0, ov_id), (0, 0, ov_id), (0, 0, ov_id), (0, 0, ov_id), (0, 0, ov_id), (2, 34, ov_id), (2, 8, ov_id), (0, 0, ov_id), (0, 0, ov_id), (0, 0, ov_id), (0, 0, ov_id), (0, 0, ov_id)])
def ov_s7 : ov_Sh := .inl (3, [(2, 35, ov_id), (2, 36, ov_id), (2, 37, ov_id), (2, 38, ov_id), (2, 39, ov_id), (2, 40, ov_id), (0, 0, ov_id), (0, 0, ov_id)])
def ov_s8 : ov_Sh := .inl (4, [(2, 41, ov_id), (2, 42, ov_id), (2, 43, ov_id), (2, 44, ov_id), (0, 0, ov_id)])
def ov_s9 : ov_Sh := .inl (5, [(2, 45, ov_id), (0, 0, ov_id), (2, 8, (fun _ => 8)), (0, 0, ov_id), (0, 0, ov_id), (2, 46, ov_id), (2, 47, ov_id), (2, 48, ov_id), (0, 0, ov_id), (0, 0, ov_id)])
def ov_s10 : ov_Sh := .inl (7, [(2, 49, ov_id), (2, 50, ov_id), (2, 51, ov_id)])
def ov_s11 : ov_Sh := .inl (9, [(2, 52, ov_id), (0, 0, ov_id), (2, 53, ov_id)])
def ov_s12 : ov_Sh := .inl (2, [(2, 54, ov_id)])
def ov_s13 : ov_Sh := .inl (1, [(2, 55, ov_id), (0, 0, ov_id), (2, 56, ov_id), (2, 57, ov_id)])
def ov_s14 : ov_Sh := .inl (12, [(0, 0, ov_id), (0, 0, ov_id), (0, 0, ov_id), (2, 58, ov_id), (2, 59, ov_id), (2, 60, ov_id), (2, 61, ov_id), (2, 62, ov_id), (2, 63, ov_id), (2, 64, ov_id), (2, 65, ov_id), (2, 66, ov_id), (2, 67, ov_id), (2, 68, ov_id), (2, 69, ov_id), (2, 70, ov_id), (0, 0, ov_id), (0, 0, ov_id), (0, 0, ov_id), (2, 71, ov_id), (2, 72, ov_id), (2, 73, ov_id), (0, 0, ov_id), (2, 74, ov_id), (2, 75, ov_id), (2, 76, ov_id), (2, 77, ov_id), (2, 78, ov_id), (2, 79, ov_id), (2, 80, ov_id), (2, 81, ov_id), (2, 82, ov_id), (2, 83, ov_id), (2, 84, ov_id), (0, 0, ov_id), (0, 0, ov_id), (0, 0, ov_id), (0, 0, ov_id), (0, 0, ov_id), (0, 0, ov_id), (0, 0, ov_id), (0, 0, ov_id), (0, 0, ov_id), (2, 85, ov_id), (2, 86, ov_id), (2, 87, ov_id), (2, 88, ov_id), (1, 0, ov_id), (2, 89, ov_id), (0, 0, ov_id), (2, 90, ov_id), (2, 91, ov_id), (2, 92, ov_id), (2, 93, ov_id), (2, 94, ov_id), (0, 0, ov_id), (2, 95, ov_id), (2, 96, ov_id), (2, 97, ov_id), (2, 98, ov_id), (1, 0, ov_id), (1, 0, ov_id), (0, 0, ov_id), (2, 99, ov_id)])
def ov_s15 : ov_Sh := .inr (99, 0, 0, fun _ _ => 0)
def ov_s16 : ov_Sh := .inr (10, 0, 0, fun _ _ => 0)
def ov_s17 : ov_Sh := .inr (11, 6, 0, fun _ _ => 0)
def ov_s18 : ov_Sh := .inr (99, 0, 0, fun _ _ => 0)
def ov_s19 : ov_Sh := .inr (99, 0, 0, fun _ _ => 0)
def ov_s20 : ov_Sh := .inr (0, 10, 0, fun _ _ => 0)
def ov_s21 : ov_Sh := .inr (0, 20, 0, fun _ _ => 0)
def ov_s22 : ov_Sh := .inr (0, 99, 0, fun _ _ => 0)
def ov_s23 : ov_Sh := .inr (0, 99, 0, fun _ _ => 0)
def ov_s24 : ov_Sh := .inr (0, 99, 0, fun _ _ => 0)
def ov_s25 : ov_Sh := .inr (0, 99, 0, fun _ _ => 0)
def ov_s26 : ov_Sh := .inr (0, 99, 0, fun _ _ => 0)
def ov_s27 : ov_Sh := .inr (0, 10, 0, fun _ _ => 0)
def ov_s28 : ov_Sh := .inr (0, 10, 0, fun _ _ => 0)
def ov_s29 : ov_Sh := .inr (0, 108, 0, fun _ _ => 0)
def ov_s30 : ov_Sh := .inr (0, 9, 0, fun _ _ => 0)
def ov_s31 : ov_Sh := .inr (0, 9, 0, fun _ _ => 0)
def ov_s32 : ov_Sh := .inr (0, 9, 0, fun _ _ => 0)
def ov_s33 : ov_Sh := .inr (0, 4, 0, fun _ _ => 0)
def ov_s34 : ov_Sh := .inr (0, 3, 0, fun _ _ => 0)
def ov_s35 : ov_Sh := .inr (0, 10, 0, fun _ _ => 0)
def ov_s36 : ov_Sh := .inr (0, 10, 0, fun _ _ => 0)
def ov_s37 : ov_Sh := .inr (0, 10, 0, fun _ _ => 0)
def ov_s38 : ov_Sh := .inr (0, 10, 0, fun _ _ => 0)
def ov_s39 : ov_Sh := .inr (0, 10, 0, fun _ _ => 0)
def ov_s40 : ov_Sh := .inr (0, 3, 0, fun _ _ => 0)
def ov_s41 : ov_Sh := .inr (0, 30, 0, fun _ _ => 0)
def ov_s42 : ov_Sh := .inr (0, 30, 0, fun _ _ => 0)
def ov_s43 : ov_Sh := .inr (0, 30, 0, fun _ _ => 0)
def ov_s44 : ov_Sh := .inr (0, 30, 0, fun _ _ => 0)
def ov_s45 : ov_Sh := .inr (0, 400, 0, fun _ _ => 0)
def ov_s46 : ov_Sh := .inr (0, 401, 0, fun _ _ => 0)
def ov_s47 : ov_Sh := .inr (0, 401, 0, fun _ _ => 0)
def ov_s48 : ov_Sh := .inr (0, 401, 0, fun _ _ => 0)
def ov_s49 : ov_Sh := .inr (2, 81, 0, fun _ _ => 0)
def ov_s50 : ov_Sh := .inr (2, 81, 0, fun _ _ => 0)
def ov_s51 : ov_Sh := .inr (2, 81, 0, fun _ _ => 0)
def ov_s52 : ov_Sh := .inr (0, 12, 0, fun _ _ => 0)
def ov_s53 : ov_Sh := .inr (0, 36, 0, fun _ _ => 0)
def ov_s54 : ov_Sh := .inr (0, 82, 0, fun _ _ => 0)
def ov_s55 : ov_Sh := .inr (0, 9, 0, fun _ _ => 0)
def ov_s56 : ov_Sh := .inr (0, 9, 0, fun _ _ => 0)
def ov_s57 : ov_Sh := .inr (0, 3, 0, fun _ _ => 0)
def ov_s58 : ov_Sh := .inr (0, 4, 0, fun _ _ => 0)
def ov_s59 : ov_Sh := .inr (0, 4, 0, fun _ _ => 0)
def ov_s60 : ov_Sh := .inr (0, 4, 0, fun _ _ => 0)
def ov_s61 : ov_Sh := .inr (0, 4, 0, fun _ _ => 0)
def ov_s62 : ov_Sh := .inr (0, 12, 0, fun _ _ => 0)
def ov_s63 : ov_Sh := .inr (0, 10, 0, fun _ _ => 0)
def ov_s64 : ov_Sh := .inr (0, 120, 0, fun _ _ => 0)
def ov_s65 : ov_Sh := .inr (0, 48, 0, fun _ _ => 0)
def ov_s66 : ov_Sh := .inr (0, 36, 0, fun _ _ => 0)
def ov_s67 : ov_Sh := .inr (0, 120, 0, fun _ _ => 0)
def ov_s68 : ov_Sh := .inr (0, 120, 0, fun _ _ => 0)
def ov_s69 : ov_Sh := .inr (0, 120, 0, fun _ _ => 0)
def ov_s70 : ov_Sh := .inr (0, 120, 0, fun _ _ => 0)
def ov_s71 : ov_Sh := .inr (0, 20, 0, fun _ _ => 0)
def ov_s72 : ov_Sh := .inr (0, 12, 0, fun _ _ => 0)
def ov_s73 : ov_Sh := .inr (0, 4, 0, fun _ _ => 0)
def ov_s74 : ov_Sh := .inr (0, 99, 0, fun _ _ => 0)
def ov_s75 : ov_Sh := .inr (0, 99, 0, fun _ _ => 0)
def ov_s76 : ov_Sh := .inr (0, 99, 0, fun _ _ => 0)
def ov_s77 : ov_Sh := .inr (0, 99, 0, fun _ _ => 0)
def ov_s78 : ov_Sh := .inr (0, 99, 0, fun _ _ => 0)
def ov_s79 : ov_Sh := .inr (0, 4, 0, fun _ _ => 0)
def ov_s80 : ov_Sh := .inr (0, 4, 0, fun _ _ => 0)
def ov_s81 : ov_Sh := .inr (0, 4, 0, fun _ _ => 0)
def ov_s82 : ov_Sh := .inr (0, 4, 0, fun _ _ => 0)
def ov_s83 : ov_Sh := .inr (1, 45, 0, fun _ _ => 0)
def ov_s84 : ov_Sh := .inr (0, 400, 0, fun _ _ => 0)
def ov_s85 : ov_Sh := .inr (0, 600, 0, fun _ _ => 0)
def ov_s86 : ov_Sh := .inr (0, 4, 0, fun _ _ => 0)
def ov_s87 : ov_Sh := .inr (0, 4, 0, fun _ _ => 0)
def ov_s88 : ov_Sh := .inr (0, 46656, 0, fun _ _ => 0)
def ov_s89 : ov_Sh := .inr (0, 46656, 0, fun _ _ => 0)
def ov_s90 : ov_Sh := .inr (0, 108, 0, fun _ _ => 0)
def ov_s91 : ov_Sh := .inr (0, 351, 0, fun _ _ => 0)
def ov_s92 : ov_Sh := .inr (0, 9, 0, fun _ _ => 0)
def ov_s93 : ov_Sh := .inr (0, 9, 0, fun _ _ => 0)
def ov_s94 : ov_Sh := .inr (0, 9, 0, fun _ _ => 0)
def ov_s95 : ov_Sh := .inr (0, 9, 0, fun _ _ => 0)
def ov_s96 : ov_Sh := .inr (0, 3, 0, fun _ _ => 0)
def ov_s97 : ov_Sh := .inr (0, 36, 0, fun _ _ => 0)
def ov_s98 : ov_Sh := .inr (0, 16, 0, fun _ _ => 0)
def ov_s99 : ov_Sh := .inr (0, 2000, 0, fun _ _ => 0)
def ov_shl : List ov_Sh := [ov_s0, ov_s1, ov_s2, ov_s3, ov_s4, ov_s5, ov_s6, ov_s7, ov_s8, ov_s9, ov_s10, ov_s11, ov_s12, ov_s13, ov_s14, ov_s15, ov_s16, ov_s17, ov_s18, ov_s19, ov_s20, ov_s21, ov_s22, ov_s23, ov_s24, ov_s25, ov_s26, ov_s27, ov_s28, ov_s29, ov_s30, ov_s31, ov_s32, ov_s33, ov_s34, ov_s35, ov_s36, ov_s37, ov_s38, ov_s39, ov_s40, ov_s41, ov_s42, ov_s43, ov_s44, ov_s45, ov_s46, ov_s47, ov_s48, ov_s49, ov_s50, ov_s51, ov_s52, ov_s53, ov_s54, ov_s55, ov_s56, ov_s57, ov_s58, ov_s59, ov_s60, ov_s61, ov_s62, ov_s63, ov_s64, ov_s65, ov_s66, ov_s67, ov_s68, ov_s69, ov_s70, ov_s71, ov_s72, ov_s73, ov_s74, ov_s75, ov_s76, ov_s77, ov_s78, ov_s79, ov_s80, ov_s81, ov_s82, ov_s83, ov_s84, ov_s85, ov_s86, ov_s87, ov_s88, ov_s89, ov_s90, ov_s91, ov_s92, ov_s93, ov_s94, ov_s95, ov_s96, ov_s97, ov_s98, ov_s99]
def ov_nth {α : Type} (d : α) : List α → Nat → α
  | [], _ => d
  | a :: _, 0 => a
  | _ :: l, n + 1 => ov_nth d l n
def ov_sh (r : Nat) : ov_Sh := ov_nth (.inr (99, 0, 0, fun _ _ => 0)) ov_shl r
def ov_lk {α : Type} (i : Nat) : List (Nat × α) → Option α
  | [] => none
  | (k, v) :: l => match Nat.beq k i with
    | true => some v
    | false => ov_lk i l
def ov_cn : Nat → String := ov_nth "" ["OneEye$Book", "OneEye$Deal", "OneEye$Feelers", "OneEye$Person", "OneEye$Plan", "OneEye$Reader", "OneEye$Tables", "OneEye$Talk", "OneEye$Three", "OneEye$Way", "OneEye$World", "OneEye", "OneEyeModel", "OneEyeLaw", "java/lang/Integer", "java/lang/Math", "java/util/Arrays"]
def ov_fl : List (List (Nat × Nat × Nat)) := [[(9, 0, 0), (15, 0, 1), (18, 0, 2), (21, 0, 3), (24, 0, 4), (27, 0, 6), (30, 0, 7), (39, 0, 5)], [(9, 1, 0), (15, 1, 2), (18, 1, 3), (28, 1, 1)], [(11, 2, 0)], [(9, 3, 0), (15, 3, 1), (18, 3, 2), (21, 3, 3), (24, 3, 4), (27, 3, 5), (30, 3, 7), (40, 3, 6)], [(9, 4, 0), (15, 4, 1), (18, 4, 2), (21, 4, 3), (24, 4, 4)], [(9, 5, 0), (18, 5, 2), (22, 5, 4), (26, 5, 5), (29, 5, 6), (32, 5, 7), (35, 5, 1), (42, 5, 3), (45, 5, 8), (48, 5, 9), (89, 4, 4)], [(9, 6, 0), (15, 6, 1), (18, 6, 2), (21, 6, 3), (24, 6, 5), (39, 6, 4)], [(11, 7, 0), (15, 7, 1), (18, 7, 2)], [(9, 8, 5), (18, 8, 6), (22, 8, 0), (26, 8, 1), (29, 8, 2), (32, 8, 3), (35, 8, 4), (48, 8, 7), (51, 8, 8), (54, 8, 9), (57, 8, 10), (60, 8, 11), (78, 4, 4)], [(9, 9, 0), (15, 9, 2), (24, 9, 1)], [(11, 10, 0), (19, 10, 1), (23, 10, 3), (30, 10, 4), (37, 10, 5), (41, 10, 6), (44, 10, 10), (57, 10, 2), (72, 10, 7), (75, 10, 8), (78, 10, 9), (85, 8, 0), (88, 8, 1), (125, 8, 8), (128, 8, 7), (131, 8, 6), (135, 4, 4), (147, 4, 0), (150, 4, 2), (153, 4, 1), (164, 4, 3), (178, 8, 5), (188, 3, 7), (199, 8, 9), (208, 8, 2), (211, 8, 11), (214, 8, 3), (217, 8, 10), (223, 3, 5), (229, 3, 6), (232, 8, 4)], [(10, 11, 0), (16, 11, 1), (22, 11, 2), (29, 11, 3), (36, 11, 4), (43, 11, 5), (50, 11, 6), (54, 10, 8), (66, 10, 3), (78, 3, 7), (87, 5, 1), (97, 10, 2), (104, 5, 2), (114, 8, 6), (117, 4, 4), (122, 5, 3), (125, 5, 4), (128, 10, 9), (148, 3, 6), (151, 3, 5), (157, 10, 4), (186, 10, 5), (190, 6, 0), (203, 9, 1), (206, 9, 0), (209, 6, 1), (212, 6, 2), (225, 6, 4), (228, 6, 3), (234, 1, 1), (237, 1, 0), (240, 6, 5), (250, 0, 5), (253, 10, 10), (256, 10, 7)], [(7, 12, 3), (13, 12, 4), (16, 12, 5), (19, 12, 6), (22, 12, 7), (25, 12, 8), (28, 12, 9), (31, 12, 10), (34, 12, 11), (37, 12, 12), (40, 12, 13), (43, 12, 14), (46, 12, 15), (49, 12, 17), (53, 12, 19), (56, 12, 20), (59, 12, 21), (62, 12, 23), (65, 12, 24), (68, 12, 25), (71, 12, 26), (74, 12, 27), (77, 12, 28), (80, 12, 29), (83, 12, 30), (86, 12, 31), (89, 12, 32), (93, 12, 33), (96, 12, 42), (99, 12, 43), (102, 12, 44), (105, 12, 45), (109, 12, 46), (112, 12, 48), (115, 12, 50), (118, 12, 51), (121, 12, 52), (124, 12, 53), (127, 12, 54), (130, 12, 56), (133, 12, 57), (136, 12, 58), (139, 12, 59), (142, 12, 63), (145, 12, 0), (148, 12, 1), (153, 12, 2), (170, 12, 34), (177, 12, 35), (184, 12, 36), (187, 12, 37), (197, 12, 38), (203, 12, 39), (206, 12, 40), (228, 12, 41), (249, 12, 22), (252, 12, 16), (266, 12, 18), (285, 12, 47), (311, 12, 49), (341, 12, 55), (359, 12, 62), (362, 12, 60), (368, 12, 61)], [], [], [], []]
def ov_lf (c i : Nat) : Option (Nat × Nat) := ov_lk i (ov_nth [] ov_fl c)
/-- method links: 0 static, 1 virtual, 2 <init>; 3, 4, 5 the same of a nest mate; 6 Object.<init>, 7 arraycopy, 8 String.length, 9 String.charAt, 10 Math.max, 11 Math.min -/
def ov_ml0 : List (Nat × Nat × ov_M) := [(3, 6, mq_Eye_init), (33, 7, mq_Eye_init), (47, 1, mq_Book_gatherSayers), (51, 0, mq_Integer_bitCount), (57, 1, mq_Book_agreeWithout), (61, 0, mq_Arrays_fillI), (43, 3, mq_Eye_within), (67, 3, mq_Eye_withBit)]
def ov_ml1 : List (Nat × Nat × ov_M) := [(3, 6, mq_Eye_init), (21, 0, mq_Arrays_fillI), (32, 11, mq_Eye_init), (38, 1, mq_Deal_deal), (42, 1, mq_Deal_compare), (45, 10, mq_Eye_init), (48, 7, mq_Eye_init)]
def ov_ml2 : List (Nat × Nat × ov_M) := [(3, 6, mq_Eye_init), (16, 0, mq_Arrays_fillI), (22, 1, mq_Feelers_worthiestBut), (26, 1, mq_Feelers_dealOut), (34, 11, mq_Eye_init), (30, 3, mq_Eye_withBit), (40, 3, mq_Eye_holdsBit), (44, 3, mq_Eye_within)]
def ov_ml3 : List (Nat × Nat × ov_M) := [(3, 6, mq_Eye_init), (34, 7, mq_Eye_init), (43, 3, mq_Eye_within)]
def ov_ml4 : List (Nat × Nat × ov_M) := [(3, 6, mq_Eye_init), (32, 7, mq_Eye_init), (28, 3, mq_Eye_within)]
def ov_ml5 : List (Nat × Nat × ov_M) := [(3, 6, mq_Eye_init), (51, 1, mq_Reader_endOfRun), (55, 1, mq_Reader_signAt), (59, 0, mq_Reader_sortOf), (62, 1, mq_Reader_takeToken), (66, 1, mq_Reader_keepToken), (69, 1, mq_Reader_wordAt), (72, 1, mq_Reader_valueAt), (75, 1, mq_Reader_isWord), (80, 8, mq_Eye_init), (85, 9, mq_Eye_init), (92, 1, mq_Reader_token), (95, 1, mq_Reader_readStep), (99, 1, mq_Reader_blame), (102, 1, mq_Reader_expect), (105, 0, mq_Reader_mostOf), (108, 1, mq_Reader_expectNumber), (111, 1, mq_Plan_add), (17, 5, mq_Plan_init), (38, 3, mq_Eye_within)]
def ov_ml6 : List (Nat × Nat × ov_M) := [(3, 6, mq_Eye_init), (27, 0, mq_Arrays_fillI), (33, 7, mq_Eye_init), (47, 0, mq_Integer_bitCount), (53, 1, mq_Tables_closes), (65, 1, mq_Tables_goesRound), (69, 1, mq_Tables_wouldLend), (72, 1, mq_Tables_goesOn), (43, 3, mq_Eye_within), (57, 3, mq_Eye_holdsBit), (61, 3, mq_Eye_withBit)]
def ov_ml7 : List (Nat × Nat × ov_M) := [(3, 6, mq_Eye_init), (25, 0, mq_Arrays_fillJ), (31, 1, mq_Talk_moveEdge), (35, 1, mq_Talk_handOverFrom), (39, 1, mq_Talk_sayFrom), (44, 1, mq_Talk_say), (21, 3, mq_Eye_within)]
def ov_ml8 : List (Nat × Nat × ov_M) := [(3, 6, mq_Eye_init), (38, 7, mq_Eye_init), (44, 1, mq_Plan_copyFrom), (67, 1, mq_Three_placeOf), (71, 1, mq_Three_settledPlaceOf), (17, 5, mq_Plan_init), (63, 3, mq_Eye_within), (74, 3, mq_Eye_holdsBit)]
def ov_ml9 : List (Nat × Nat × ov_M) := [(3, 6, mq_Eye_init), (18, 11, mq_Eye_init), (28, 0, mq_Arrays_fillI), (34, 1, mq_Way_weigh), (38, 1, mq_Way_walk), (41, 1, mq_Way_cheapest), (45, 1, mq_Way_costFrom), (49, 3, mq_Eye_dangerAt), (52, 3, mq_Eye_within)]
def ov_ml10 : List (Nat × Nat × ov_M) := [(3, 6, mq_Eye_init), (36, 2, mq_Tables_init), (50, 1, mq_Three_copyFrom), (54, 1, mq_Person_copyFrom), (60, 7, mq_Eye_init), (66, 1, mq_Book_copyFrom), (69, 1, mq_Tables_copyFrom), (92, 1, mq_World_personOf), (96, 1, mq_Person_knowledgeOf), (104, 1, mq_World_draw), (107, 1, mq_World_act), (111, 1, mq_World_noisesNow), (115, 1, mq_World_endMinute), (121, 1, mq_World_threeAt), (140, 1, mq_World_begin), (144, 1, mq_World_workOn), (156, 1, mq_World_give), (160, 1, mq_World_see), (167, 1, mq_World_speak), (171, 1, mq_Three_occupy), (175, 1, mq_Three_holderOf), (181, 1, mq_Person_seeFact), (184, 1, mq_Book_write), (195, 1, mq_Person_believe), (202, 1, mq_World_finishGiving), (205, 1, mq_World_finishFeeling), (220, 1, mq_Three_firstWithEmptyHands), (226, 1, mq_World_hearNoises), (29, 5, mq_Book_init), (48, 5, mq_Three_init), (49, 5, mq_Person_init), (81, 3, mq_Eye_within), (100, 3, mq_Eye_withBit), (191, 3, mq_Eye_holdsBit)]
def ov_ml11 : List (Nat × Nat × ov_M) := [(1, 6, mq_Eye_init), (9, 2, mq_World_init), (58, 0, mq_Eye_within), (62, 1, mq_World_addThree), (70, 1, mq_World_personAt), (74, 1, mq_World_threeAt), (83, 0, mq_Eye_withBit), (90, 1, mq_Reader_append), (94, 1, mq_Reader_takeTape), (100, 1, mq_Reader_readPlan), (108, 1, mq_Three_follow), (132, 1, mq_World_passMinute), (135, 1, mq_Three_placeOf), (139, 1, mq_Person_knowledgeOf), (142, 1, mq_Person_originOf), (145, 1, mq_World_addNoise), (154, 1, mq_Three_tell), (161, 1, mq_Book_tell), (165, 1, mq_World_knowersOf), (168, 1, mq_Three_settledPlaceOf), (171, 0, mq_Eye_holdsBit), (175, 1, mq_Three_sendWord), (179, 1, mq_Three_mouthAndEar), (183, 1, mq_Talk_fewestActs), (195, 0, mq_Eye_dangerAt), (199, 1, mq_Way_find), (215, 1, mq_Feelers_leastSum), (219, 1, mq_Book_fewestLiars), (222, 1, mq_Tables_addWatch), (231, 1, mq_Deal_find), (243, 1, mq_Tables_smallestRing), (246, 1, mq_World_copyFrom), (21, 5, mq_Reader_init), (28, 5, mq_Talk_init), (35, 5, mq_Way_init), (42, 5, mq_Feelers_init), (49, 5, mq_Deal_init)]
def ov_ml12 : List (Nat × Nat × ov_M) := [(1, 6, mq_Eye_init), (156, 1, mq_Mod_isIn), (160, 1, mq_Mod_isFact), (164, 1, mq_Mod_isPerson), (167, 1, mq_Mod_isThree), (173, 1, mq_Mod_puts), (180, 1, mq_Mod_raw), (190, 1, mq_Mod_isLetter), (193, 1, mq_Mod_wordOf), (200, 1, mq_Mod_isDigit), (209, 1, mq_Mod_errs), (212, 1, mq_Mod_reads), (215, 1, mq_Mod_readNumber), (218, 1, mq_Mod_readThing), (222, 1, mq_Mod_readTo), (225, 1, mq_Mod_readStep), (231, 1, mq_Mod_readPlan), (234, 1, mq_Mod_thing), (237, 1, mq_Mod_draw), (240, 1, mq_Mod_handsOver), (243, 1, mq_Mod_feels), (246, 1, mq_Mod_holder), (255, 1, mq_Mod_sees), (259, 1, mq_Mod_says), (263, 1, mq_Mod_ends), (269, 1, mq_Mod_begins), (272, 1, mq_Mod_sounds), (276, 1, mq_Mod_goesBy), (279, 1, mq_Mod_isThing), (282, 1, mq_Mod_memberOf), (289, 1, mq_Mod_movedTo), (293, 1, mq_Mod_comes), (297, 1, mq_Mod_knowersOf), (300, 1, mq_Mod_placesOf), (303, 1, mq_Mod_errandFrom), (307, 1, mq_Mod_findsErrand), (314, 1, mq_Mod_stateOf), (317, 1, mq_Mod_talks), (320, 1, mq_Mod_talkFrom), (323, 1, mq_Mod_tolls), (326, 1, mq_Mod_dangerAt), (329, 1, mq_Mod_behind), (332, 1, mq_Mod_feltBy), (335, 1, mq_Mod_ones), (338, 1, mq_Mod_goTogether), (344, 1, mq_Mod_spread), (347, 1, mq_Mod_watcher), (350, 1, mq_Mod_grows), (353, 1, mq_Mod_isRing), (356, 1, mq_Mod_canRing), (365, 1, mq_Mod_kept), (371, 1, mq_Mod_keepsThrees), (374, 1, mq_Mod_keepsOthers)]
def ov_ml13 : List (Nat × Nat × ov_M) := [(9, 2, mq_Eye_init), (12, 2, mq_Mod_init), (13, 1, mq_Eye_state), (17, 1, mq_Mod_state), (18, 1, mq_Eye_three), (22, 1, mq_Mod_three), (23, 1, mq_Eye_fact), (27, 1, mq_Mod_fact), (28, 1, mq_Eye_trust), (32, 1, mq_Mod_trust), (33, 1, mq_Eye_feed), (37, 1, mq_Mod_feed), (38, 1, mq_Eye_end), (42, 1, mq_Mod_end), (43, 1, mq_Eye_text), (46, 1, mq_Mod_text), (47, 1, mq_Eye_fault), (50, 1, mq_Mod_fault), (51, 1, mq_Eye_minutes), (54, 1, mq_Mod_minutes), (55, 1, mq_Eye_where), (58, 1, mq_Mod_where), (59, 1, mq_Eye_knows), (62, 1, mq_Mod_knows), (63, 1, mq_Eye_origin), (67, 1, mq_Mod_origin), (68, 1, mq_Eye_noise), (71, 1, mq_Mod_noise), (72, 1, mq_Eye_heard), (75, 1, mq_Mod_heard), (76, 1, mq_Eye_held), (79, 1, mq_Mod_held), (80, 1, mq_Eye_of), (83, 1, mq_Mod_of), (84, 1, mq_Eye_book), (87, 1, mq_Mod_book), (88, 1, mq_Eye_errand), (92, 1, mq_Mod_errand), (93, 1, mq_Eye_talk), (96, 1, mq_Mod_talk), (97, 1, mq_Eye_danger), (101, 1, mq_Mod_danger), (102, 1, mq_Eye_way), (105, 1, mq_Mod_way), (106, 1, mq_Eye_spot), (110, 1, mq_Mod_spot), (111, 1, mq_Eye_felt), (115, 1, mq_Mod_felt), (116, 1, mq_Eye_liars), (119, 1, mq_Mod_liars), (120, 1, mq_Eye_watch), (123, 1, mq_Mod_watch), (124, 1, mq_Eye_watches), (127, 1, mq_Mod_watches), (128, 1, mq_Eye_lends), (132, 1, mq_Mod_lends), (133, 1, mq_Eye_ring), (136, 1, mq_Mod_ring), (137, 1, mq_Eye_image), (141, 1, mq_Mod_image), (142, 1, mq_Eye_look), (145, 1, mq_Mod_look)]
def ov_ml14 : List (Nat × Nat × ov_M) := []
def ov_ml15 : List (Nat × Nat × ov_M) := []
def ov_ml16 : List (Nat × Nat × ov_M) := []
def ov_mll : List (List (Nat × Nat × ov_M)) := [ov_ml0, ov_ml1, ov_ml2, ov_ml3, ov_ml4, ov_ml5, ov_ml6, ov_ml7, ov_ml8, ov_ml9, ov_ml10, ov_ml11, ov_ml12, ov_ml13, ov_ml14, ov_ml15, ov_ml16]
def ov_lm (c i : Nat) : Option (Nat × ov_M) := ov_lk i (ov_nth [] ov_mll c)
def ov_nl : List (List (Nat × Nat)) := [[], [], [], [], [], [(15, 4)], [], [], [(15, 4)], [], [(9, 8), (17, 3), (27, 0), (34, 6)], [(7, 10), (19, 5), (26, 7), (33, 9), (40, 2), (47, 1)], [], [(7, 11), (10, 12)], [], [], []]
def ov_ln (c i : Nat) : Option Nat := ov_lk i (ov_nth [] ov_nl c)
def ov_cl : List (List (Nat × Int32)) := [[], [(27, (1000000 : Int32))], [(15, (268435456 : Int32))], [], [], [], [], [], [], [], [(91, (99999 : Int32)), (119, (1664525 : Int32)), (120, (1013904223 : Int32))], [(131, (99999 : Int32))], [(108, (46656 : Int32)), (151, (1664525 : Int32)), (152, (1013904223 : Int32)), (275, (99999 : Int32)), (296, (1000000 : Int32))], [], [(265, (1431655765 : Int32)), (266, (858993459 : Int32)), (267, (252645135 : Int32))], [], []]
def ov_lc (c i : Nat) : Option Int32 := ov_lk i (ov_nth [] ov_cl c)
def ov_ll : List (List (Nat × Int64)) := [[], [], [], [], [], [], [], [(42, (-1 : Int64))], [], [], [], [], [], [], [], [], []]
def ov_lL (c i : Nat) : Option Int64 := ov_lk i (ov_nth [] ov_ll c)
def ov_kp : List (Nat × Int32) := [(0, 0), (1, 1), (2, 2), (3, 3), (4, 4), (5, 5), (6, 6), (7, 7), (8, 8), (9, 9), (10, 10), (11, 11), (12, 12), (13, 13), (14, 14), (15, 15), (16, 16), (17, 17), (18, 18), (19, 19), (20, 20), (21, 21), (22, 22), (23, 23), (24, 24), (25, 25), (26, 26), (27, 27), (28, 28), (29, 29), (30, 30), (31, 31), (32, 32), (33, 33), (34, 34), (35, 35), (36, 36), (37, 37), (38, 38), (39, 39), (40, 40), (41, 41), (42, 42), (43, 43), (44, 44), (45, 45), (48, 48), (57, 57), (59, 59), (61, 61), (63, 63), (65, 65), (80, 80), (81, 81), (82, 82), (90, 90), (97, 97), (98, 98), (99, 99), (100, 100), (101, 101), (102, 102), (103, 103), (104, 104), (105, 105), (108, 108), (109, 109), (111, 111), (114, 114), (115, 115), (116, 116), (117, 117), (118, 118), (120, 120), (121, 121), (122, 122), (216, 216), (240, 240), (255, 255), (351, 351), (380, 380), (399, 399), (400, 400), (401, 401), (480, 480), (511, 511), (512, 512), (600, 600), (729, 729), (1000, 1000), (2000, 2000), (4096, 4096), (10000, 10000)]
def ov_kn : List (Nat × Int32) := [(7, -8), (0, -1)]
/-- a constant, as it is written -/
def ov_k (n : Int) : Int32 := match n with
  | .ofNat a => (ov_lk a ov_kp).getD (Int32.ofInt n)
  | .negSucc a => (ov_lk a ov_kn).getD (Int32.ofInt n)
end
section
def ov_T : List Cond := lw_tbl.filter goodWord
def ov_isN : Cond → Bool
  | .methodLinkNest _ _ _ _ => true
  | _ => false
def ov_nw : List Cond := lw_tbl.filter ov_isN
/-- how long an instruction is, but for switches -/
def ov_il : Instr → Option Nat
  | .bipush _ | .ldc _ | .iload _ | .aload _ | .istore _ | .astore _ | .newarray _ => some 2
  | .sipush _ | .ldc_w _ | .ldc2_w _ | .iinc _ _ | .ifCond _ _ | .if_icmp _ _ | .ifnull _ | .ifnonnull _ | .goto _ | .getfield _ | .putfield _ | .getstatic _ | .invokevirtual _ | .invokespecial _ | .invokestatic _ | .new _ | .anewarray _ => some 3
  | .tableswitch _ _ _ _ | .lookupswitch _ _ => none
  | _ => some 1
/-- a switch is as decode gives it -/
def ov_iw : Instr → Bool
  | .tableswitch _ lo hi offs => decide (lo ≤ hi) && decide (offs.size = (hi - lo + 1).toNat)
  | .iconst n => decide (Int32.ofInt n = ov_k n)
  | .iinc _ n => decide (Int32.ofInt n = ov_k n)
  | .bipush n => decide ((Int8.ofInt n).toInt32 = ov_k n)
  | .sipush n => decide ((Int16.ofInt n).toInt32 = ov_k n)
  | .lookupswitch _ ps => (ps.toList.zip (ps.toList.drop 1)).all (fun (a, next) => a.1 < next.1)
  | _ => true
/-- a method's rows are its bytes' -/
def ov_ok0 (y : ov_M) : Prop := (∀ pc i n, ov_lk pc y.2.2.2.2.2 = some (i, n) → decode y.2.2.1 pc = .ok (i, n) ∧ (∀ k, ov_il i = some k → n = k) ∧ ov_iw i = true) ∧ y.2.1.cls = ov_cn y.1
/-- the number of words that a method takes off the stack, its object apart -/
def ov_na (m : ov_M) : Nat := match parseMethodDescriptor m.2.1.desc with
  | some d => d.parameters.length
  | none => 0
def ov_okc (y : ov_M) : Prop := ov_ok0 y ∧ Cond.code y.2.1 y.2.2.1 y.2.2.2.1 y.2.2.2.2.1 ∈ ov_T ∧ plainName y.2.1.cls = true ∧ (y.2.1.cls ≠ "java/lang/invoke/MethodHandle" ∧ y.2.1.cls ≠ "java/lang/invoke/VarHandle" ∧ (parseMethodDescriptor y.2.1.desc).map (fun d => d.parameters.length) = some (ov_na y)) ∧ Cond.initialized y.2.1.cls ∈ ov_T ∧ y.2.2.2.1 ≤ 40
def ov_dec (b : ByteArray) (l : List (Nat × Instr × Nat)) : Bool := l.all (fun q => match decode b q.1 with
  | .ok r => decide (r = q.2) && (ov_iw q.2.1 && match ov_il q.2.1 with
    | some k => Nat.beq q.2.2 k
    | none => true)
  | .error _ => false)
theorem ov_lk_mem {α : Type} {i : Nat} {v : α} : ∀ {l : List (Nat × α)}, ov_lk i l = some v → (i, v) ∈ l
  | [], h => by cases h
  | (k, w) :: l, h => by
    unfold ov_lk at h
    split at h
    · rename_i e
      cases h
      have := Nat.eq_of_beq_eq_true e
      subst this
      exact List.mem_cons_self
    · exact List.mem_cons_of_mem _ (ov_lk_mem h)
theorem ov_dec_ok {b : ByteArray} {l : List (Nat × Instr × Nat)} (h : ov_dec b l = true) (pc : Nat) (i : Instr) (n : Nat) (g : ov_lk pc l = some (i, n)) : decode b pc = .ok (i, n) ∧ (∀ k, ov_il i = some k → n = k) ∧ ov_iw i = true := by
  have h1 := List.all_eq_true.mp h (pc, i, n) (ov_lk_mem g)
  dsimp only at h1
  split at h1
  · rename_i r e
    rw [Bool.and_eq_true, Bool.and_eq_true] at h1
    refine ⟨by rw [e, of_decide_eq_true h1.1], fun k hk => ?_, h1.2.1⟩
    have h2 := h1.2.2
    rw [hk] at h2
    exact Nat.eq_of_beq_eq_true h2
  · cases h1
theorem ov_inT {w : Cond} (h : w ∈ lw_tbl) (g : goodWord w = true) : w ∈ ov_T := List.mem_filter.mpr ⟨h, g⟩
end
section
set_option maxRecDepth 100000 in
theorem ok_mq_Book_init : ov_okc mq_Book_init := ⟨⟨ov_dec_ok (by decide +kernel), rfl⟩, ov_inT (List.mem_append_right _ (List.mem_of_getElem? (i := 44) rfl)) (by decide +kernel), by decide +kernel, ⟨by decide +kernel, by decide +kernel, by decide +kernel⟩, ov_inT (by decide +kernel) (by decide +kernel), by decide +kernel⟩
set_option maxRecDepth 100000 in
theorem ok_mq_Book_write : ov_okc mq_Book_write := ⟨⟨ov_dec_ok (by decide +kernel), rfl⟩, ov_inT (List.mem_append_right _ (List.mem_of_getElem? (i := 646) rfl)) (by decide +kernel), by decide +kernel, ⟨by decide +kernel, by decide +kernel, by decide +kernel⟩, ov_inT (by decide +kernel) (by decide +kernel), by decide +kernel⟩
set_option maxRecDepth 100000 in
theorem ok_mq_Book_tell : ov_okc mq_Book_tell := ⟨⟨ov_dec_ok (by decide +kernel), rfl⟩, ov_inT (List.mem_append_right _ (List.mem_of_getElem? (i := 736) rfl)) (by decide +kernel), by decide +kernel, ⟨by decide +kernel, by decide +kernel, by decide +kernel⟩, ov_inT (by decide +kernel) (by decide +kernel), by decide +kernel⟩
set_option maxRecDepth 100000 in
theorem ok_mq_Book_fewestLiars : ov_okc mq_Book_fewestLiars := ⟨⟨ov_dec_ok (by decide +kernel), rfl⟩, ov_inT (List.mem_append_right _ (List.mem_of_getElem? (i := 863) rfl)) (by decide +kernel), by decide +kernel, ⟨by decide +kernel, by decide +kernel, by decide +kernel⟩, ov_inT (by decide +kernel) (by decide +kernel), by decide +kernel⟩
set_option maxRecDepth 100000 in
theorem ok_mq_Book_gatherSayers : ov_okc mq_Book_gatherSayers := ⟨⟨ov_dec_ok (by decide +kernel), rfl⟩, ov_inT (List.mem_append_right _ (List.mem_of_getElem? (i := 867) rfl)) (by decide +kernel), by decide +kernel, ⟨by decide +kernel, by decide +kernel, by decide +kernel⟩, ov_inT (by decide +kernel) (by decide +kernel), by decide +kernel⟩
set_option maxRecDepth 100000 in
theorem ok_mq_Book_agreeWithout : ov_okc mq_Book_agreeWithout := ⟨⟨ov_dec_ok (by decide +kernel), rfl⟩, ov_inT (List.mem_append_right _ (List.mem_of_getElem? (i := 879) rfl)) (by decide +kernel), by decide +kernel, ⟨by decide +kernel, by decide +kernel, by decide +kernel⟩, ov_inT (by decide +kernel) (by decide +kernel), by decide +kernel⟩
set_option maxRecDepth 100000 in
theorem ok_mq_Book_copyFrom : ov_okc mq_Book_copyFrom := ⟨⟨ov_dec_ok (by decide +kernel), rfl⟩, ov_inT (List.mem_append_right _ (List.mem_of_getElem? (i := 965) rfl)) (by decide +kernel), by decide +kernel, ⟨by decide +kernel, by decide +kernel, by decide +kernel⟩, ov_inT (by decide +kernel) (by decide +kernel), by decide +kernel⟩
set_option maxRecDepth 100000 in
theorem ok_mq_Deal_init : ov_okc mq_Deal_init := ⟨⟨ov_dec_ok (by decide +kernel), rfl⟩, ov_inT (List.mem_append_right _ (List.mem_of_getElem? (i := 362) rfl)) (by decide +kernel), by decide +kernel, ⟨by decide +kernel, by decide +kernel, by decide +kernel⟩, ov_inT (by decide +kernel) (by decide +kernel), by decide +kernel⟩
set_option maxRecDepth 100000 in
theorem ok_mq_Deal_find : ov_okc mq_Deal_find := ⟨⟨ov_dec_ok (by decide +kernel), rfl⟩, ov_inT (List.mem_append_right _ (List.mem_of_getElem? (i := 896) rfl)) (by decide +kernel), by decide +kernel, ⟨by decide +kernel, by decide +kernel, by decide +kernel⟩, ov_inT (by decide +kernel) (by decide +kernel), by decide +kernel⟩
set_option maxRecDepth 100000 in
theorem ok_mq_Deal_deal : ov_okc mq_Deal_deal := ⟨⟨ov_dec_ok (by decide +kernel), rfl⟩, ov_inT (List.mem_append_right _ (List.mem_of_getElem? (i := 903) rfl)) (by decide +kernel), by decide +kernel, ⟨by decide +kernel, by decide +kernel, by decide +kernel⟩, ov_inT (by decide +kernel) (by decide +kernel), by decide +kernel⟩
set_option maxRecDepth 100000 in
theorem ok_mq_Deal_compare : ov_okc mq_Deal_compare := ⟨⟨ov_dec_ok (by decide +kernel), rfl⟩, ov_inT (List.mem_append_right _ (List.mem_of_getElem? (i := 907) rfl)) (by decide +kernel), by decide +kernel, ⟨by decide +kernel, by decide +kernel, by decide +kernel⟩, ov_inT (by decide +kernel) (by decide +kernel), by decide +kernel⟩
set_option maxRecDepth 100000 in
theorem ok_mq_Feelers_init : ov_okc mq_Feelers_init := ⟨⟨ov_dec_ok (by decide +kernel), rfl⟩, ov_inT (List.mem_append_right _ (List.mem_of_getElem? (i := 352) rfl)) (by decide +kernel), by decide +kernel, ⟨by decide +kernel, by decide +kernel, by decide +kernel⟩, ov_inT (by decide +kernel) (by decide +kernel), by decide +kernel⟩
set_option maxRecDepth 100000 in
theorem ok_mq_Feelers_leastSum : ov_okc mq_Feelers_leastSum := ⟨⟨ov_dec_ok (by decide +kernel), rfl⟩, ov_inT (List.mem_append_right _ (List.mem_of_getElem? (i := 841) rfl)) (by decide +kernel), by decide +kernel, ⟨by decide +kernel, by decide +kernel, by decide +kernel⟩, ov_inT (by decide +kernel) (by decide +kernel), by decide +kernel⟩
set_option maxRecDepth 100000 in
theorem ok_mq_Feelers_worthiestBut : ov_okc mq_Feelers_worthiestBut := ⟨⟨ov_dec_ok (by decide +kernel), rfl⟩, ov_inT (List.mem_append_right _ (List.mem_of_getElem? (i := 847) rfl)) (by decide +kernel), by decide +kernel, ⟨by decide +kernel, by decide +kernel, by decide +kernel⟩, ov_inT (by decide +kernel) (by decide +kernel), by decide +kernel⟩
set_option maxRecDepth 100000 in
theorem ok_mq_Feelers_dealOut : ov_okc mq_Feelers_dealOut := ⟨⟨ov_dec_ok (by decide +kernel), rfl⟩, ov_inT (List.mem_append_right _ (List.mem_of_getElem? (i := 852) rfl)) (by decide +kernel), by decide +kernel, ⟨by decide +kernel, by decide +kernel, by decide +kernel⟩, ov_inT (by decide +kernel) (by decide +kernel), by decide +kernel⟩
set_option maxRecDepth 100000 in
theorem ok_mq_Person_init : ov_okc mq_Person_init := ⟨⟨ov_dec_ok (by decide +kernel), rfl⟩, ov_inT (List.mem_append_right _ (List.mem_of_getElem? (i := 195) rfl)) (by decide +kernel), by decide +kernel, ⟨by decide +kernel, by decide +kernel, by decide +kernel⟩, ov_inT (by decide +kernel) (by decide +kernel), by decide +kernel⟩
set_option maxRecDepth 100000 in
theorem ok_mq_Person_seeFact : ov_okc mq_Person_seeFact := ⟨⟨ov_dec_ok (by decide +kernel), rfl⟩, ov_inT (List.mem_append_right _ (List.mem_of_getElem? (i := 633) rfl)) (by decide +kernel), by decide +kernel, ⟨by decide +kernel, by decide +kernel, by decide +kernel⟩, ov_inT (by decide +kernel) (by decide +kernel), by decide +kernel⟩
set_option maxRecDepth 100000 in
theorem ok_mq_Person_knowledgeOf : ov_okc mq_Person_knowledgeOf := ⟨⟨ov_dec_ok (by decide +kernel), rfl⟩, ov_inT (List.mem_append_right _ (List.mem_of_getElem? (i := 642) rfl)) (by decide +kernel), by decide +kernel, ⟨by decide +kernel, by decide +kernel, by decide +kernel⟩, ov_inT (by decide +kernel) (by decide +kernel), by decide +kernel⟩
set_option maxRecDepth 100000 in
theorem ok_mq_Person_believe : ov_okc mq_Person_believe := ⟨⟨ov_dec_ok (by decide +kernel), rfl⟩, ov_inT (List.mem_append_right _ (List.mem_of_getElem? (i := 654) rfl)) (by decide +kernel), by decide +kernel, ⟨by decide +kernel, by decide +kernel, by decide +kernel⟩, ov_inT (by decide +kernel) (by decide +kernel), by decide +kernel⟩
set_option maxRecDepth 100000 in
theorem ok_mq_Person_originOf : ov_okc mq_Person_originOf := ⟨⟨ov_dec_ok (by decide +kernel), rfl⟩, ov_inT (List.mem_append_right _ (List.mem_of_getElem? (i := 703) rfl)) (by decide +kernel), by decide +kernel, ⟨by decide +kernel, by decide +kernel, by decide +kernel⟩, ov_inT (by decide +kernel) (by decide +kernel), by decide +kernel⟩
set_option maxRecDepth 100000 in
theorem ok_mq_Person_copyFrom : ov_okc mq_Person_copyFrom := ⟨⟨ov_dec_ok (by decide +kernel), rfl⟩, ov_inT (List.mem_append_right _ (List.mem_of_getElem? (i := 959) rfl)) (by decide +kernel), by decide +kernel, ⟨by decide +kernel, by decide +kernel, by decide +kernel⟩, ov_inT (by decide +kernel) (by decide +kernel), by decide +kernel⟩
set_option maxRecDepth 100000 in
theorem ok_mq_Plan_init : ov_okc mq_Plan_init := ⟨⟨ov_dec_ok (by decide +kernel), rfl⟩, ov_inT (List.mem_append_right _ (List.mem_of_getElem? (i := 116) rfl)) (by decide +kernel), by decide +kernel, ⟨by decide +kernel, by decide +kernel, by decide +kernel⟩, ov_inT (by decide +kernel) (by decide +kernel), by decide +kernel⟩
set_option maxRecDepth 100000 in
theorem ok_mq_Plan_add : ov_okc mq_Plan_add := ⟨⟨ov_dec_ok (by decide +kernel), rfl⟩, ov_inT (List.mem_append_right _ (List.mem_of_getElem? (i := 567) rfl)) (by decide +kernel), by decide +kernel, ⟨by decide +kernel, by decide +kernel, by decide +kernel⟩, ov_inT (by decide +kernel) (by decide +kernel), by decide +kernel⟩
set_option maxRecDepth 100000 in
theorem ok_mq_Plan_copyFrom : ov_okc mq_Plan_copyFrom := ⟨⟨ov_dec_ok (by decide +kernel), rfl⟩, ov_inT (List.mem_append_right _ (List.mem_of_getElem? (i := 576) rfl)) (by decide +kernel), by decide +kernel, ⟨by decide +kernel, by decide +kernel, by decide +kernel⟩, ov_inT (by decide +kernel) (by decide +kernel), by decide +kernel⟩
set_option maxRecDepth 100000 in
theorem ok_mq_Reader_init : ov_okc mq_Reader_init := ⟨⟨ov_dec_ok (by decide +kernel), rfl⟩, ov_inT (List.mem_append_right _ (List.mem_of_getElem? (i := 274) rfl)) (by decide +kernel), by decide +kernel, ⟨by decide +kernel, by decide +kernel, by decide +kernel⟩, ov_inT (by decide +kernel) (by decide +kernel), by decide +kernel⟩
set_option maxRecDepth 100000 in
theorem ok_mq_Reader_append : ov_okc mq_Reader_append := ⟨⟨ov_dec_ok (by decide +kernel), rfl⟩, ov_inT (List.mem_append_right _ (List.mem_of_getElem? (i := 443) rfl)) (by decide +kernel), by decide +kernel, ⟨by decide +kernel, by decide +kernel, by decide +kernel⟩, ov_inT (by decide +kernel) (by decide +kernel), by decide +kernel⟩
set_option maxRecDepth 100000 in
theorem ok_mq_Reader_takeTape : ov_okc mq_Reader_takeTape := ⟨⟨ov_dec_ok (by decide +kernel), rfl⟩, ov_inT (List.mem_append_right _ (List.mem_of_getElem? (i := 456) rfl)) (by decide +kernel), by decide +kernel, ⟨by decide +kernel, by decide +kernel, by decide +kernel⟩, ov_inT (by decide +kernel) (by decide +kernel), by decide +kernel⟩
set_option maxRecDepth 100000 in
theorem ok_mq_Reader_endOfRun : ov_okc mq_Reader_endOfRun := ⟨⟨ov_dec_ok (by decide +kernel), rfl⟩, ov_inT (List.mem_append_right _ (List.mem_of_getElem? (i := 460) rfl)) (by decide +kernel), by decide +kernel, ⟨by decide +kernel, by decide +kernel, by decide +kernel⟩, ov_inT (by decide +kernel) (by decide +kernel), by decide +kernel⟩
set_option maxRecDepth 100000 in
theorem ok_mq_Reader_signAt : ov_okc mq_Reader_signAt := ⟨⟨ov_dec_ok (by decide +kernel), rfl⟩, ov_inT (List.mem_append_right _ (List.mem_of_getElem? (i := 464) rfl)) (by decide +kernel), by decide +kernel, ⟨by decide +kernel, by decide +kernel, by decide +kernel⟩, ov_inT (by decide +kernel) (by decide +kernel), by decide +kernel⟩
set_option maxRecDepth 100000 in
theorem ok_mq_Reader_sortOf : ov_okc mq_Reader_sortOf := ⟨⟨ov_dec_ok (by decide +kernel), rfl⟩, ov_inT (List.mem_append_right _ (List.mem_of_getElem? (i := 467) rfl)) (by decide +kernel), by decide +kernel, ⟨by decide +kernel, by decide +kernel, by decide +kernel⟩, ov_inT (by decide +kernel) (by decide +kernel), by decide +kernel⟩
set_option maxRecDepth 100000 in
theorem ok_mq_Reader_takeToken : ov_okc mq_Reader_takeToken := ⟨⟨ov_dec_ok (by decide +kernel), rfl⟩, ov_inT (List.mem_append_right _ (List.mem_of_getElem? (i := 471) rfl)) (by decide +kernel), by decide +kernel, ⟨by decide +kernel, by decide +kernel, by decide +kernel⟩, ov_inT (by decide +kernel) (by decide +kernel), by decide +kernel⟩
set_option maxRecDepth 100000 in
theorem ok_mq_Reader_wordAt : ov_okc mq_Reader_wordAt := ⟨⟨ov_dec_ok (by decide +kernel), rfl⟩, ov_inT (List.mem_append_right _ (List.mem_of_getElem? (i := 475) rfl)) (by decide +kernel), by decide +kernel, ⟨by decide +kernel, by decide +kernel, by decide +kernel⟩, ov_inT (by decide +kernel) (by decide +kernel), by decide +kernel⟩
set_option maxRecDepth 100000 in
theorem ok_mq_Reader_isWord : ov_okc mq_Reader_isWord := ⟨⟨ov_dec_ok (by decide +kernel), rfl⟩, ov_inT (List.mem_append_right _ (List.mem_of_getElem? (i := 479) rfl)) (by decide +kernel), by decide +kernel, ⟨by decide +kernel, by decide +kernel, by decide +kernel⟩, ov_inT (by decide +kernel) (by decide +kernel), by decide +kernel⟩
set_option maxRecDepth 100000 in
theorem ok_mq_Reader_keepToken : ov_okc mq_Reader_keepToken := ⟨⟨ov_dec_ok (by decide +kernel), rfl⟩, ov_inT (List.mem_append_right _ (List.mem_of_getElem? (i := 532) rfl)) (by decide +kernel), by decide +kernel, ⟨by decide +kernel, by decide +kernel, by decide +kernel⟩, ov_inT (by decide +kernel) (by decide +kernel), by decide +kernel⟩
set_option maxRecDepth 100000 in
theorem ok_mq_Reader_valueAt : ov_okc mq_Reader_valueAt := ⟨⟨ov_dec_ok (by decide +kernel), rfl⟩, ov_inT (List.mem_append_right _ (List.mem_of_getElem? (i := 536) rfl)) (by decide +kernel), by decide +kernel, ⟨by decide +kernel, by decide +kernel, by decide +kernel⟩, ov_inT (by decide +kernel) (by decide +kernel), by decide +kernel⟩
set_option maxRecDepth 100000 in
theorem ok_mq_Reader_readPlan : ov_okc mq_Reader_readPlan := ⟨⟨ov_dec_ok (by decide +kernel), rfl⟩, ov_inT (List.mem_append_right _ (List.mem_of_getElem? (i := 540) rfl)) (by decide +kernel), by decide +kernel, ⟨by decide +kernel, by decide +kernel, by decide +kernel⟩, ov_inT (by decide +kernel) (by decide +kernel), by decide +kernel⟩
set_option maxRecDepth 100000 in
theorem ok_mq_Reader_token : ov_okc mq_Reader_token := ⟨⟨ov_dec_ok (by decide +kernel), rfl⟩, ov_inT (List.mem_append_right _ (List.mem_of_getElem? (i := 544) rfl)) (by decide +kernel), by decide +kernel, ⟨by decide +kernel, by decide +kernel, by decide +kernel⟩, ov_inT (by decide +kernel) (by decide +kernel), by decide +kernel⟩
set_option maxRecDepth 100000 in
theorem ok_mq_Reader_readStep : ov_okc mq_Reader_readStep := ⟨⟨ov_dec_ok (by decide +kernel), rfl⟩, ov_inT (List.mem_append_right _ (List.mem_of_getElem? (i := 548) rfl)) (by decide +kernel), by decide +kernel, ⟨by decide +kernel, by decide +kernel, by decide +kernel⟩, ov_inT (by decide +kernel) (by decide +kernel), by decide +kernel⟩
set_option maxRecDepth 100000 in
theorem ok_mq_Reader_blame : ov_okc mq_Reader_blame := ⟨⟨ov_dec_ok (by decide +kernel), rfl⟩, ov_inT (List.mem_append_right _ (List.mem_of_getElem? (i := 552) rfl)) (by decide +kernel), by decide +kernel, ⟨by decide +kernel, by decide +kernel, by decide +kernel⟩, ov_inT (by decide +kernel) (by decide +kernel), by decide +kernel⟩
set_option maxRecDepth 100000 in
theorem ok_mq_Reader_expect : ov_okc mq_Reader_expect := ⟨⟨ov_dec_ok (by decide +kernel), rfl⟩, ov_inT (List.mem_append_right _ (List.mem_of_getElem? (i := 556) rfl)) (by decide +kernel), by decide +kernel, ⟨by decide +kernel, by decide +kernel, by decide +kernel⟩, ov_inT (by decide +kernel) (by decide +kernel), by decide +kernel⟩
set_option maxRecDepth 100000 in
theorem ok_mq_Reader_mostOf : ov_okc mq_Reader_mostOf := ⟨⟨ov_dec_ok (by decide +kernel), rfl⟩, ov_inT (List.mem_append_right _ (List.mem_of_getElem? (i := 559) rfl)) (by decide +kernel), by decide +kernel, ⟨by decide +kernel, by decide +kernel, by decide +kernel⟩, ov_inT (by decide +kernel) (by decide +kernel), by decide +kernel⟩
set_option maxRecDepth 100000 in
theorem ok_mq_Reader_expectNumber : ov_okc mq_Reader_expectNumber := ⟨⟨ov_dec_ok (by decide +kernel), rfl⟩, ov_inT (List.mem_append_right _ (List.mem_of_getElem? (i := 563) rfl)) (by decide +kernel), by decide +kernel, ⟨by decide +kernel, by decide +kernel, by decide +kernel⟩, ov_inT (by decide +kernel) (by decide +kernel), by decide +kernel⟩
set_option maxRecDepth 100000 in
theorem ok_mq_Tables_init : ov_okc mq_Tables_init := ⟨⟨ov_dec_ok (by decide +kernel), rfl⟩, ov_inT (List.mem_append_right _ (List.mem_of_getElem? (i := 77) rfl)) (by decide +kernel), by decide +kernel, ⟨by decide +kernel, by decide +kernel, by decide +kernel⟩, ov_inT (by decide +kernel) (by decide +kernel), by decide +kernel⟩
set_option maxRecDepth 100000 in
theorem ok_mq_Tables_addWatch : ov_okc mq_Tables_addWatch := ⟨⟨ov_dec_ok (by decide +kernel), rfl⟩, ov_inT (List.mem_append_right _ (List.mem_of_getElem? (i := 887) rfl)) (by decide +kernel), by decide +kernel, ⟨by decide +kernel, by decide +kernel, by decide +kernel⟩, ov_inT (by decide +kernel) (by decide +kernel), by decide +kernel⟩
set_option maxRecDepth 100000 in
theorem ok_mq_Tables_smallestRing : ov_okc mq_Tables_smallestRing := ⟨⟨ov_dec_ok (by decide +kernel), rfl⟩, ov_inT (List.mem_append_right _ (List.mem_of_getElem? (i := 923) rfl)) (by decide +kernel), by decide +kernel, ⟨by decide +kernel, by decide +kernel, by decide +kernel⟩, ov_inT (by decide +kernel) (by decide +kernel), by decide +kernel⟩
set_option maxRecDepth 100000 in
theorem ok_mq_Tables_closes : ov_okc mq_Tables_closes := ⟨⟨ov_dec_ok (by decide +kernel), rfl⟩, ov_inT (List.mem_append_right _ (List.mem_of_getElem? (i := 928) rfl)) (by decide +kernel), by decide +kernel, ⟨by decide +kernel, by decide +kernel, by decide +kernel⟩, ov_inT (by decide +kernel) (by decide +kernel), by decide +kernel⟩
set_option maxRecDepth 100000 in
theorem ok_mq_Tables_goesRound : ov_okc mq_Tables_goesRound := ⟨⟨ov_dec_ok (by decide +kernel), rfl⟩, ov_inT (List.mem_append_right _ (List.mem_of_getElem? (i := 934) rfl)) (by decide +kernel), by decide +kernel, ⟨by decide +kernel, by decide +kernel, by decide +kernel⟩, ov_inT (by decide +kernel) (by decide +kernel), by decide +kernel⟩
set_option maxRecDepth 100000 in
theorem ok_mq_Tables_wouldLend : ov_okc mq_Tables_wouldLend := ⟨⟨ov_dec_ok (by decide +kernel), rfl⟩, ov_inT (List.mem_append_right _ (List.mem_of_getElem? (i := 938) rfl)) (by decide +kernel), by decide +kernel, ⟨by decide +kernel, by decide +kernel, by decide +kernel⟩, ov_inT (by decide +kernel) (by decide +kernel), by decide +kernel⟩
set_option maxRecDepth 100000 in
theorem ok_mq_Tables_goesOn : ov_okc mq_Tables_goesOn := ⟨⟨ov_dec_ok (by decide +kernel), rfl⟩, ov_inT (List.mem_append_right _ (List.mem_of_getElem? (i := 942) rfl)) (by decide +kernel), by decide +kernel, ⟨by decide +kernel, by decide +kernel, by decide +kernel⟩, ov_inT (by decide +kernel) (by decide +kernel), by decide +kernel⟩
set_option maxRecDepth 100000 in
theorem ok_mq_Tables_copyFrom : ov_okc mq_Tables_copyFrom := ⟨⟨ov_dec_ok (by decide +kernel), rfl⟩, ov_inT (List.mem_append_right _ (List.mem_of_getElem? (i := 970) rfl)) (by decide +kernel), by decide +kernel, ⟨by decide +kernel, by decide +kernel, by decide +kernel⟩, ov_inT (by decide +kernel) (by decide +kernel), by decide +kernel⟩
set_option maxRecDepth 100000 in
theorem ok_mq_Talk_init : ov_okc mq_Talk_init := ⟨⟨ov_dec_ok (by decide +kernel), rfl⟩, ov_inT (List.mem_append_right _ (List.mem_of_getElem? (i := 317) rfl)) (by decide +kernel), by decide +kernel, ⟨by decide +kernel, by decide +kernel, by decide +kernel⟩, ov_inT (by decide +kernel) (by decide +kernel), by decide +kernel⟩
set_option maxRecDepth 100000 in
theorem ok_mq_Talk_fewestActs : ov_okc mq_Talk_fewestActs := ⟨⟨ov_dec_ok (by decide +kernel), rfl⟩, ov_inT (List.mem_append_right _ (List.mem_of_getElem? (i := 769) rfl)) (by decide +kernel), by decide +kernel, ⟨by decide +kernel, by decide +kernel, by decide +kernel⟩, ov_inT (by decide +kernel) (by decide +kernel), by decide +kernel⟩
set_option maxRecDepth 100000 in
theorem ok_mq_Talk_moveEdge : ov_okc mq_Talk_moveEdge := ⟨⟨ov_dec_ok (by decide +kernel), rfl⟩, ov_inT (List.mem_append_right _ (List.mem_of_getElem? (i := 777) rfl)) (by decide +kernel), by decide +kernel, ⟨by decide +kernel, by decide +kernel, by decide +kernel⟩, ov_inT (by decide +kernel) (by decide +kernel), by decide +kernel⟩
set_option maxRecDepth 100000 in
theorem ok_mq_Talk_handOverFrom : ov_okc mq_Talk_handOverFrom := ⟨⟨ov_dec_ok (by decide +kernel), rfl⟩, ov_inT (List.mem_append_right _ (List.mem_of_getElem? (i := 782) rfl)) (by decide +kernel), by decide +kernel, ⟨by decide +kernel, by decide +kernel, by decide +kernel⟩, ov_inT (by decide +kernel) (by decide +kernel), by decide +kernel⟩
set_option maxRecDepth 100000 in
theorem ok_mq_Talk_sayFrom : ov_okc mq_Talk_sayFrom := ⟨⟨ov_dec_ok (by decide +kernel), rfl⟩, ov_inT (List.mem_append_right _ (List.mem_of_getElem? (i := 786) rfl)) (by decide +kernel), by decide +kernel, ⟨by decide +kernel, by decide +kernel, by decide +kernel⟩, ov_inT (by decide +kernel) (by decide +kernel), by decide +kernel⟩
end
section
set_option maxRecDepth 100000 in
theorem ok_mq_Talk_say : ov_okc mq_Talk_say := ⟨⟨ov_dec_ok (by decide +kernel), rfl⟩, ov_inT (List.mem_append_right _ (List.mem_of_getElem? (i := 790) rfl)) (by decide +kernel), by decide +kernel, ⟨by decide +kernel, by decide +kernel, by decide +kernel⟩, ov_inT (by decide +kernel) (by decide +kernel), by decide +kernel⟩
set_option maxRecDepth 100000 in
theorem ok_mq_Three_init : ov_okc mq_Three_init := ⟨⟨ov_dec_ok (by decide +kernel), rfl⟩, ov_inT (List.mem_append_right _ (List.mem_of_getElem? (i := 110) rfl)) (by decide +kernel), by decide +kernel, ⟨by decide +kernel, by decide +kernel, by decide +kernel⟩, ov_inT (by decide +kernel) (by decide +kernel), by decide +kernel⟩
set_option maxRecDepth 100000 in
theorem ok_mq_Three_follow : ov_okc mq_Three_follow := ⟨⟨ov_dec_ok (by decide +kernel), rfl⟩, ov_inT (List.mem_append_right _ (List.mem_of_getElem? (i := 572) rfl)) (by decide +kernel), by decide +kernel, ⟨by decide +kernel, by decide +kernel, by decide +kernel⟩, ov_inT (by decide +kernel) (by decide +kernel), by decide +kernel⟩
set_option maxRecDepth 100000 in
theorem ok_mq_Three_holderOf : ov_okc mq_Three_holderOf := ⟨⟨ov_dec_ok (by decide +kernel), rfl⟩, ov_inT (List.mem_append_right _ (List.mem_of_getElem? (i := 616) rfl)) (by decide +kernel), by decide +kernel, ⟨by decide +kernel, by decide +kernel, by decide +kernel⟩, ov_inT (by decide +kernel) (by decide +kernel), by decide +kernel⟩
set_option maxRecDepth 100000 in
theorem ok_mq_Three_occupy : ov_okc mq_Three_occupy := ⟨⟨ov_dec_ok (by decide +kernel), rfl⟩, ov_inT (List.mem_append_right _ (List.mem_of_getElem? (i := 621) rfl)) (by decide +kernel), by decide +kernel, ⟨by decide +kernel, by decide +kernel, by decide +kernel⟩, ov_inT (by decide +kernel) (by decide +kernel), by decide +kernel⟩
set_option maxRecDepth 100000 in
theorem ok_mq_Three_firstWithEmptyHands : ov_okc mq_Three_firstWithEmptyHands := ⟨⟨ov_dec_ok (by decide +kernel), rfl⟩, ov_inT (List.mem_append_right _ (List.mem_of_getElem? (i := 670) rfl)) (by decide +kernel), by decide +kernel, ⟨by decide +kernel, by decide +kernel, by decide +kernel⟩, ov_inT (by decide +kernel) (by decide +kernel), by decide +kernel⟩
set_option maxRecDepth 100000 in
theorem ok_mq_Three_placeOf : ov_okc mq_Three_placeOf := ⟨⟨ov_dec_ok (by decide +kernel), rfl⟩, ov_inT (List.mem_append_right _ (List.mem_of_getElem? (i := 690) rfl)) (by decide +kernel), by decide +kernel, ⟨by decide +kernel, by decide +kernel, by decide +kernel⟩, ov_inT (by decide +kernel) (by decide +kernel), by decide +kernel⟩
set_option maxRecDepth 100000 in
theorem ok_mq_Three_tell : ov_okc mq_Three_tell := ⟨⟨ov_dec_ok (by decide +kernel), rfl⟩, ov_inT (List.mem_append_right _ (List.mem_of_getElem? (i := 728) rfl)) (by decide +kernel), by decide +kernel, ⟨by decide +kernel, by decide +kernel, by decide +kernel⟩, ov_inT (by decide +kernel) (by decide +kernel), by decide +kernel⟩
set_option maxRecDepth 100000 in
theorem ok_mq_Three_settledPlaceOf : ov_okc mq_Three_settledPlaceOf := ⟨⟨ov_dec_ok (by decide +kernel), rfl⟩, ov_inT (List.mem_append_right _ (List.mem_of_getElem? (i := 749) rfl)) (by decide +kernel), by decide +kernel, ⟨by decide +kernel, by decide +kernel, by decide +kernel⟩, ov_inT (by decide +kernel) (by decide +kernel), by decide +kernel⟩
set_option maxRecDepth 100000 in
theorem ok_mq_Three_sendWord : ov_okc mq_Three_sendWord := ⟨⟨ov_dec_ok (by decide +kernel), rfl⟩, ov_inT (List.mem_append_right _ (List.mem_of_getElem? (i := 755) rfl)) (by decide +kernel), by decide +kernel, ⟨by decide +kernel, by decide +kernel, by decide +kernel⟩, ov_inT (by decide +kernel) (by decide +kernel), by decide +kernel⟩
set_option maxRecDepth 100000 in
theorem ok_mq_Three_mouthAndEar : ov_okc mq_Three_mouthAndEar := ⟨⟨ov_dec_ok (by decide +kernel), rfl⟩, ov_inT (List.mem_append_right _ (List.mem_of_getElem? (i := 765) rfl)) (by decide +kernel), by decide +kernel, ⟨by decide +kernel, by decide +kernel, by decide +kernel⟩, ov_inT (by decide +kernel) (by decide +kernel), by decide +kernel⟩
set_option maxRecDepth 100000 in
theorem ok_mq_Three_copyFrom : ov_okc mq_Three_copyFrom := ⟨⟨ov_dec_ok (by decide +kernel), rfl⟩, ov_inT (List.mem_append_right _ (List.mem_of_getElem? (i := 954) rfl)) (by decide +kernel), by decide +kernel, ⟨by decide +kernel, by decide +kernel, by decide +kernel⟩, ov_inT (by decide +kernel) (by decide +kernel), by decide +kernel⟩
set_option maxRecDepth 100000 in
theorem ok_mq_Way_init : ov_okc mq_Way_init := ⟨⟨ov_dec_ok (by decide +kernel), rfl⟩, ov_inT (List.mem_append_right _ (List.mem_of_getElem? (i := 334) rfl)) (by decide +kernel), by decide +kernel, ⟨by decide +kernel, by decide +kernel, by decide +kernel⟩, ov_inT (by decide +kernel) (by decide +kernel), by decide +kernel⟩
set_option maxRecDepth 100000 in
theorem ok_mq_Way_find : ov_okc mq_Way_find := ⟨⟨ov_dec_ok (by decide +kernel), rfl⟩, ov_inT (List.mem_append_right _ (List.mem_of_getElem? (i := 807) rfl)) (by decide +kernel), by decide +kernel, ⟨by decide +kernel, by decide +kernel, by decide +kernel⟩, ov_inT (by decide +kernel) (by decide +kernel), by decide +kernel⟩
set_option maxRecDepth 100000 in
theorem ok_mq_Way_weigh : ov_okc mq_Way_weigh := ⟨⟨ov_dec_ok (by decide +kernel), rfl⟩, ov_inT (List.mem_append_right _ (List.mem_of_getElem? (i := 815) rfl)) (by decide +kernel), by decide +kernel, ⟨by decide +kernel, by decide +kernel, by decide +kernel⟩, ov_inT (by decide +kernel) (by decide +kernel), by decide +kernel⟩
set_option maxRecDepth 100000 in
theorem ok_mq_Way_cheapest : ov_okc mq_Way_cheapest := ⟨⟨ov_dec_ok (by decide +kernel), rfl⟩, ov_inT (List.mem_append_right _ (List.mem_of_getElem? (i := 819) rfl)) (by decide +kernel), by decide +kernel, ⟨by decide +kernel, by decide +kernel, by decide +kernel⟩, ov_inT (by decide +kernel) (by decide +kernel), by decide +kernel⟩
set_option maxRecDepth 100000 in
theorem ok_mq_Way_costFrom : ov_okc mq_Way_costFrom := ⟨⟨ov_dec_ok (by decide +kernel), rfl⟩, ov_inT (List.mem_append_right _ (List.mem_of_getElem? (i := 823) rfl)) (by decide +kernel), by decide +kernel, ⟨by decide +kernel, by decide +kernel, by decide +kernel⟩, ov_inT (by decide +kernel) (by decide +kernel), by decide +kernel⟩
set_option maxRecDepth 100000 in
theorem ok_mq_Way_walk : ov_okc mq_Way_walk := ⟨⟨ov_dec_ok (by decide +kernel), rfl⟩, ov_inT (List.mem_append_right _ (List.mem_of_getElem? (i := 829) rfl)) (by decide +kernel), by decide +kernel, ⟨by decide +kernel, by decide +kernel, by decide +kernel⟩, ov_inT (by decide +kernel) (by decide +kernel), by decide +kernel⟩
set_option maxRecDepth 100000 in
theorem ok_mq_World_init : ov_okc mq_World_init := ⟨⟨ov_dec_ok (by decide +kernel), rfl⟩, ov_inT (List.mem_append_right _ (List.mem_of_getElem? (i := 34) rfl)) (by decide +kernel), by decide +kernel, ⟨by decide +kernel, by decide +kernel, by decide +kernel⟩, ov_inT (by decide +kernel) (by decide +kernel), by decide +kernel⟩
set_option maxRecDepth 100000 in
theorem ok_mq_World_addThree : ov_okc mq_World_addThree := ⟨⟨ov_dec_ok (by decide +kernel), rfl⟩, ov_inT (List.mem_append_right _ (List.mem_of_getElem? (i := 415) rfl)) (by decide +kernel), by decide +kernel, ⟨by decide +kernel, by decide +kernel, by decide +kernel⟩, ov_inT (by decide +kernel) (by decide +kernel), by decide +kernel⟩
set_option maxRecDepth 100000 in
theorem ok_mq_World_personAt : ov_okc mq_World_personAt := ⟨⟨ov_dec_ok (by decide +kernel), rfl⟩, ov_inT (List.mem_append_right _ (List.mem_of_getElem? (i := 428) rfl)) (by decide +kernel), by decide +kernel, ⟨by decide +kernel, by decide +kernel, by decide +kernel⟩, ov_inT (by decide +kernel) (by decide +kernel), by decide +kernel⟩
set_option maxRecDepth 100000 in
theorem ok_mq_World_threeAt : ov_okc mq_World_threeAt := ⟨⟨ov_dec_ok (by decide +kernel), rfl⟩, ov_inT (List.mem_append_right _ (List.mem_of_getElem? (i := 432) rfl)) (by decide +kernel), by decide +kernel, ⟨by decide +kernel, by decide +kernel, by decide +kernel⟩, ov_inT (by decide +kernel) (by decide +kernel), by decide +kernel⟩
set_option maxRecDepth 100000 in
theorem ok_mq_World_passMinute : ov_okc mq_World_passMinute := ⟨⟨ov_dec_ok (by decide +kernel), rfl⟩, ov_inT (List.mem_append_right _ (List.mem_of_getElem? (i := 593) rfl)) (by decide +kernel), by decide +kernel, ⟨by decide +kernel, by decide +kernel, by decide +kernel⟩, ov_inT (by decide +kernel) (by decide +kernel), by decide +kernel⟩
set_option maxRecDepth 100000 in
theorem ok_mq_World_draw : ov_okc mq_World_draw := ⟨⟨ov_dec_ok (by decide +kernel), rfl⟩, ov_inT (List.mem_append_right _ (List.mem_of_getElem? (i := 597) rfl)) (by decide +kernel), by decide +kernel, ⟨by decide +kernel, by decide +kernel, by decide +kernel⟩, ov_inT (by decide +kernel) (by decide +kernel), by decide +kernel⟩
set_option maxRecDepth 100000 in
theorem ok_mq_World_act : ov_okc mq_World_act := ⟨⟨ov_dec_ok (by decide +kernel), rfl⟩, ov_inT (List.mem_append_right _ (List.mem_of_getElem? (i := 603) rfl)) (by decide +kernel), by decide +kernel, ⟨by decide +kernel, by decide +kernel, by decide +kernel⟩, ov_inT (by decide +kernel) (by decide +kernel), by decide +kernel⟩
set_option maxRecDepth 100000 in
theorem ok_mq_World_begin : ov_okc mq_World_begin := ⟨⟨ov_dec_ok (by decide +kernel), rfl⟩, ov_inT (List.mem_append_right _ (List.mem_of_getElem? (i := 608) rfl)) (by decide +kernel), by decide +kernel, ⟨by decide +kernel, by decide +kernel, by decide +kernel⟩, ov_inT (by decide +kernel) (by decide +kernel), by decide +kernel⟩
set_option maxRecDepth 100000 in
theorem ok_mq_World_give : ov_okc mq_World_give := ⟨⟨ov_dec_ok (by decide +kernel), rfl⟩, ov_inT (List.mem_append_right _ (List.mem_of_getElem? (i := 612) rfl)) (by decide +kernel), by decide +kernel, ⟨by decide +kernel, by decide +kernel, by decide +kernel⟩, ov_inT (by decide +kernel) (by decide +kernel), by decide +kernel⟩
set_option maxRecDepth 100000 in
theorem ok_mq_World_see : ov_okc mq_World_see := ⟨⟨ov_dec_ok (by decide +kernel), rfl⟩, ov_inT (List.mem_append_right _ (List.mem_of_getElem? (i := 625) rfl)) (by decide +kernel), by decide +kernel, ⟨by decide +kernel, by decide +kernel, by decide +kernel⟩, ov_inT (by decide +kernel) (by decide +kernel), by decide +kernel⟩
set_option maxRecDepth 100000 in
theorem ok_mq_World_personOf : ov_okc mq_World_personOf := ⟨⟨ov_dec_ok (by decide +kernel), rfl⟩, ov_inT (List.mem_append_right _ (List.mem_of_getElem? (i := 629) rfl)) (by decide +kernel), by decide +kernel, ⟨by decide +kernel, by decide +kernel, by decide +kernel⟩, ov_inT (by decide +kernel) (by decide +kernel), by decide +kernel⟩
set_option maxRecDepth 100000 in
theorem ok_mq_World_speak : ov_okc mq_World_speak := ⟨⟨ov_dec_ok (by decide +kernel), rfl⟩, ov_inT (List.mem_append_right _ (List.mem_of_getElem? (i := 638) rfl)) (by decide +kernel), by decide +kernel, ⟨by decide +kernel, by decide +kernel, by decide +kernel⟩, ov_inT (by decide +kernel) (by decide +kernel), by decide +kernel⟩
set_option maxRecDepth 100000 in
theorem ok_mq_World_workOn : ov_okc mq_World_workOn := ⟨⟨ov_dec_ok (by decide +kernel), rfl⟩, ov_inT (List.mem_append_right _ (List.mem_of_getElem? (i := 658) rfl)) (by decide +kernel), by decide +kernel, ⟨by decide +kernel, by decide +kernel, by decide +kernel⟩, ov_inT (by decide +kernel) (by decide +kernel), by decide +kernel⟩
set_option maxRecDepth 100000 in
theorem ok_mq_World_finishGiving : ov_okc mq_World_finishGiving := ⟨⟨ov_dec_ok (by decide +kernel), rfl⟩, ov_inT (List.mem_append_right _ (List.mem_of_getElem? (i := 662) rfl)) (by decide +kernel), by decide +kernel, ⟨by decide +kernel, by decide +kernel, by decide +kernel⟩, ov_inT (by decide +kernel) (by decide +kernel), by decide +kernel⟩
set_option maxRecDepth 100000 in
theorem ok_mq_World_finishFeeling : ov_okc mq_World_finishFeeling := ⟨⟨ov_dec_ok (by decide +kernel), rfl⟩, ov_inT (List.mem_append_right _ (List.mem_of_getElem? (i := 666) rfl)) (by decide +kernel), by decide +kernel, ⟨by decide +kernel, by decide +kernel, by decide +kernel⟩, ov_inT (by decide +kernel) (by decide +kernel), by decide +kernel⟩
set_option maxRecDepth 100000 in
theorem ok_mq_World_noisesNow : ov_okc mq_World_noisesNow := ⟨⟨ov_dec_ok (by decide +kernel), rfl⟩, ov_inT (List.mem_append_right _ (List.mem_of_getElem? (i := 674) rfl)) (by decide +kernel), by decide +kernel, ⟨by decide +kernel, by decide +kernel, by decide +kernel⟩, ov_inT (by decide +kernel) (by decide +kernel), by decide +kernel⟩
set_option maxRecDepth 100000 in
theorem ok_mq_World_endMinute : ov_okc mq_World_endMinute := ⟨⟨ov_dec_ok (by decide +kernel), rfl⟩, ov_inT (List.mem_append_right _ (List.mem_of_getElem? (i := 678) rfl)) (by decide +kernel), by decide +kernel, ⟨by decide +kernel, by decide +kernel, by decide +kernel⟩, ov_inT (by decide +kernel) (by decide +kernel), by decide +kernel⟩
set_option maxRecDepth 100000 in
theorem ok_mq_World_hearNoises : ov_okc mq_World_hearNoises := ⟨⟨ov_dec_ok (by decide +kernel), rfl⟩, ov_inT (List.mem_append_right _ (List.mem_of_getElem? (i := 682) rfl)) (by decide +kernel), by decide +kernel, ⟨by decide +kernel, by decide +kernel, by decide +kernel⟩, ov_inT (by decide +kernel) (by decide +kernel), by decide +kernel⟩
set_option maxRecDepth 100000 in
theorem ok_mq_World_addNoise : ov_okc mq_World_addNoise := ⟨⟨ov_dec_ok (by decide +kernel), rfl⟩, ov_inT (List.mem_append_right _ (List.mem_of_getElem? (i := 711) rfl)) (by decide +kernel), by decide +kernel, ⟨by decide +kernel, by decide +kernel, by decide +kernel⟩, ov_inT (by decide +kernel) (by decide +kernel), by decide +kernel⟩
set_option maxRecDepth 100000 in
theorem ok_mq_World_knowersOf : ov_okc mq_World_knowersOf := ⟨⟨ov_dec_ok (by decide +kernel), rfl⟩, ov_inT (List.mem_append_right _ (List.mem_of_getElem? (i := 744) rfl)) (by decide +kernel), by decide +kernel, ⟨by decide +kernel, by decide +kernel, by decide +kernel⟩, ov_inT (by decide +kernel) (by decide +kernel), by decide +kernel⟩
set_option maxRecDepth 100000 in
theorem ok_mq_World_copyFrom : ov_okc mq_World_copyFrom := ⟨⟨ov_dec_ok (by decide +kernel), rfl⟩, ov_inT (List.mem_append_right _ (List.mem_of_getElem? (i := 950) rfl)) (by decide +kernel), by decide +kernel, ⟨by decide +kernel, by decide +kernel, by decide +kernel⟩, ov_inT (by decide +kernel) (by decide +kernel), by decide +kernel⟩
set_option maxRecDepth 100000 in
theorem ok_mq_Eye_init : ov_okc mq_Eye_init := ⟨⟨ov_dec_ok (by decide +kernel), rfl⟩, ov_inT (List.mem_append_right _ (List.mem_of_getElem? (i := 26) rfl)) (by decide +kernel), by decide +kernel, ⟨by decide +kernel, by decide +kernel, by decide +kernel⟩, ov_inT (by decide +kernel) (by decide +kernel), by decide +kernel⟩
set_option maxRecDepth 100000 in
theorem ok_mq_Eye_state : ov_okc mq_Eye_state := ⟨⟨ov_dec_ok (by decide +kernel), rfl⟩, ov_inT (List.mem_append_right _ (List.mem_of_getElem? (i := 404) rfl)) (by decide +kernel), by decide +kernel, ⟨by decide +kernel, by decide +kernel, by decide +kernel⟩, ov_inT (by decide +kernel) (by decide +kernel), by decide +kernel⟩
set_option maxRecDepth 100000 in
theorem ok_mq_Eye_three : ov_okc mq_Eye_three := ⟨⟨ov_dec_ok (by decide +kernel), rfl⟩, ov_inT (List.mem_append_right _ (List.mem_of_getElem? (i := 408) rfl)) (by decide +kernel), by decide +kernel, ⟨by decide +kernel, by decide +kernel, by decide +kernel⟩, ov_inT (by decide +kernel) (by decide +kernel), by decide +kernel⟩
set_option maxRecDepth 100000 in
theorem ok_mq_Eye_within : ov_okc mq_Eye_within := ⟨⟨ov_dec_ok (by decide +kernel), rfl⟩, ov_inT (List.mem_append_right _ (List.mem_of_getElem? (i := 411) rfl)) (by decide +kernel), by decide +kernel, ⟨by decide +kernel, by decide +kernel, by decide +kernel⟩, ov_inT (by decide +kernel) (by decide +kernel), by decide +kernel⟩
set_option maxRecDepth 100000 in
theorem ok_mq_Eye_fact : ov_okc mq_Eye_fact := ⟨⟨ov_dec_ok (by decide +kernel), rfl⟩, ov_inT (List.mem_append_right _ (List.mem_of_getElem? (i := 420) rfl)) (by decide +kernel), by decide +kernel, ⟨by decide +kernel, by decide +kernel, by decide +kernel⟩, ov_inT (by decide +kernel) (by decide +kernel), by decide +kernel⟩
set_option maxRecDepth 100000 in
theorem ok_mq_Eye_trust : ov_okc mq_Eye_trust := ⟨⟨ov_dec_ok (by decide +kernel), rfl⟩, ov_inT (List.mem_append_right _ (List.mem_of_getElem? (i := 424) rfl)) (by decide +kernel), by decide +kernel, ⟨by decide +kernel, by decide +kernel, by decide +kernel⟩, ov_inT (by decide +kernel) (by decide +kernel), by decide +kernel⟩
set_option maxRecDepth 100000 in
theorem ok_mq_Eye_withBit : ov_okc mq_Eye_withBit := ⟨⟨ov_dec_ok (by decide +kernel), rfl⟩, ov_inT (List.mem_append_right _ (List.mem_of_getElem? (i := 435) rfl)) (by decide +kernel), by decide +kernel, ⟨by decide +kernel, by decide +kernel, by decide +kernel⟩, ov_inT (by decide +kernel) (by decide +kernel), by decide +kernel⟩
set_option maxRecDepth 100000 in
theorem ok_mq_Eye_feed : ov_okc mq_Eye_feed := ⟨⟨ov_dec_ok (by decide +kernel), rfl⟩, ov_inT (List.mem_append_right _ (List.mem_of_getElem? (i := 439) rfl)) (by decide +kernel), by decide +kernel, ⟨by decide +kernel, by decide +kernel, by decide +kernel⟩, ov_inT (by decide +kernel) (by decide +kernel), by decide +kernel⟩
set_option maxRecDepth 100000 in
theorem ok_mq_Eye_end : ov_okc mq_Eye_end := ⟨⟨ov_dec_ok (by decide +kernel), rfl⟩, ov_inT (List.mem_append_right _ (List.mem_of_getElem? (i := 448) rfl)) (by decide +kernel), by decide +kernel, ⟨by decide +kernel, by decide +kernel, by decide +kernel⟩, ov_inT (by decide +kernel) (by decide +kernel), by decide +kernel⟩
set_option maxRecDepth 100000 in
theorem ok_mq_Eye_text : ov_okc mq_Eye_text := ⟨⟨ov_dec_ok (by decide +kernel), rfl⟩, ov_inT (List.mem_append_right _ (List.mem_of_getElem? (i := 452) rfl)) (by decide +kernel), by decide +kernel, ⟨by decide +kernel, by decide +kernel, by decide +kernel⟩, ov_inT (by decide +kernel) (by decide +kernel), by decide +kernel⟩
set_option maxRecDepth 100000 in
theorem ok_mq_Eye_fault : ov_okc mq_Eye_fault := ⟨⟨ov_dec_ok (by decide +kernel), rfl⟩, ov_inT (List.mem_append_right _ (List.mem_of_getElem? (i := 584) rfl)) (by decide +kernel), by decide +kernel, ⟨by decide +kernel, by decide +kernel, by decide +kernel⟩, ov_inT (by decide +kernel) (by decide +kernel), by decide +kernel⟩
set_option maxRecDepth 100000 in
theorem ok_mq_Eye_minutes : ov_okc mq_Eye_minutes := ⟨⟨ov_dec_ok (by decide +kernel), rfl⟩, ov_inT (List.mem_append_right _ (List.mem_of_getElem? (i := 588) rfl)) (by decide +kernel), by decide +kernel, ⟨by decide +kernel, by decide +kernel, by decide +kernel⟩, ov_inT (by decide +kernel) (by decide +kernel), by decide +kernel⟩
set_option maxRecDepth 100000 in
theorem ok_mq_Eye_holdsBit : ov_okc mq_Eye_holdsBit := ⟨⟨ov_dec_ok (by decide +kernel), rfl⟩, ov_inT (List.mem_append_right _ (List.mem_of_getElem? (i := 650) rfl)) (by decide +kernel), by decide +kernel, ⟨by decide +kernel, by decide +kernel, by decide +kernel⟩, ov_inT (by decide +kernel) (by decide +kernel), by decide +kernel⟩
set_option maxRecDepth 100000 in
theorem ok_mq_Eye_where : ov_okc mq_Eye_where := ⟨⟨ov_dec_ok (by decide +kernel), rfl⟩, ov_inT (List.mem_append_right _ (List.mem_of_getElem? (i := 686) rfl)) (by decide +kernel), by decide +kernel, ⟨by decide +kernel, by decide +kernel, by decide +kernel⟩, ov_inT (by decide +kernel) (by decide +kernel), by decide +kernel⟩
set_option maxRecDepth 100000 in
theorem ok_mq_Eye_knows : ov_okc mq_Eye_knows := ⟨⟨ov_dec_ok (by decide +kernel), rfl⟩, ov_inT (List.mem_append_right _ (List.mem_of_getElem? (i := 694) rfl)) (by decide +kernel), by decide +kernel, ⟨by decide +kernel, by decide +kernel, by decide +kernel⟩, ov_inT (by decide +kernel) (by decide +kernel), by decide +kernel⟩
set_option maxRecDepth 100000 in
theorem ok_mq_Eye_origin : ov_okc mq_Eye_origin := ⟨⟨ov_dec_ok (by decide +kernel), rfl⟩, ov_inT (List.mem_append_right _ (List.mem_of_getElem? (i := 699) rfl)) (by decide +kernel), by decide +kernel, ⟨by decide +kernel, by decide +kernel, by decide +kernel⟩, ov_inT (by decide +kernel) (by decide +kernel), by decide +kernel⟩
end
section
set_option maxRecDepth 100000 in
theorem ok_mq_Eye_noise : ov_okc mq_Eye_noise := ⟨⟨ov_dec_ok (by decide +kernel), rfl⟩, ov_inT (List.mem_append_right _ (List.mem_of_getElem? (i := 707) rfl)) (by decide +kernel), by decide +kernel, ⟨by decide +kernel, by decide +kernel, by decide +kernel⟩, ov_inT (by decide +kernel) (by decide +kernel), by decide +kernel⟩
set_option maxRecDepth 100000 in
theorem ok_mq_Eye_heard : ov_okc mq_Eye_heard := ⟨⟨ov_dec_ok (by decide +kernel), rfl⟩, ov_inT (List.mem_append_right _ (List.mem_of_getElem? (i := 716) rfl)) (by decide +kernel), by decide +kernel, ⟨by decide +kernel, by decide +kernel, by decide +kernel⟩, ov_inT (by decide +kernel) (by decide +kernel), by decide +kernel⟩
set_option maxRecDepth 100000 in
theorem ok_mq_Eye_held : ov_okc mq_Eye_held := ⟨⟨ov_dec_ok (by decide +kernel), rfl⟩, ov_inT (List.mem_append_right _ (List.mem_of_getElem? (i := 720) rfl)) (by decide +kernel), by decide +kernel, ⟨by decide +kernel, by decide +kernel, by decide +kernel⟩, ov_inT (by decide +kernel) (by decide +kernel), by decide +kernel⟩
set_option maxRecDepth 100000 in
theorem ok_mq_Eye_of : ov_okc mq_Eye_of := ⟨⟨ov_dec_ok (by decide +kernel), rfl⟩, ov_inT (List.mem_append_right _ (List.mem_of_getElem? (i := 724) rfl)) (by decide +kernel), by decide +kernel, ⟨by decide +kernel, by decide +kernel, by decide +kernel⟩, ov_inT (by decide +kernel) (by decide +kernel), by decide +kernel⟩
set_option maxRecDepth 100000 in
theorem ok_mq_Eye_book : ov_okc mq_Eye_book := ⟨⟨ov_dec_ok (by decide +kernel), rfl⟩, ov_inT (List.mem_append_right _ (List.mem_of_getElem? (i := 732) rfl)) (by decide +kernel), by decide +kernel, ⟨by decide +kernel, by decide +kernel, by decide +kernel⟩, ov_inT (by decide +kernel) (by decide +kernel), by decide +kernel⟩
set_option maxRecDepth 100000 in
theorem ok_mq_Eye_errand : ov_okc mq_Eye_errand := ⟨⟨ov_dec_ok (by decide +kernel), rfl⟩, ov_inT (List.mem_append_right _ (List.mem_of_getElem? (i := 740) rfl)) (by decide +kernel), by decide +kernel, ⟨by decide +kernel, by decide +kernel, by decide +kernel⟩, ov_inT (by decide +kernel) (by decide +kernel), by decide +kernel⟩
set_option maxRecDepth 100000 in
theorem ok_mq_Eye_talk : ov_okc mq_Eye_talk := ⟨⟨ov_dec_ok (by decide +kernel), rfl⟩, ov_inT (List.mem_append_right _ (List.mem_of_getElem? (i := 761) rfl)) (by decide +kernel), by decide +kernel, ⟨by decide +kernel, by decide +kernel, by decide +kernel⟩, ov_inT (by decide +kernel) (by decide +kernel), by decide +kernel⟩
set_option maxRecDepth 100000 in
theorem ok_mq_Eye_danger : ov_okc mq_Eye_danger := ⟨⟨ov_dec_ok (by decide +kernel), rfl⟩, ov_inT (List.mem_append_right _ (List.mem_of_getElem? (i := 796) rfl)) (by decide +kernel), by decide +kernel, ⟨by decide +kernel, by decide +kernel, by decide +kernel⟩, ov_inT (by decide +kernel) (by decide +kernel), by decide +kernel⟩
set_option maxRecDepth 100000 in
theorem ok_mq_Eye_dangerAt : ov_okc mq_Eye_dangerAt := ⟨⟨ov_dec_ok (by decide +kernel), rfl⟩, ov_inT (List.mem_append_right _ (List.mem_of_getElem? (i := 799) rfl)) (by decide +kernel), by decide +kernel, ⟨by decide +kernel, by decide +kernel, by decide +kernel⟩, ov_inT (by decide +kernel) (by decide +kernel), by decide +kernel⟩
set_option maxRecDepth 100000 in
theorem ok_mq_Eye_way : ov_okc mq_Eye_way := ⟨⟨ov_dec_ok (by decide +kernel), rfl⟩, ov_inT (List.mem_append_right _ (List.mem_of_getElem? (i := 803) rfl)) (by decide +kernel), by decide +kernel, ⟨by decide +kernel, by decide +kernel, by decide +kernel⟩, ov_inT (by decide +kernel) (by decide +kernel), by decide +kernel⟩
set_option maxRecDepth 100000 in
theorem ok_mq_Eye_spot : ov_okc mq_Eye_spot := ⟨⟨ov_dec_ok (by decide +kernel), rfl⟩, ov_inT (List.mem_append_right _ (List.mem_of_getElem? (i := 833) rfl)) (by decide +kernel), by decide +kernel, ⟨by decide +kernel, by decide +kernel, by decide +kernel⟩, ov_inT (by decide +kernel) (by decide +kernel), by decide +kernel⟩
set_option maxRecDepth 100000 in
theorem ok_mq_Eye_felt : ov_okc mq_Eye_felt := ⟨⟨ov_dec_ok (by decide +kernel), rfl⟩, ov_inT (List.mem_append_right _ (List.mem_of_getElem? (i := 837) rfl)) (by decide +kernel), by decide +kernel, ⟨by decide +kernel, by decide +kernel, by decide +kernel⟩, ov_inT (by decide +kernel) (by decide +kernel), by decide +kernel⟩
set_option maxRecDepth 100000 in
theorem ok_mq_Eye_liars : ov_okc mq_Eye_liars := ⟨⟨ov_dec_ok (by decide +kernel), rfl⟩, ov_inT (List.mem_append_right _ (List.mem_of_getElem? (i := 859) rfl)) (by decide +kernel), by decide +kernel, ⟨by decide +kernel, by decide +kernel, by decide +kernel⟩, ov_inT (by decide +kernel) (by decide +kernel), by decide +kernel⟩
set_option maxRecDepth 100000 in
theorem ok_mq_Eye_watch : ov_okc mq_Eye_watch := ⟨⟨ov_dec_ok (by decide +kernel), rfl⟩, ov_inT (List.mem_append_right _ (List.mem_of_getElem? (i := 883) rfl)) (by decide +kernel), by decide +kernel, ⟨by decide +kernel, by decide +kernel, by decide +kernel⟩, ov_inT (by decide +kernel) (by decide +kernel), by decide +kernel⟩
set_option maxRecDepth 100000 in
theorem ok_mq_Eye_watches : ov_okc mq_Eye_watches := ⟨⟨ov_dec_ok (by decide +kernel), rfl⟩, ov_inT (List.mem_append_right _ (List.mem_of_getElem? (i := 892) rfl)) (by decide +kernel), by decide +kernel, ⟨by decide +kernel, by decide +kernel, by decide +kernel⟩, ov_inT (by decide +kernel) (by decide +kernel), by decide +kernel⟩
set_option maxRecDepth 100000 in
theorem ok_mq_Eye_lends : ov_okc mq_Eye_lends := ⟨⟨ov_dec_ok (by decide +kernel), rfl⟩, ov_inT (List.mem_append_right _ (List.mem_of_getElem? (i := 915) rfl)) (by decide +kernel), by decide +kernel, ⟨by decide +kernel, by decide +kernel, by decide +kernel⟩, ov_inT (by decide +kernel) (by decide +kernel), by decide +kernel⟩
set_option maxRecDepth 100000 in
theorem ok_mq_Eye_ring : ov_okc mq_Eye_ring := ⟨⟨ov_dec_ok (by decide +kernel), rfl⟩, ov_inT (List.mem_append_right _ (List.mem_of_getElem? (i := 919) rfl)) (by decide +kernel), by decide +kernel, ⟨by decide +kernel, by decide +kernel, by decide +kernel⟩, ov_inT (by decide +kernel) (by decide +kernel), by decide +kernel⟩
set_option maxRecDepth 100000 in
theorem ok_mq_Eye_image : ov_okc mq_Eye_image := ⟨⟨ov_dec_ok (by decide +kernel), rfl⟩, ov_inT (List.mem_append_right _ (List.mem_of_getElem? (i := 946) rfl)) (by decide +kernel), by decide +kernel, ⟨by decide +kernel, by decide +kernel, by decide +kernel⟩, ov_inT (by decide +kernel) (by decide +kernel), by decide +kernel⟩
set_option maxRecDepth 100000 in
theorem ok_mq_Eye_look : ov_okc mq_Eye_look := ⟨⟨ov_dec_ok (by decide +kernel), rfl⟩, ov_inT (List.mem_append_right _ (List.mem_of_getElem? (i := 975) rfl)) (by decide +kernel), by decide +kernel, ⟨by decide +kernel, by decide +kernel, by decide +kernel⟩, ov_inT (by decide +kernel) (by decide +kernel), by decide +kernel⟩
set_option maxRecDepth 100000 in
theorem ok_mq_Mod_init : ov_okc mq_Mod_init := ⟨⟨ov_dec_ok (by decide +kernel), rfl⟩, ov_inT (List.mem_append_right _ (List.mem_of_getElem? (i := 980) rfl)) (by decide +kernel), by decide +kernel, ⟨by decide +kernel, by decide +kernel, by decide +kernel⟩, ov_inT (by decide +kernel) (by decide +kernel), by decide +kernel⟩
set_option maxRecDepth 100000 in
theorem ok_mq_Mod_state : ov_okc mq_Mod_state := ⟨⟨ov_dec_ok (by decide +kernel), rfl⟩, ov_inT (List.mem_append_right _ (List.mem_of_getElem? (i := 1180) rfl)) (by decide +kernel), by decide +kernel, ⟨by decide +kernel, by decide +kernel, by decide +kernel⟩, ov_inT (by decide +kernel) (by decide +kernel), by decide +kernel⟩
set_option maxRecDepth 100000 in
theorem ok_mq_Mod_three : ov_okc mq_Mod_three := ⟨⟨ov_dec_ok (by decide +kernel), rfl⟩, ov_inT (List.mem_append_right _ (List.mem_of_getElem? (i := 1184) rfl)) (by decide +kernel), by decide +kernel, ⟨by decide +kernel, by decide +kernel, by decide +kernel⟩, ov_inT (by decide +kernel) (by decide +kernel), by decide +kernel⟩
set_option maxRecDepth 100000 in
theorem ok_mq_Mod_isIn : ov_okc mq_Mod_isIn := ⟨⟨ov_dec_ok (by decide +kernel), rfl⟩, ov_inT (List.mem_append_right _ (List.mem_of_getElem? (i := 1188) rfl)) (by decide +kernel), by decide +kernel, ⟨by decide +kernel, by decide +kernel, by decide +kernel⟩, ov_inT (by decide +kernel) (by decide +kernel), by decide +kernel⟩
set_option maxRecDepth 100000 in
theorem ok_mq_Mod_fact : ov_okc mq_Mod_fact := ⟨⟨ov_dec_ok (by decide +kernel), rfl⟩, ov_inT (List.mem_append_right _ (List.mem_of_getElem? (i := 1192) rfl)) (by decide +kernel), by decide +kernel, ⟨by decide +kernel, by decide +kernel, by decide +kernel⟩, ov_inT (by decide +kernel) (by decide +kernel), by decide +kernel⟩
set_option maxRecDepth 100000 in
theorem ok_mq_Mod_isFact : ov_okc mq_Mod_isFact := ⟨⟨ov_dec_ok (by decide +kernel), rfl⟩, ov_inT (List.mem_append_right _ (List.mem_of_getElem? (i := 1196) rfl)) (by decide +kernel), by decide +kernel, ⟨by decide +kernel, by decide +kernel, by decide +kernel⟩, ov_inT (by decide +kernel) (by decide +kernel), by decide +kernel⟩
set_option maxRecDepth 100000 in
theorem ok_mq_Mod_trust : ov_okc mq_Mod_trust := ⟨⟨ov_dec_ok (by decide +kernel), rfl⟩, ov_inT (List.mem_append_right _ (List.mem_of_getElem? (i := 1200) rfl)) (by decide +kernel), by decide +kernel, ⟨by decide +kernel, by decide +kernel, by decide +kernel⟩, ov_inT (by decide +kernel) (by decide +kernel), by decide +kernel⟩
set_option maxRecDepth 100000 in
theorem ok_mq_Mod_isPerson : ov_okc mq_Mod_isPerson := ⟨⟨ov_dec_ok (by decide +kernel), rfl⟩, ov_inT (List.mem_append_right _ (List.mem_of_getElem? (i := 1204) rfl)) (by decide +kernel), by decide +kernel, ⟨by decide +kernel, by decide +kernel, by decide +kernel⟩, ov_inT (by decide +kernel) (by decide +kernel), by decide +kernel⟩
set_option maxRecDepth 100000 in
theorem ok_mq_Mod_isThree : ov_okc mq_Mod_isThree := ⟨⟨ov_dec_ok (by decide +kernel), rfl⟩, ov_inT (List.mem_append_right _ (List.mem_of_getElem? (i := 1208) rfl)) (by decide +kernel), by decide +kernel, ⟨by decide +kernel, by decide +kernel, by decide +kernel⟩, ov_inT (by decide +kernel) (by decide +kernel), by decide +kernel⟩
set_option maxRecDepth 100000 in
theorem ok_mq_Mod_feed : ov_okc mq_Mod_feed := ⟨⟨ov_dec_ok (by decide +kernel), rfl⟩, ov_inT (List.mem_append_right _ (List.mem_of_getElem? (i := 1212) rfl)) (by decide +kernel), by decide +kernel, ⟨by decide +kernel, by decide +kernel, by decide +kernel⟩, ov_inT (by decide +kernel) (by decide +kernel), by decide +kernel⟩
set_option maxRecDepth 100000 in
theorem ok_mq_Mod_puts : ov_okc mq_Mod_puts := ⟨⟨ov_dec_ok (by decide +kernel), rfl⟩, ov_inT (List.mem_append_right _ (List.mem_of_getElem? (i := 1216) rfl)) (by decide +kernel), by decide +kernel, ⟨by decide +kernel, by decide +kernel, by decide +kernel⟩, ov_inT (by decide +kernel) (by decide +kernel), by decide +kernel⟩
set_option maxRecDepth 100000 in
theorem ok_mq_Mod_end : ov_okc mq_Mod_end := ⟨⟨ov_dec_ok (by decide +kernel), rfl⟩, ov_inT (List.mem_append_right _ (List.mem_of_getElem? (i := 1220) rfl)) (by decide +kernel), by decide +kernel, ⟨by decide +kernel, by decide +kernel, by decide +kernel⟩, ov_inT (by decide +kernel) (by decide +kernel), by decide +kernel⟩
set_option maxRecDepth 100000 in
theorem ok_mq_Mod_text : ov_okc mq_Mod_text := ⟨⟨ov_dec_ok (by decide +kernel), rfl⟩, ov_inT (List.mem_append_right _ (List.mem_of_getElem? (i := 1224) rfl)) (by decide +kernel), by decide +kernel, ⟨by decide +kernel, by decide +kernel, by decide +kernel⟩, ov_inT (by decide +kernel) (by decide +kernel), by decide +kernel⟩
set_option maxRecDepth 100000 in
theorem ok_mq_Mod_reads : ov_okc mq_Mod_reads := ⟨⟨ov_dec_ok (by decide +kernel), rfl⟩, ov_inT (List.mem_append_right _ (List.mem_of_getElem? (i := 1228) rfl)) (by decide +kernel), by decide +kernel, ⟨by decide +kernel, by decide +kernel, by decide +kernel⟩, ov_inT (by decide +kernel) (by decide +kernel), by decide +kernel⟩
set_option maxRecDepth 100000 in
theorem ok_mq_Mod_raw : ov_okc mq_Mod_raw := ⟨⟨ov_dec_ok (by decide +kernel), rfl⟩, ov_inT (List.mem_append_right _ (List.mem_of_getElem? (i := 1232) rfl)) (by decide +kernel), by decide +kernel, ⟨by decide +kernel, by decide +kernel, by decide +kernel⟩, ov_inT (by decide +kernel) (by decide +kernel), by decide +kernel⟩
set_option maxRecDepth 100000 in
theorem ok_mq_Mod_isLetter : ov_okc mq_Mod_isLetter := ⟨⟨ov_dec_ok (by decide +kernel), rfl⟩, ov_inT (List.mem_append_right _ (List.mem_of_getElem? (i := 1236) rfl)) (by decide +kernel), by decide +kernel, ⟨by decide +kernel, by decide +kernel, by decide +kernel⟩, ov_inT (by decide +kernel) (by decide +kernel), by decide +kernel⟩
set_option maxRecDepth 100000 in
theorem ok_mq_Mod_wordOf : ov_okc mq_Mod_wordOf := ⟨⟨ov_dec_ok (by decide +kernel), rfl⟩, ov_inT (List.mem_append_right _ (List.mem_of_getElem? (i := 1240) rfl)) (by decide +kernel), by decide +kernel, ⟨by decide +kernel, by decide +kernel, by decide +kernel⟩, ov_inT (by decide +kernel) (by decide +kernel), by decide +kernel⟩
set_option maxRecDepth 100000 in
theorem ok_mq_Mod_isDigit : ov_okc mq_Mod_isDigit := ⟨⟨ov_dec_ok (by decide +kernel), rfl⟩, ov_inT (List.mem_append_right _ (List.mem_of_getElem? (i := 1244) rfl)) (by decide +kernel), by decide +kernel, ⟨by decide +kernel, by decide +kernel, by decide +kernel⟩, ov_inT (by decide +kernel) (by decide +kernel), by decide +kernel⟩
set_option maxRecDepth 100000 in
theorem ok_mq_Mod_readPlan : ov_okc mq_Mod_readPlan := ⟨⟨ov_dec_ok (by decide +kernel), rfl⟩, ov_inT (List.mem_append_right _ (List.mem_of_getElem? (i := 1248) rfl)) (by decide +kernel), by decide +kernel, ⟨by decide +kernel, by decide +kernel, by decide +kernel⟩, ov_inT (by decide +kernel) (by decide +kernel), by decide +kernel⟩
set_option maxRecDepth 100000 in
theorem ok_mq_Mod_errs : ov_okc mq_Mod_errs := ⟨⟨ov_dec_ok (by decide +kernel), rfl⟩, ov_inT (List.mem_append_right _ (List.mem_of_getElem? (i := 1252) rfl)) (by decide +kernel), by decide +kernel, ⟨by decide +kernel, by decide +kernel, by decide +kernel⟩, ov_inT (by decide +kernel) (by decide +kernel), by decide +kernel⟩
set_option maxRecDepth 100000 in
theorem ok_mq_Mod_readStep : ov_okc mq_Mod_readStep := ⟨⟨ov_dec_ok (by decide +kernel), rfl⟩, ov_inT (List.mem_append_right _ (List.mem_of_getElem? (i := 1256) rfl)) (by decide +kernel), by decide +kernel, ⟨by decide +kernel, by decide +kernel, by decide +kernel⟩, ov_inT (by decide +kernel) (by decide +kernel), by decide +kernel⟩
set_option maxRecDepth 100000 in
theorem ok_mq_Mod_readThing : ov_okc mq_Mod_readThing := ⟨⟨ov_dec_ok (by decide +kernel), rfl⟩, ov_inT (List.mem_append_right _ (List.mem_of_getElem? (i := 1260) rfl)) (by decide +kernel), by decide +kernel, ⟨by decide +kernel, by decide +kernel, by decide +kernel⟩, ov_inT (by decide +kernel) (by decide +kernel), by decide +kernel⟩
set_option maxRecDepth 100000 in
theorem ok_mq_Mod_readNumber : ov_okc mq_Mod_readNumber := ⟨⟨ov_dec_ok (by decide +kernel), rfl⟩, ov_inT (List.mem_append_right _ (List.mem_of_getElem? (i := 1264) rfl)) (by decide +kernel), by decide +kernel, ⟨by decide +kernel, by decide +kernel, by decide +kernel⟩, ov_inT (by decide +kernel) (by decide +kernel), by decide +kernel⟩
set_option maxRecDepth 100000 in
theorem ok_mq_Mod_readTo : ov_okc mq_Mod_readTo := ⟨⟨ov_dec_ok (by decide +kernel), rfl⟩, ov_inT (List.mem_append_right _ (List.mem_of_getElem? (i := 1268) rfl)) (by decide +kernel), by decide +kernel, ⟨by decide +kernel, by decide +kernel, by decide +kernel⟩, ov_inT (by decide +kernel) (by decide +kernel), by decide +kernel⟩
set_option maxRecDepth 100000 in
theorem ok_mq_Mod_fault : ov_okc mq_Mod_fault := ⟨⟨ov_dec_ok (by decide +kernel), rfl⟩, ov_inT (List.mem_append_right _ (List.mem_of_getElem? (i := 1272) rfl)) (by decide +kernel), by decide +kernel, ⟨by decide +kernel, by decide +kernel, by decide +kernel⟩, ov_inT (by decide +kernel) (by decide +kernel), by decide +kernel⟩
set_option maxRecDepth 100000 in
theorem ok_mq_Mod_minutes : ov_okc mq_Mod_minutes := ⟨⟨ov_dec_ok (by decide +kernel), rfl⟩, ov_inT (List.mem_append_right _ (List.mem_of_getElem? (i := 1276) rfl)) (by decide +kernel), by decide +kernel, ⟨by decide +kernel, by decide +kernel, by decide +kernel⟩, ov_inT (by decide +kernel) (by decide +kernel), by decide +kernel⟩
set_option maxRecDepth 100000 in
theorem ok_mq_Mod_goesBy : ov_okc mq_Mod_goesBy := ⟨⟨ov_dec_ok (by decide +kernel), rfl⟩, ov_inT (List.mem_append_right _ (List.mem_of_getElem? (i := 1281) rfl)) (by decide +kernel), by decide +kernel, ⟨by decide +kernel, by decide +kernel, by decide +kernel⟩, ov_inT (by decide +kernel) (by decide +kernel), by decide +kernel⟩
set_option maxRecDepth 100000 in
theorem ok_mq_Mod_draw : ov_okc mq_Mod_draw := ⟨⟨ov_dec_ok (by decide +kernel), rfl⟩, ov_inT (List.mem_append_right _ (List.mem_of_getElem? (i := 1285) rfl)) (by decide +kernel), by decide +kernel, ⟨by decide +kernel, by decide +kernel, by decide +kernel⟩, ov_inT (by decide +kernel) (by decide +kernel), by decide +kernel⟩
set_option maxRecDepth 100000 in
theorem ok_mq_Mod_ends : ov_okc mq_Mod_ends := ⟨⟨ov_dec_ok (by decide +kernel), rfl⟩, ov_inT (List.mem_append_right _ (List.mem_of_getElem? (i := 1291) rfl)) (by decide +kernel), by decide +kernel, ⟨by decide +kernel, by decide +kernel, by decide +kernel⟩, ov_inT (by decide +kernel) (by decide +kernel), by decide +kernel⟩
set_option maxRecDepth 100000 in
theorem ok_mq_Mod_handsOver : ov_okc mq_Mod_handsOver := ⟨⟨ov_dec_ok (by decide +kernel), rfl⟩, ov_inT (List.mem_append_right _ (List.mem_of_getElem? (i := 1295) rfl)) (by decide +kernel), by decide +kernel, ⟨by decide +kernel, by decide +kernel, by decide +kernel⟩, ov_inT (by decide +kernel) (by decide +kernel), by decide +kernel⟩
set_option maxRecDepth 100000 in
theorem ok_mq_Mod_feels : ov_okc mq_Mod_feels := ⟨⟨ov_dec_ok (by decide +kernel), rfl⟩, ov_inT (List.mem_append_right _ (List.mem_of_getElem? (i := 1299) rfl)) (by decide +kernel), by decide +kernel, ⟨by decide +kernel, by decide +kernel, by decide +kernel⟩, ov_inT (by decide +kernel) (by decide +kernel), by decide +kernel⟩
set_option maxRecDepth 100000 in
theorem ok_mq_Mod_thing : ov_okc mq_Mod_thing := ⟨⟨ov_dec_ok (by decide +kernel), rfl⟩, ov_inT (List.mem_append_right _ (List.mem_of_getElem? (i := 1303) rfl)) (by decide +kernel), by decide +kernel, ⟨by decide +kernel, by decide +kernel, by decide +kernel⟩, ov_inT (by decide +kernel) (by decide +kernel), by decide +kernel⟩
set_option maxRecDepth 100000 in
theorem ok_mq_Mod_begins : ov_okc mq_Mod_begins := ⟨⟨ov_dec_ok (by decide +kernel), rfl⟩, ov_inT (List.mem_append_right _ (List.mem_of_getElem? (i := 1307) rfl)) (by decide +kernel), by decide +kernel, ⟨by decide +kernel, by decide +kernel, by decide +kernel⟩, ov_inT (by decide +kernel) (by decide +kernel), by decide +kernel⟩
set_option maxRecDepth 100000 in
theorem ok_mq_Mod_sees : ov_okc mq_Mod_sees := ⟨⟨ov_dec_ok (by decide +kernel), rfl⟩, ov_inT (List.mem_append_right _ (List.mem_of_getElem? (i := 1311) rfl)) (by decide +kernel), by decide +kernel, ⟨by decide +kernel, by decide +kernel, by decide +kernel⟩, ov_inT (by decide +kernel) (by decide +kernel), by decide +kernel⟩
set_option maxRecDepth 100000 in
theorem ok_mq_Mod_holder : ov_okc mq_Mod_holder := ⟨⟨ov_dec_ok (by decide +kernel), rfl⟩, ov_inT (List.mem_append_right _ (List.mem_of_getElem? (i := 1315) rfl)) (by decide +kernel), by decide +kernel, ⟨by decide +kernel, by decide +kernel, by decide +kernel⟩, ov_inT (by decide +kernel) (by decide +kernel), by decide +kernel⟩
set_option maxRecDepth 100000 in
theorem ok_mq_Mod_says : ov_okc mq_Mod_says := ⟨⟨ov_dec_ok (by decide +kernel), rfl⟩, ov_inT (List.mem_append_right _ (List.mem_of_getElem? (i := 1319) rfl)) (by decide +kernel), by decide +kernel, ⟨by decide +kernel, by decide +kernel, by decide +kernel⟩, ov_inT (by decide +kernel) (by decide +kernel), by decide +kernel⟩
end
section
set_option maxRecDepth 100000 in
theorem ok_mq_Mod_sounds : ov_okc mq_Mod_sounds := ⟨⟨ov_dec_ok (by decide +kernel), rfl⟩, ov_inT (List.mem_append_right _ (List.mem_of_getElem? (i := 1323) rfl)) (by decide +kernel), by decide +kernel, ⟨by decide +kernel, by decide +kernel, by decide +kernel⟩, ov_inT (by decide +kernel) (by decide +kernel), by decide +kernel⟩
set_option maxRecDepth 100000 in
theorem ok_mq_Mod_where : ov_okc mq_Mod_where := ⟨⟨ov_dec_ok (by decide +kernel), rfl⟩, ov_inT (List.mem_append_right _ (List.mem_of_getElem? (i := 1327) rfl)) (by decide +kernel), by decide +kernel, ⟨by decide +kernel, by decide +kernel, by decide +kernel⟩, ov_inT (by decide +kernel) (by decide +kernel), by decide +kernel⟩
set_option maxRecDepth 100000 in
theorem ok_mq_Mod_isThing : ov_okc mq_Mod_isThing := ⟨⟨ov_dec_ok (by decide +kernel), rfl⟩, ov_inT (List.mem_append_right _ (List.mem_of_getElem? (i := 1331) rfl)) (by decide +kernel), by decide +kernel, ⟨by decide +kernel, by decide +kernel, by decide +kernel⟩, ov_inT (by decide +kernel) (by decide +kernel), by decide +kernel⟩
set_option maxRecDepth 100000 in
theorem ok_mq_Mod_knows : ov_okc mq_Mod_knows := ⟨⟨ov_dec_ok (by decide +kernel), rfl⟩, ov_inT (List.mem_append_right _ (List.mem_of_getElem? (i := 1335) rfl)) (by decide +kernel), by decide +kernel, ⟨by decide +kernel, by decide +kernel, by decide +kernel⟩, ov_inT (by decide +kernel) (by decide +kernel), by decide +kernel⟩
set_option maxRecDepth 100000 in
theorem ok_mq_Mod_held : ov_okc mq_Mod_held := ⟨⟨ov_dec_ok (by decide +kernel), rfl⟩, ov_inT (List.mem_append_right _ (List.mem_of_getElem? (i := 1339) rfl)) (by decide +kernel), by decide +kernel, ⟨by decide +kernel, by decide +kernel, by decide +kernel⟩, ov_inT (by decide +kernel) (by decide +kernel), by decide +kernel⟩
set_option maxRecDepth 100000 in
theorem ok_mq_Mod_of : ov_okc mq_Mod_of := ⟨⟨ov_dec_ok (by decide +kernel), rfl⟩, ov_inT (List.mem_append_right _ (List.mem_of_getElem? (i := 1343) rfl)) (by decide +kernel), by decide +kernel, ⟨by decide +kernel, by decide +kernel, by decide +kernel⟩, ov_inT (by decide +kernel) (by decide +kernel), by decide +kernel⟩
set_option maxRecDepth 100000 in
theorem ok_mq_Mod_book : ov_okc mq_Mod_book := ⟨⟨ov_dec_ok (by decide +kernel), rfl⟩, ov_inT (List.mem_append_right _ (List.mem_of_getElem? (i := 1347) rfl)) (by decide +kernel), by decide +kernel, ⟨by decide +kernel, by decide +kernel, by decide +kernel⟩, ov_inT (by decide +kernel) (by decide +kernel), by decide +kernel⟩
set_option maxRecDepth 100000 in
theorem ok_mq_Mod_origin : ov_okc mq_Mod_origin := ⟨⟨ov_dec_ok (by decide +kernel), rfl⟩, ov_inT (List.mem_append_right _ (List.mem_of_getElem? (i := 1351) rfl)) (by decide +kernel), by decide +kernel, ⟨by decide +kernel, by decide +kernel, by decide +kernel⟩, ov_inT (by decide +kernel) (by decide +kernel), by decide +kernel⟩
set_option maxRecDepth 100000 in
theorem ok_mq_Mod_noise : ov_okc mq_Mod_noise := ⟨⟨ov_dec_ok (by decide +kernel), rfl⟩, ov_inT (List.mem_append_right _ (List.mem_of_getElem? (i := 1355) rfl)) (by decide +kernel), by decide +kernel, ⟨by decide +kernel, by decide +kernel, by decide +kernel⟩, ov_inT (by decide +kernel) (by decide +kernel), by decide +kernel⟩
set_option maxRecDepth 100000 in
theorem ok_mq_Mod_heard : ov_okc mq_Mod_heard := ⟨⟨ov_dec_ok (by decide +kernel), rfl⟩, ov_inT (List.mem_append_right _ (List.mem_of_getElem? (i := 1359) rfl)) (by decide +kernel), by decide +kernel, ⟨by decide +kernel, by decide +kernel, by decide +kernel⟩, ov_inT (by decide +kernel) (by decide +kernel), by decide +kernel⟩
set_option maxRecDepth 100000 in
theorem ok_mq_Mod_errand : ov_okc mq_Mod_errand := ⟨⟨ov_dec_ok (by decide +kernel), rfl⟩, ov_inT (List.mem_append_right _ (List.mem_of_getElem? (i := 1363) rfl)) (by decide +kernel), by decide +kernel, ⟨by decide +kernel, by decide +kernel, by decide +kernel⟩, ov_inT (by decide +kernel) (by decide +kernel), by decide +kernel⟩
set_option maxRecDepth 100000 in
theorem ok_mq_Mod_knowersOf : ov_okc mq_Mod_knowersOf := ⟨⟨ov_dec_ok (by decide +kernel), rfl⟩, ov_inT (List.mem_append_right _ (List.mem_of_getElem? (i := 1367) rfl)) (by decide +kernel), by decide +kernel, ⟨by decide +kernel, by decide +kernel, by decide +kernel⟩, ov_inT (by decide +kernel) (by decide +kernel), by decide +kernel⟩
set_option maxRecDepth 100000 in
theorem ok_mq_Mod_placesOf : ov_okc mq_Mod_placesOf := ⟨⟨ov_dec_ok (by decide +kernel), rfl⟩, ov_inT (List.mem_append_right _ (List.mem_of_getElem? (i := 1371) rfl)) (by decide +kernel), by decide +kernel, ⟨by decide +kernel, by decide +kernel, by decide +kernel⟩, ov_inT (by decide +kernel) (by decide +kernel), by decide +kernel⟩
set_option maxRecDepth 100000 in
theorem ok_mq_Mod_memberOf : ov_okc mq_Mod_memberOf := ⟨⟨ov_dec_ok (by decide +kernel), rfl⟩, ov_inT (List.mem_append_right _ (List.mem_of_getElem? (i := 1375) rfl)) (by decide +kernel), by decide +kernel, ⟨by decide +kernel, by decide +kernel, by decide +kernel⟩, ov_inT (by decide +kernel) (by decide +kernel), by decide +kernel⟩
set_option maxRecDepth 100000 in
theorem ok_mq_Mod_findsErrand : ov_okc mq_Mod_findsErrand := ⟨⟨ov_dec_ok (by decide +kernel), rfl⟩, ov_inT (List.mem_append_right _ (List.mem_of_getElem? (i := 1379) rfl)) (by decide +kernel), by decide +kernel, ⟨by decide +kernel, by decide +kernel, by decide +kernel⟩, ov_inT (by decide +kernel) (by decide +kernel), by decide +kernel⟩
set_option maxRecDepth 100000 in
theorem ok_mq_Mod_errandFrom : ov_okc mq_Mod_errandFrom := ⟨⟨ov_dec_ok (by decide +kernel), rfl⟩, ov_inT (List.mem_append_right _ (List.mem_of_getElem? (i := 1384) rfl)) (by decide +kernel), by decide +kernel, ⟨by decide +kernel, by decide +kernel, by decide +kernel⟩, ov_inT (by decide +kernel) (by decide +kernel), by decide +kernel⟩
set_option maxRecDepth 100000 in
theorem ok_mq_Mod_movedTo : ov_okc mq_Mod_movedTo := ⟨⟨ov_dec_ok (by decide +kernel), rfl⟩, ov_inT (List.mem_append_right _ (List.mem_of_getElem? (i := 1388) rfl)) (by decide +kernel), by decide +kernel, ⟨by decide +kernel, by decide +kernel, by decide +kernel⟩, ov_inT (by decide +kernel) (by decide +kernel), by decide +kernel⟩
set_option maxRecDepth 100000 in
theorem ok_mq_Mod_comes : ov_okc mq_Mod_comes := ⟨⟨ov_dec_ok (by decide +kernel), rfl⟩, ov_inT (List.mem_append_right _ (List.mem_of_getElem? (i := 1392) rfl)) (by decide +kernel), by decide +kernel, ⟨by decide +kernel, by decide +kernel, by decide +kernel⟩, ov_inT (by decide +kernel) (by decide +kernel), by decide +kernel⟩
set_option maxRecDepth 100000 in
theorem ok_mq_Mod_talk : ov_okc mq_Mod_talk := ⟨⟨ov_dec_ok (by decide +kernel), rfl⟩, ov_inT (List.mem_append_right _ (List.mem_of_getElem? (i := 1396) rfl)) (by decide +kernel), by decide +kernel, ⟨by decide +kernel, by decide +kernel, by decide +kernel⟩, ov_inT (by decide +kernel) (by decide +kernel), by decide +kernel⟩
set_option maxRecDepth 100000 in
theorem ok_mq_Mod_stateOf : ov_okc mq_Mod_stateOf := ⟨⟨ov_dec_ok (by decide +kernel), rfl⟩, ov_inT (List.mem_append_right _ (List.mem_of_getElem? (i := 1400) rfl)) (by decide +kernel), by decide +kernel, ⟨by decide +kernel, by decide +kernel, by decide +kernel⟩, ov_inT (by decide +kernel) (by decide +kernel), by decide +kernel⟩
set_option maxRecDepth 100000 in
theorem ok_mq_Mod_talks : ov_okc mq_Mod_talks := ⟨⟨ov_dec_ok (by decide +kernel), rfl⟩, ov_inT (List.mem_append_right _ (List.mem_of_getElem? (i := 1404) rfl)) (by decide +kernel), by decide +kernel, ⟨by decide +kernel, by decide +kernel, by decide +kernel⟩, ov_inT (by decide +kernel) (by decide +kernel), by decide +kernel⟩
set_option maxRecDepth 100000 in
theorem ok_mq_Mod_talkFrom : ov_okc mq_Mod_talkFrom := ⟨⟨ov_dec_ok (by decide +kernel), rfl⟩, ov_inT (List.mem_append_right _ (List.mem_of_getElem? (i := 1408) rfl)) (by decide +kernel), by decide +kernel, ⟨by decide +kernel, by decide +kernel, by decide +kernel⟩, ov_inT (by decide +kernel) (by decide +kernel), by decide +kernel⟩
set_option maxRecDepth 100000 in
theorem ok_mq_Mod_danger : ov_okc mq_Mod_danger := ⟨⟨ov_dec_ok (by decide +kernel), rfl⟩, ov_inT (List.mem_append_right _ (List.mem_of_getElem? (i := 1412) rfl)) (by decide +kernel), by decide +kernel, ⟨by decide +kernel, by decide +kernel, by decide +kernel⟩, ov_inT (by decide +kernel) (by decide +kernel), by decide +kernel⟩
set_option maxRecDepth 100000 in
theorem ok_mq_Mod_way : ov_okc mq_Mod_way := ⟨⟨ov_dec_ok (by decide +kernel), rfl⟩, ov_inT (List.mem_append_right _ (List.mem_of_getElem? (i := 1416) rfl)) (by decide +kernel), by decide +kernel, ⟨by decide +kernel, by decide +kernel, by decide +kernel⟩, ov_inT (by decide +kernel) (by decide +kernel), by decide +kernel⟩
set_option maxRecDepth 100000 in
theorem ok_mq_Mod_dangerAt : ov_okc mq_Mod_dangerAt := ⟨⟨ov_dec_ok (by decide +kernel), rfl⟩, ov_inT (List.mem_append_right _ (List.mem_of_getElem? (i := 1420) rfl)) (by decide +kernel), by decide +kernel, ⟨by decide +kernel, by decide +kernel, by decide +kernel⟩, ov_inT (by decide +kernel) (by decide +kernel), by decide +kernel⟩
set_option maxRecDepth 100000 in
theorem ok_mq_Mod_behind : ov_okc mq_Mod_behind := ⟨⟨ov_dec_ok (by decide +kernel), rfl⟩, ov_inT (List.mem_append_right _ (List.mem_of_getElem? (i := 1424) rfl)) (by decide +kernel), by decide +kernel, ⟨by decide +kernel, by decide +kernel, by decide +kernel⟩, ov_inT (by decide +kernel) (by decide +kernel), by decide +kernel⟩
set_option maxRecDepth 100000 in
theorem ok_mq_Mod_tolls : ov_okc mq_Mod_tolls := ⟨⟨ov_dec_ok (by decide +kernel), rfl⟩, ov_inT (List.mem_append_right _ (List.mem_of_getElem? (i := 1428) rfl)) (by decide +kernel), by decide +kernel, ⟨by decide +kernel, by decide +kernel, by decide +kernel⟩, ov_inT (by decide +kernel) (by decide +kernel), by decide +kernel⟩
set_option maxRecDepth 100000 in
theorem ok_mq_Mod_spot : ov_okc mq_Mod_spot := ⟨⟨ov_dec_ok (by decide +kernel), rfl⟩, ov_inT (List.mem_append_right _ (List.mem_of_getElem? (i := 1432) rfl)) (by decide +kernel), by decide +kernel, ⟨by decide +kernel, by decide +kernel, by decide +kernel⟩, ov_inT (by decide +kernel) (by decide +kernel), by decide +kernel⟩
set_option maxRecDepth 100000 in
theorem ok_mq_Mod_felt : ov_okc mq_Mod_felt := ⟨⟨ov_dec_ok (by decide +kernel), rfl⟩, ov_inT (List.mem_append_right _ (List.mem_of_getElem? (i := 1436) rfl)) (by decide +kernel), by decide +kernel, ⟨by decide +kernel, by decide +kernel, by decide +kernel⟩, ov_inT (by decide +kernel) (by decide +kernel), by decide +kernel⟩
set_option maxRecDepth 100000 in
theorem ok_mq_Mod_feltBy : ov_okc mq_Mod_feltBy := ⟨⟨ov_dec_ok (by decide +kernel), rfl⟩, ov_inT (List.mem_append_right _ (List.mem_of_getElem? (i := 1440) rfl)) (by decide +kernel), by decide +kernel, ⟨by decide +kernel, by decide +kernel, by decide +kernel⟩, ov_inT (by decide +kernel) (by decide +kernel), by decide +kernel⟩
set_option maxRecDepth 100000 in
theorem ok_mq_Mod_liars : ov_okc mq_Mod_liars := ⟨⟨ov_dec_ok (by decide +kernel), rfl⟩, ov_inT (List.mem_append_right _ (List.mem_of_getElem? (i := 1444) rfl)) (by decide +kernel), by decide +kernel, ⟨by decide +kernel, by decide +kernel, by decide +kernel⟩, ov_inT (by decide +kernel) (by decide +kernel), by decide +kernel⟩
set_option maxRecDepth 100000 in
theorem ok_mq_Mod_ones : ov_okc mq_Mod_ones := ⟨⟨ov_dec_ok (by decide +kernel), rfl⟩, ov_inT (List.mem_append_right _ (List.mem_of_getElem? (i := 1448) rfl)) (by decide +kernel), by decide +kernel, ⟨by decide +kernel, by decide +kernel, by decide +kernel⟩, ov_inT (by decide +kernel) (by decide +kernel), by decide +kernel⟩
set_option maxRecDepth 100000 in
theorem ok_mq_Mod_goTogether : ov_okc mq_Mod_goTogether := ⟨⟨ov_dec_ok (by decide +kernel), rfl⟩, ov_inT (List.mem_append_right _ (List.mem_of_getElem? (i := 1452) rfl)) (by decide +kernel), by decide +kernel, ⟨by decide +kernel, by decide +kernel, by decide +kernel⟩, ov_inT (by decide +kernel) (by decide +kernel), by decide +kernel⟩
set_option maxRecDepth 100000 in
theorem ok_mq_Mod_watch : ov_okc mq_Mod_watch := ⟨⟨ov_dec_ok (by decide +kernel), rfl⟩, ov_inT (List.mem_append_right _ (List.mem_of_getElem? (i := 1456) rfl)) (by decide +kernel), by decide +kernel, ⟨by decide +kernel, by decide +kernel, by decide +kernel⟩, ov_inT (by decide +kernel) (by decide +kernel), by decide +kernel⟩
set_option maxRecDepth 100000 in
theorem ok_mq_Mod_watches : ov_okc mq_Mod_watches := ⟨⟨ov_dec_ok (by decide +kernel), rfl⟩, ov_inT (List.mem_append_right _ (List.mem_of_getElem? (i := 1460) rfl)) (by decide +kernel), by decide +kernel, ⟨by decide +kernel, by decide +kernel, by decide +kernel⟩, ov_inT (by decide +kernel) (by decide +kernel), by decide +kernel⟩
set_option maxRecDepth 100000 in
theorem ok_mq_Mod_spread : ov_okc mq_Mod_spread := ⟨⟨ov_dec_ok (by decide +kernel), rfl⟩, ov_inT (List.mem_append_right _ (List.mem_of_getElem? (i := 1464) rfl)) (by decide +kernel), by decide +kernel, ⟨by decide +kernel, by decide +kernel, by decide +kernel⟩, ov_inT (by decide +kernel) (by decide +kernel), by decide +kernel⟩
set_option maxRecDepth 100000 in
theorem ok_mq_Mod_watcher : ov_okc mq_Mod_watcher := ⟨⟨ov_dec_ok (by decide +kernel), rfl⟩, ov_inT (List.mem_append_right _ (List.mem_of_getElem? (i := 1468) rfl)) (by decide +kernel), by decide +kernel, ⟨by decide +kernel, by decide +kernel, by decide +kernel⟩, ov_inT (by decide +kernel) (by decide +kernel), by decide +kernel⟩
set_option maxRecDepth 100000 in
theorem ok_mq_Mod_lends : ov_okc mq_Mod_lends := ⟨⟨ov_dec_ok (by decide +kernel), rfl⟩, ov_inT (List.mem_append_right _ (List.mem_of_getElem? (i := 1472) rfl)) (by decide +kernel), by decide +kernel, ⟨by decide +kernel, by decide +kernel, by decide +kernel⟩, ov_inT (by decide +kernel) (by decide +kernel), by decide +kernel⟩
set_option maxRecDepth 100000 in
theorem ok_mq_Mod_ring : ov_okc mq_Mod_ring := ⟨⟨ov_dec_ok (by decide +kernel), rfl⟩, ov_inT (List.mem_append_right _ (List.mem_of_getElem? (i := 1476) rfl)) (by decide +kernel), by decide +kernel, ⟨by decide +kernel, by decide +kernel, by decide +kernel⟩, ov_inT (by decide +kernel) (by decide +kernel), by decide +kernel⟩
set_option maxRecDepth 100000 in
theorem ok_mq_Mod_canRing : ov_okc mq_Mod_canRing := ⟨⟨ov_dec_ok (by decide +kernel), rfl⟩, ov_inT (List.mem_append_right _ (List.mem_of_getElem? (i := 1480) rfl)) (by decide +kernel), by decide +kernel, ⟨by decide +kernel, by decide +kernel, by decide +kernel⟩, ov_inT (by decide +kernel) (by decide +kernel), by decide +kernel⟩
set_option maxRecDepth 100000 in
theorem ok_mq_Mod_isRing : ov_okc mq_Mod_isRing := ⟨⟨ov_dec_ok (by decide +kernel), rfl⟩, ov_inT (List.mem_append_right _ (List.mem_of_getElem? (i := 1484) rfl)) (by decide +kernel), by decide +kernel, ⟨by decide +kernel, by decide +kernel, by decide +kernel⟩, ov_inT (by decide +kernel) (by decide +kernel), by decide +kernel⟩
set_option maxRecDepth 100000 in
theorem ok_mq_Mod_grows : ov_okc mq_Mod_grows := ⟨⟨ov_dec_ok (by decide +kernel), rfl⟩, ov_inT (List.mem_append_right _ (List.mem_of_getElem? (i := 1488) rfl)) (by decide +kernel), by decide +kernel, ⟨by decide +kernel, by decide +kernel, by decide +kernel⟩, ov_inT (by decide +kernel) (by decide +kernel), by decide +kernel⟩
set_option maxRecDepth 100000 in
theorem ok_mq_Mod_image : ov_okc mq_Mod_image := ⟨⟨ov_dec_ok (by decide +kernel), rfl⟩, ov_inT (List.mem_append_right _ (List.mem_of_getElem? (i := 1492) rfl)) (by decide +kernel), by decide +kernel, ⟨by decide +kernel, by decide +kernel, by decide +kernel⟩, ov_inT (by decide +kernel) (by decide +kernel), by decide +kernel⟩
set_option maxRecDepth 100000 in
theorem ok_mq_Mod_kept : ov_okc mq_Mod_kept := ⟨⟨ov_dec_ok (by decide +kernel), rfl⟩, ov_inT (List.mem_append_right _ (List.mem_of_getElem? (i := 1496) rfl)) (by decide +kernel), by decide +kernel, ⟨by decide +kernel, by decide +kernel, by decide +kernel⟩, ov_inT (by decide +kernel) (by decide +kernel), by decide +kernel⟩
set_option maxRecDepth 100000 in
theorem ok_mq_Mod_keepsThrees : ov_okc mq_Mod_keepsThrees := ⟨⟨ov_dec_ok (by decide +kernel), rfl⟩, ov_inT (List.mem_append_right _ (List.mem_of_getElem? (i := 1500) rfl)) (by decide +kernel), by decide +kernel, ⟨by decide +kernel, by decide +kernel, by decide +kernel⟩, ov_inT (by decide +kernel) (by decide +kernel), by decide +kernel⟩
set_option maxRecDepth 100000 in
theorem ok_mq_Mod_keepsOthers : ov_okc mq_Mod_keepsOthers := ⟨⟨ov_dec_ok (by decide +kernel), rfl⟩, ov_inT (List.mem_append_right _ (List.mem_of_getElem? (i := 1504) rfl)) (by decide +kernel), by decide +kernel, ⟨by decide +kernel, by decide +kernel, by decide +kernel⟩, ov_inT (by decide +kernel) (by decide +kernel), by decide +kernel⟩
set_option maxRecDepth 100000 in
theorem ok_mq_Mod_look : ov_okc mq_Mod_look := ⟨⟨ov_dec_ok (by decide +kernel), rfl⟩, ov_inT (List.mem_append_right _ (List.mem_of_getElem? (i := 1508) rfl)) (by decide +kernel), by decide +kernel, ⟨by decide +kernel, by decide +kernel, by decide +kernel⟩, ov_inT (by decide +kernel) (by decide +kernel), by decide +kernel⟩
set_option maxRecDepth 100000 in
theorem ok_mq_Integer_bitCount : ov_okc mq_Integer_bitCount := ⟨⟨ov_dec_ok (by decide +kernel), rfl⟩, ov_inT (List.mem_append_right _ (List.mem_of_getElem? (i := 872) rfl)) (by decide +kernel), by decide +kernel, ⟨by decide +kernel, by decide +kernel, by decide +kernel⟩, ov_inT (by decide +kernel) (by decide +kernel), by decide +kernel⟩
set_option maxRecDepth 100000 in
theorem ok_mq_Arrays_fillI : ov_okc mq_Arrays_fillI := ⟨⟨ov_dec_ok (by decide +kernel), rfl⟩, ov_inT (List.mem_append_right _ (List.mem_of_getElem? (i := 81) rfl)) (by decide +kernel), by decide +kernel, ⟨by decide +kernel, by decide +kernel, by decide +kernel⟩, ov_inT (by decide +kernel) (by decide +kernel), by decide +kernel⟩
set_option maxRecDepth 100000 in
theorem ok_mq_Arrays_fillJ : ov_okc mq_Arrays_fillJ := ⟨⟨ov_dec_ok (by decide +kernel), rfl⟩, ov_inT (List.mem_append_right _ (List.mem_of_getElem? (i := 773) rfl)) (by decide +kernel), by decide +kernel, ⟨by decide +kernel, by decide +kernel, by decide +kernel⟩, ov_inT (by decide +kernel) (by decide +kernel), by decide +kernel⟩
end
section
theorem ov_nth_mem {α : Type} (d : α) : ∀ (l : List α) (n : Nat), ov_nth d l n = d ∨ ov_nth d l n ∈ l
  | [], _ => Or.inl rfl
  | a :: l, 0 => Or.inr List.mem_cons_self
  | a :: l, n + 1 => (ov_nth_mem d l n).elim Or.inl (fun h => Or.inr (List.mem_cons_of_mem _ h))
theorem ov_nth_ge {α : Type} (d : α) : ∀ (l : List α) (n : Nat), l.length ≤ n → ov_nth d l n = d
  | [], _, _ => rfl
  | a :: l, 0, h => by simp at h
  | a :: l, n + 1, h => ov_nth_ge d l n (by simpa using h)
/-- a class of ours -/
def ov_ct (c : Nat) (C : String) (T : u_T) (N : Nat) (ty : Nat → FieldType) : Prop := vwCl[c]? = some (C, T, N) ∧ C = ov_cn c ∧ (∀ w ∈ u_ws C T N, w ∈ ov_T) ∧ (∀ k, k < N → parseFieldDescriptor (T k).2.2.1 = some (ty k)) ∧ (∀ a, a < N → ∀ b, b < N → a ≠ b → (T a).2.1 ≠ (T b).2.1) ∧ Cond.instantiable C N ∈ ov_T ∧ Cond.initialized C ∈ ov_T
theorem ov_inTs {ws : List Cond} (h : ∀ w ∈ ws, w ∈ lw_tbl) (g : ∀ w ∈ ws, goodWord w = true) : ∀ w ∈ ws, w ∈ ov_T := fun w hw => ov_inT (h w hw) (g w hw)
set_option maxRecDepth 100000 in
theorem ov_ct0 : ov_ct 0 RX0 TX0 8 tyX0 := ⟨rfl, rfl, ov_inTs (by decide +kernel) (by decide +kernel), tyX0_ok, nmX0, ov_inT (by decide +kernel) (by decide +kernel), ov_inT (by decide +kernel) (by decide +kernel)⟩
set_option maxRecDepth 100000 in
theorem ov_ct1 : ov_ct 1 RX1 TX1 4 tyX1 := ⟨rfl, rfl, ov_inTs (by decide +kernel) (by decide +kernel), tyX1_ok, nmX1, ov_inT (by decide +kernel) (by decide +kernel), ov_inT (by decide +kernel) (by decide +kernel)⟩
set_option maxRecDepth 100000 in
theorem ov_ct2 : ov_ct 2 RX2 TX2 1 tyX2 := ⟨rfl, rfl, ov_inTs (by decide +kernel) (by decide +kernel), tyX2_ok, nmX2, ov_inT (by decide +kernel) (by decide +kernel), ov_inT (by decide +kernel) (by decide +kernel)⟩
set_option maxRecDepth 100000 in
theorem ov_ct3 : ov_ct 3 RX3 TX3 8 tyX3 := ⟨rfl, rfl, ov_inTs (by decide +kernel) (by decide +kernel), tyX3_ok, nmX3, ov_inT (by decide +kernel) (by decide +kernel), ov_inT (by decide +kernel) (by decide +kernel)⟩
set_option maxRecDepth 100000 in
theorem ov_ct4 : ov_ct 4 RX4 TX4 5 tyX4 := ⟨rfl, rfl, ov_inTs (by decide +kernel) (by decide +kernel), tyX4_ok, nmX4, ov_inT (by decide +kernel) (by decide +kernel), ov_inT (by decide +kernel) (by decide +kernel)⟩
set_option maxRecDepth 100000 in
theorem ov_ct5 : ov_ct 5 RX5 TX5 10 tyX5 := ⟨rfl, rfl, ov_inTs (by decide +kernel) (by decide +kernel), tyX5_ok, nmX5, ov_inT (by decide +kernel) (by decide +kernel), ov_inT (by decide +kernel) (by decide +kernel)⟩
set_option maxRecDepth 100000 in
theorem ov_ct6 : ov_ct 6 RX6 TX6 6 tyX6 := ⟨rfl, rfl, ov_inTs (by decide +kernel) (by decide +kernel), tyX6_ok, nmX6, ov_inT (by decide +kernel) (by decide +kernel), ov_inT (by decide +kernel) (by decide +kernel)⟩
set_option maxRecDepth 100000 in
theorem ov_ct7 : ov_ct 7 RX7 TX7 3 tyX7 := ⟨rfl, rfl, ov_inTs (by decide +kernel) (by decide +kernel), tyX7_ok, nmX7, ov_inT (by decide +kernel) (by decide +kernel), ov_inT (by decide +kernel) (by decide +kernel)⟩
set_option maxRecDepth 100000 in
theorem ov_ct8 : ov_ct 8 RX8 TX8 12 tyX8 := ⟨rfl, rfl, ov_inTs (by decide +kernel) (by decide +kernel), tyX8_ok, nmX8, ov_inT (by decide +kernel) (by decide +kernel), ov_inT (by decide +kernel) (by decide +kernel)⟩
set_option maxRecDepth 100000 in
theorem ov_ct9 : ov_ct 9 RX9 TX9 3 tyX9 := ⟨rfl, rfl, ov_inTs (by decide +kernel) (by decide +kernel), tyX9_ok, nmX9, ov_inT (by decide +kernel) (by decide +kernel), ov_inT (by decide +kernel) (by decide +kernel)⟩
set_option maxRecDepth 100000 in
theorem ov_ct10 : ov_ct 10 RX10 TX10 11 tyX10 := ⟨rfl, rfl, ov_inTs (by decide +kernel) (by decide +kernel), tyX10_ok, nmX10, ov_inT (by decide +kernel) (by decide +kernel), ov_inT (by decide +kernel) (by decide +kernel)⟩
set_option maxRecDepth 100000 in
theorem ov_ct11 : ov_ct 11 RX11 TX11 7 tyX11 := ⟨rfl, rfl, ov_inTs (by decide +kernel) (by decide +kernel), tyX11_ok, nmX11, ov_inT (by decide +kernel) (by decide +kernel), ov_inT (by decide +kernel) (by decide +kernel)⟩
set_option maxRecDepth 100000 in
theorem ov_ct12 : ov_ct 12 RX12 TX12 64 tyX12 := ⟨rfl, rfl, ov_inTs (by decide +kernel) (by decide +kernel), tyX12_ok, nmX12, ov_inT (by decide +kernel) (by decide +kernel), ov_inT (by decide +kernel) (by decide +kernel)⟩
theorem ov_cts : ∀ c, c < 13 → ∃ C T N ty, ov_ct c C T N ty
  | 0, _ => ⟨_, _, _, _, ov_ct0⟩
  | 1, _ => ⟨_, _, _, _, ov_ct1⟩
  | 2, _ => ⟨_, _, _, _, ov_ct2⟩
  | 3, _ => ⟨_, _, _, _, ov_ct3⟩
  | 4, _ => ⟨_, _, _, _, ov_ct4⟩
  | 5, _ => ⟨_, _, _, _, ov_ct5⟩
  | 6, _ => ⟨_, _, _, _, ov_ct6⟩
  | 7, _ => ⟨_, _, _, _, ov_ct7⟩
  | 8, _ => ⟨_, _, _, _, ov_ct8⟩
  | 9, _ => ⟨_, _, _, _, ov_ct9⟩
  | 10, _ => ⟨_, _, _, _, ov_ct10⟩
  | 11, _ => ⟨_, _, _, _, ov_ct11⟩
  | 12, _ => ⟨_, _, _, _, ov_ct12⟩
  | n + 13, h => absurd h (by omega)
def ov_kd (T : u_T) (k kind : Nat) : Bool := match kind with
  | 0 => decide ((T k).2.2.1 = "I") && !(T k).2.2.2
  | 1 => decide ((T k).2.2.1 = "Z") && !(T k).2.2.2
  | 2 => (T k).2.2.2 && match parseFieldDescriptor (T k).2.2.1 with
    | some (.object _) => true
    | some (.array _) => true
    | _ => false
  | 3 => !(T k).2.2.2 && match parseFieldDescriptor (T k).2.2.1 with
    | some (.object _) => true
    | some (.array _) => true
    | _ => false
  | _ => false
def ov_chkS : ov_Sh → Bool
  | .inl (c, fks) => (Nat.blt c 13 && fks.all (fun fk => Nat.ble fk.1 1 || (Nat.blt fk.2.1 16 || Nat.blt 18 fk.2.1))) && match vwCl[c]? with
    | some (C, T, N) => Nat.beq fks.length N && (List.range N).all (fun k => match fks[k]? with
      | some fk => ov_kd T k fk.1 && decide ((T k).1 = C)
      | none => false)
    | none => false
  | .inr (t, n, q, _) => Nat.ble n 100000 && match t with
    | 3 => (match ov_sh q with
      | .inl (8, _) => true
      | _ => false)
    | 4 => (match ov_sh q with
      | .inl (3, _) => true
      | _ => false)
    | _ => true
theorem ov_shl_ok : ov_shl.all ov_chkS = true := by decide +kernel
/-- an object's region -/
theorem ov_obj {r c : Nat} {fks : List (Nat × Nat × (Nat → Nat))} (h : ov_sh r = .inl (c, fks)) : ∃ C T N ty, ov_ct c C T N ty ∧ fks.length = N ∧ ∀ k fk, fks[k]? = some fk → ov_kd T k fk.1 = true ∧ (T k).1 = C := by
  rcases ov_nth_mem (.inr (99, 0, 0, fun _ _ => 0)) ov_shl r with e | e
  · rw [show ov_nth (.inr (99, 0, 0, fun _ _ => 0)) ov_shl r = ov_sh r from rfl, h] at e
    cases e
  · rw [show ov_nth (.inr (99, 0, 0, fun _ _ => 0)) ov_shl r = ov_sh r from rfl, h] at e
    have h1 := List.all_eq_true.mp ov_shl_ok _ e
    unfold ov_chkS at h1
    rw [Bool.and_eq_true] at h1
    obtain ⟨h2, h3⟩ := h1
    rw [Bool.and_eq_true] at h2
    obtain ⟨C, T, N, ty, hct⟩ := ov_cts c (Nat.le_of_ble_eq_true h2.1)
    rw [hct.1] at h3
    dsimp only at h3
    rw [Bool.and_eq_true] at h3
    have hN := Nat.eq_of_beq_eq_true h3.1
    refine ⟨C, T, N, ty, hct, hN, fun k fk hk => ?_⟩
    have hlt : k < N := by rw [← hN]; exact (List.getElem?_eq_some_iff.mp hk).1
    have h4 := List.all_eq_true.mp h3.2 k (List.mem_range.mpr hlt)
    rw [hk] at h4
    dsimp only at h4
    rw [Bool.and_eq_true] at h4
    exact ⟨h4.1, of_decide_eq_true h4.2⟩
theorem ov_arr {r t n q : Nat} {g : Nat → Nat → Nat} (h : ov_sh r = .inr (t, n, q, g)) : n ≤ 100000 ∧ (t = 3 → ∃ fks, ov_sh q = .inl (8, fks)) ∧ (t = 4 → ∃ fks, ov_sh q = .inl (3, fks)) := by
  rcases ov_nth_mem (.inr (99, 0, 0, fun _ _ => 0)) ov_shl r with e | e
  · rw [show ov_nth (.inr (99, 0, 0, fun _ _ => 0)) ov_shl r = ov_sh r from rfl, h] at e
    cases e
    exact ⟨by omega, fun h => by omega, fun h => by omega⟩
  · rw [show ov_nth (.inr (99, 0, 0, fun _ _ => 0)) ov_shl r = ov_sh r from rfl, h] at e
    have h1 := List.all_eq_true.mp ov_shl_ok _ e
    unfold ov_chkS at h1
    rw [Bool.and_eq_true] at h1
    obtain ⟨h2, h3⟩ := h1
    refine ⟨Nat.le_of_ble_eq_true h2, ?_, ?_⟩
    · rintro rfl
      have h4 : (match ov_sh q with
        | .inl (8, _) => true
        | _ => false) = true := h3
      split at h4
      · exact ⟨_, by assumption⟩
      · cases h4
    · rintro rfl
      have h4 : (match ov_sh q with
        | .inl (3, _) => true
        | _ => false) = true := h3
      split at h4
      · exact ⟨_, by assumption⟩
      · cases h4
/-- no field shows to the old cells -/
theorem ov_tgt {r c k kd q : Nat} {fks : List (Nat × Nat × (Nat → Nat))} {g : Nat → Nat} (h : ov_sh r = .inl (c, fks)) (hk : fks[k]? = some (kd, q, g)) (h2 : 2 ≤ kd) (hq : q = 16 ∨ q = 17 ∨ q = 18) : False := by
  rcases ov_nth_mem (.inr (99, 0, 0, fun _ _ => 0)) ov_shl r with e | e
  · rw [show ov_nth (.inr (99, 0, 0, fun _ _ => 0)) ov_shl r = ov_sh r from rfl, h] at e
    cases e
  · rw [show ov_nth (.inr (99, 0, 0, fun _ _ => 0)) ov_shl r = ov_sh r from rfl, h] at e
    have h1 := List.all_eq_true.mp ov_shl_ok _ e
    unfold ov_chkS at h1
    rw [Bool.and_eq_true, Bool.and_eq_true] at h1
    have h3 := List.all_eq_true.mp h1.1.2 _ (List.mem_of_getElem? hk)
    rcases hq with rfl | rfl | rfl
    · rcases (Bool.or_eq_true _ _ ▸ h3 : _ ∨ _) with h4 | h4
      · have := Nat.le_of_ble_eq_true h4
        dsimp only at this
        omega
      · cases h4
    · rcases (Bool.or_eq_true _ _ ▸ h3 : _ ∨ _) with h4 | h4
      · have := Nat.le_of_ble_eq_true h4
        dsimp only at this
        omega
      · cases h4
    · rcases (Bool.or_eq_true _ _ ▸ h3 : _ ∨ _) with h4 | h4
      · have := Nat.le_of_ble_eq_true h4
        dsimp only at this
        omega
      · cases h4
def ov_ip (w : Cond) (p : Nat) : Bool := match lw_tbl[p]? with
  | some w' => decide (w = w')
  | none => false
theorem ov_ip_e {w : Cond} {p : Nat} (h : ov_ip w p = true) : w ∈ lw_tbl := by
  unfold ov_ip at h
  split at h
  · rename_i w' e
    rw [of_decide_eq_true h]
    exact List.mem_of_getElem? e
  · cases h
def ov_all2 {α β : Type} (f : α → β → Bool) : List α → List β → Bool
  | [], _ => true
  | _ :: _, [] => false
  | a :: l, b :: k => f a b && ov_all2 f l k
theorem ov_all2_e {α β : Type} {f : α → β → Bool} : ∀ {l : List α} {k : List β}, ov_all2 f l k = true → ∀ a ∈ l, ∃ b, f a b = true
  | [], _, _, a, h => by cases h
  | _ :: _, [], h, _, _ => by cases h
  | x :: l, b :: k, h, a, ha => by
    have h2 : _ ∧ _ := Bool.and_eq_true _ _ ▸ h
    rcases List.mem_cons.mp ha with rfl | ha
    · exact ⟨b, h2.1⟩
    · exact ov_all2_e h2.2 a ha
def ov_chkF (c : Nat) (e : Nat × Nat × Nat) (p : Nat) : Bool := match vwCl[e.2.1]? with
  | some (_, T, N) => Nat.blt e.2.2 N && ov_ip (Cond.fieldLink (ov_cn c) e.1 (T e.2.2).1 (T e.2.2).2.1 (T e.2.2).2.2.1) p
  | none => false
def ov_flp : List (List Nat) := [[140, 141, 142, 143, 144, 147, 148, 145], [458, 462, 463, 460], [448], [291, 292, 293, 294, 295, 296, 302, 299], [212, 214, 216, 218, 220], [372, 375, 379, 381, 382, 383, 373, 377, 384, 385, 224], [176, 178, 180, 182, 186, 184], [413, 414, 415], [246, 248, 236, 238, 240, 242, 244, 251, 253, 255, 257, 259, 223], [430, 434, 432], [322, 323, 326, 328, 330, 332, 339, 324, 333, 336, 337, 237, 239, 254, 252, 250, 222, 213, 217, 215, 219, 247, 304, 256, 241, 260, 243, 258, 298, 301, 245], [473, 474, 475, 476, 477, 478, 479, 335, 327, 303, 374, 325, 376, 249, 221, 378, 380, 338, 300, 297, 329, 331, 177, 433, 431, 179, 181, 185, 183, 461, 459, 187, 146, 340, 334], [1080, 1081, 1082, 1083, 1084, 1085, 1086, 1087, 1088, 1089, 1090, 1091, 1092, 1094, 1096, 1097, 1098, 1100, 1101, 1102, 1103, 1104, 1105, 1106, 1107, 1108, 1109, 1110, 1119, 1120, 1121, 1122, 1123, 1125, 1127, 1128, 1129, 1130, 1131, 1133, 1134, 1135, 1136, 1140, 1077, 1078, 1079, 1111, 1112, 1113, 1114, 1115, 1116, 1117, 1118, 1099, 1093, 1095, 1124, 1126, 1132, 1139, 1137, 1138], [], [], [], []]
set_option maxRecDepth 100000 in
theorem ov_fl_ok : ∀ c, c < 17 → ov_all2 (ov_chkF c) (ov_nth [] ov_fl c) (ov_nth [] ov_flp c) = true := by decide +kernel
theorem ov_lf_ok {c i ci k : Nat} (h : ov_lf c i = some (ci, k)) : ∃ C T N, vwCl[ci]? = some (C, T, N) ∧ k < N ∧ Cond.fieldLink (ov_cn c) i (T k).1 (T k).2.1 (T k).2.2.1 ∈ ov_T := by
  have hm := ov_lk_mem h
  by_cases hc : c < 17
  · obtain ⟨p, h1⟩ := ov_all2_e (ov_fl_ok c hc) _ hm
    unfold ov_chkF at h1
    dsimp only at h1
    split at h1
    · rename_i C T N e
      rw [Bool.and_eq_true] at h1
      exact ⟨C, T, N, e, Nat.le_of_ble_eq_true h1.1, ov_inT (ov_ip_e h1.2) rfl⟩
    · cases h1
  · rw [ov_nth_ge [] ov_fl c (show 17 ≤ c by omega)] at hm
    cases hm
def ov_in1 (w : Cond) : Bool := decide (w ∈ lw_tbl) && goodWord w
theorem ov_in1_e {w : Cond} (h : ov_in1 w = true) : w ∈ ov_T := by
  rw [ov_in1, Bool.and_eq_true] at h
  exact ov_inT (of_decide_eq_true h.1) h.2
def ov_in2 (w : Cond) : Bool := decide (w ∈ lw_tbl) && ov_isN w
theorem ov_in2_e {w : Cond} (h : ov_in2 w = true) : w ∈ ov_nw := by
  rw [ov_in2, Bool.and_eq_true] at h
  exact List.mem_filter.mpr ⟨of_decide_eq_true h.1, h.2⟩
def ov_i1 (w : Cond) (p : Nat) : Bool := ov_ip w p && goodWord w
theorem ov_i1_e {w : Cond} {p : Nat} (h : ov_i1 w p = true) : w ∈ ov_T := by
  rw [ov_i1, Bool.and_eq_true] at h
  exact ov_inT (ov_ip_e h.1) h.2
def ov_i2 (w : Cond) (p : Nat) : Bool := ov_ip w p && ov_isN w
theorem ov_i2_e {w : Cond} {p : Nat} (h : ov_i2 w p = true) : w ∈ ov_nw := by
  rw [ov_i2, Bool.and_eq_true] at h
  exact List.mem_filter.mpr ⟨ov_ip_e h.1, h.2⟩
def ov_chkM (c : Nat) (e : Nat × Nat × ov_M) (p : Nat × Nat × Nat) : Bool := match e.2.1 with
  | 0 => ov_i1 (.methodLink (ov_cn c) e.1 e.2.2.2.1) p.1 && ov_i1 (.static e.2.2.2.1) p.2.1
  | 1 => ov_i1 (.methodLink (ov_cn c) e.1 e.2.2.2.1) p.1 && (ov_i1 (.instanceMethod e.2.2.2.1) p.2.1 && ov_i1 (.selects e.2.2.2.1.cls e.2.2.2.1 e.2.2.2.1) p.2.2)
  | 2 => ov_i1 (.methodLink (ov_cn c) e.1 e.2.2.2.1) p.1 && (ov_i1 (.instanceMethod e.2.2.2.1) p.2.1 && (decide (e.2.2.2.1.name = "<init>") && decide (e.2.2.2.2.2.2.1 = none)))
  | 3 => ov_i2 (.methodLinkNest (ov_cn c) e.1 e.2.2.2.1 "OneEye") p.1 && ov_i1 (.static e.2.2.2.1) p.2.1
  | 4 => ov_i2 (.methodLinkNest (ov_cn c) e.1 e.2.2.2.1 "OneEye") p.1 && (ov_i1 (.instanceMethod e.2.2.2.1) p.2.1 && ov_i1 (.selects e.2.2.2.1.cls e.2.2.2.1 e.2.2.2.1) p.2.2)
  | 5 => ov_i2 (.methodLinkNest (ov_cn c) e.1 e.2.2.2.1 "OneEye") p.1 && (ov_i1 (.instanceMethod e.2.2.2.1) p.2.1 && (decide (e.2.2.2.1.name = "<init>") && decide (e.2.2.2.2.2.2.1 = none)))
  | 6 => ov_i1 (.methodLink (ov_cn c) e.1 objectInit) p.1
  | 7 => ov_i1 (.methodLink (ov_cn c) e.1 arraycopyName) p.1
  | 10 => ov_i1 (.methodLink (ov_cn c) e.1 Lib.Math.max.name) p.1
  | 11 => ov_i1 (.methodLink (ov_cn c) e.1 Lib.Math.min.name) p.1
  | 8 => decide (c = 5) && ov_i1 (.methodLink (ov_cn c) e.1 ⟨"java/lang/String", "length", "()I"⟩) p.1
  | 9 => decide (c = 5) && ov_i1 (.methodLink (ov_cn c) e.1 ⟨"java/lang/String", "charAt", "(I)C"⟩) p.1
  | _ => false
set_option maxRecDepth 100000 in
theorem ov_mlc0 : ov_all2 (ov_chkM 0) ov_ml0 [(139, 0, 0), (1060, 0, 0), (958, 960, 34), (964, 965, 0), (970, 972, 35), (962, 174, 0), (741, 504, 0), (963, 528, 0)] = true := by decide +kernel
set_option maxRecDepth 100000 in
theorem ov_mlc1 : ov_all2 (ov_chkM 1) ov_ml1 [(457, 0, 0), (991, 174, 0), (993, 0, 0), (994, 996, 36), (998, 1000, 37), (1002, 0, 0), (1005, 0, 0)] = true := by decide +kernel
set_option maxRecDepth 100000 in
theorem ov_mlc2 : ov_all2 (ov_chkM 2) ov_ml2 [(447, 0, 0), (937, 174, 0), (938, 940, 32), (943, 945, 33), (947, 0, 0), (949, 528, 0), (942, 743, 0), (948, 504, 0)] = true := by decide +kernel
set_option maxRecDepth 100000 in
theorem ov_mlc3 : ov_all2 (ov_chkM 3) ov_ml3 [(290, 0, 0), (1054, 0, 0), (728, 504, 0)] = true := by decide +kernel
set_option maxRecDepth 100000 in
theorem ov_mlc4 : ov_all2 (ov_chkM 4) ov_ml4 [(211, 0, 0), (671, 0, 0), (662, 504, 0)] = true := by decide +kernel
set_option maxRecDepth 100000 in
theorem ov_mlc5 : ov_all2 (ov_chkM 5) ov_ml5 [(369, 0, 0), (551, 553, 0), (555, 557, 1), (559, 560, 0), (562, 564, 2), (623, 625, 5), (566, 568, 3), (627, 629, 6), (570, 572, 4), (575, 0, 0), (585, 0, 0), (635, 637, 7), (639, 641, 8), (643, 645, 9), (647, 649, 10), (651, 652, 0), (654, 656, 11), (658, 659, 660), (371, 209, 0), (538, 504, 0)] = true := by decide +kernel
set_option maxRecDepth 100000 in
theorem ov_mlc6 : ov_all2 (ov_chkM 6) ov_ml6 [(172, 0, 0), (173, 174, 0), (1065, 0, 0), (1018, 965, 0), (1019, 1021, 38), (1025, 1027, 39), (1029, 1031, 40), (1033, 1035, 41), (982, 504, 0), (1023, 743, 0), (1024, 528, 0)] = true := by decide +kernel
set_option maxRecDepth 100000 in
theorem ov_mlc7 : ov_all2 (ov_chkM 7) ov_ml7 [(412, 0, 0), (865, 866, 0), (868, 870, 24), (873, 875, 25), (877, 879, 26), (881, 883, 27), (864, 504, 0)] = true := by decide +kernel
set_option maxRecDepth 100000 in
theorem ov_mlc8 : ov_all2 (ov_chkM 8) ov_ml8 [(205, 0, 0), (1049, 0, 0), (667, 668, 669), (844, 782, 783), (850, 841, 842), (208, 209, 0), (711, 504, 0), (851, 743, 0)] = true := by decide +kernel
set_option maxRecDepth 100000 in
theorem ov_mlc9 : ov_all2 (ov_chkM 9) ov_ml9 [(429, 0, 0), (902, 0, 0), (905, 174, 0), (906, 908, 28), (920, 922, 31), (910, 912, 29), (914, 916, 30), (919, 892, 0), (918, 504, 0)] = true := by decide +kernel
set_option maxRecDepth 100000 in
theorem ov_mlc10 : ov_all2 (ov_chkM 10) ov_ml10 [(129, 0, 0), (169, 170, 0), (1045, 1046, 1047), (1050, 1051, 1052), (1055, 0, 0), (1056, 1057, 1058), (1061, 1062, 1063), (720, 721, 722), (733, 734, 735), (688, 690, 12), (694, 696, 13), (765, 767, 21), (769, 771, 22), (698, 524, 525), (699, 701, 14), (749, 751, 18), (703, 705, 15), (716, 718, 16), (729, 731, 17), (712, 713, 714), (707, 708, 709), (724, 725, 726), (737, 738, 739), (745, 746, 747), (753, 755, 19), (757, 759, 20), (761, 762, 763), (773, 775, 23), (136, 137, 0), (202, 203, 0), (287, 288, 0), (510, 504, 0), (839, 528, 0), (742, 743, 0)] = true := by decide +kernel
set_option maxRecDepth 100000 in
theorem ov_mlc11 : ov_all2 (ov_chkM 11) ov_ml11 [(121, 0, 0), (126, 127, 0), (503, 504, 0), (506, 507, 508), (519, 520, 521), (523, 524, 525), (527, 528, 0), (534, 535, 536), (547, 548, 549), (631, 632, 633), (663, 664, 665), (684, 685, 686), (781, 782, 783), (789, 734, 735), (794, 795, 796), (802, 803, 804), (819, 820, 821), (827, 828, 829), (835, 836, 837), (840, 841, 842), (845, 743, 0), (846, 847, 848), (856, 857, 858), (860, 861, 862), (891, 892, 0), (898, 899, 900), (932, 933, 934), (954, 955, 956), (978, 979, 980), (987, 988, 989), (1014, 1015, 1016), (1041, 1042, 1043), (366, 367, 0), (409, 410, 0), (426, 427, 0), (444, 445, 0), (454, 455, 0)] = true := by decide +kernel
set_option maxRecDepth 100000 in
theorem ov_mlc12 : ov_all2 (ov_chkM 12) ov_ml12 [(1075, 0, 0), (1279, 1281, 42), (1287, 1289, 43), (1295, 1297, 44), (1299, 1301, 45), (1307, 1309, 46), (1323, 1325, 48), (1327, 1329, 49), (1331, 1333, 50), (1335, 1337, 51), (1343, 1345, 53), (1319, 1321, 47), (1355, 1357, 56), (1351, 1353, 55), (1359, 1361, 57), (1347, 1349, 54), (1339, 1341, 52), (1394, 1396, 63), (1376, 1378, 59), (1386, 1388, 61), (1390, 1392, 62), (1406, 1408, 66), (1402, 1404, 65), (1410, 1412, 67), (1382, 1384, 60), (1398, 1400, 64), (1414, 1416, 68), (1372, 1374, 58), (1422, 1424, 69), (1466, 1468, 72), (1479, 1481, 75), (1483, 1485, 76), (1458, 1460, 70), (1462, 1464, 71), (1475, 1477, 74), (1470, 1472, 73), (1491, 1493, 77), (1495, 1497, 78), (1499, 1501, 79), (1519, 1521, 82), (1511, 1513, 80), (1515, 1517, 81), (1531, 1533, 83), (1539, 1541, 84), (1543, 1545, 85), (1555, 1557, 86), (1559, 1561, 87), (1579, 1581, 90), (1575, 1577, 89), (1571, 1573, 88), (1587, 1589, 91), (1591, 1593, 92), (1595, 1597, 93)] = true := by decide +kernel
set_option maxRecDepth 100000 in
theorem ov_mlc13 : ov_all2 (ov_chkM 13) ov_ml13 [(118, 119, 0), (1072, 1073, 0), (495, 496, 497), (1271, 1272, 1273), (499, 500, 501), (1275, 1276, 1277), (511, 512, 513), (1283, 1284, 1285), (515, 516, 517), (1291, 1292, 1293), (530, 531, 532), (1303, 1304, 1305), (539, 540, 541), (1311, 1312, 1313), (543, 544, 545), (1315, 1316, 1317), (675, 676, 677), (1363, 1364, 1365), (679, 680, 681), (1367, 1368, 1369), (777, 778, 779), (1418, 1419, 1420), (785, 786, 787), (1426, 1427, 1428), (790, 791, 792), (1442, 1443, 1444), (798, 799, 800), (1446, 1447, 1448), (807, 808, 809), (1450, 1451, 1452), (811, 812, 813), (1430, 1431, 1432), (815, 816, 817), (1434, 1435, 1436), (823, 824, 825), (1438, 1439, 1440), (831, 832, 833), (1454, 1455, 1456), (852, 853, 854), (1487, 1488, 1489), (887, 888, 889), (1503, 1504, 1505), (894, 895, 896), (1507, 1508, 1509), (924, 925, 926), (1523, 1524, 1525), (928, 929, 930), (1527, 1528, 1529), (950, 951, 952), (1535, 1536, 1537), (974, 975, 976), (1547, 1548, 1549), (983, 984, 985), (1551, 1552, 1553), (1006, 1007, 1008), (1563, 1564, 1565), (1010, 1011, 1012), (1567, 1568, 1569), (1037, 1038, 1039), (1583, 1584, 1585), (1066, 1067, 1068), (1599, 1600, 1601)] = true := by decide +kernel
set_option maxRecDepth 100000 in
theorem ov_mlc14 : ov_all2 (ov_chkM 14) ov_ml14 [] = true := by decide +kernel
set_option maxRecDepth 100000 in
theorem ov_mlc15 : ov_all2 (ov_chkM 15) ov_ml15 [] = true := by decide +kernel
set_option maxRecDepth 100000 in
theorem ov_mlc16 : ov_all2 (ov_chkM 16) ov_ml16 [] = true := by decide +kernel
set_option maxRecDepth 100000 in
theorem ov_mlo0 : ∀ e ∈ ov_ml0, ov_okc e.2.2 := List.forall_mem_cons.mpr ⟨ok_mq_Eye_init, List.forall_mem_cons.mpr ⟨ok_mq_Eye_init, List.forall_mem_cons.mpr ⟨ok_mq_Book_gatherSayers, List.forall_mem_cons.mpr ⟨ok_mq_Integer_bitCount, List.forall_mem_cons.mpr ⟨ok_mq_Book_agreeWithout, List.forall_mem_cons.mpr ⟨ok_mq_Arrays_fillI, List.forall_mem_cons.mpr ⟨ok_mq_Eye_within, List.forall_mem_cons.mpr ⟨ok_mq_Eye_withBit, fun _ h => absurd h List.not_mem_nil⟩⟩⟩⟩⟩⟩⟩⟩
set_option maxRecDepth 100000 in
theorem ov_mlo1 : ∀ e ∈ ov_ml1, ov_okc e.2.2 := List.forall_mem_cons.mpr ⟨ok_mq_Eye_init, List.forall_mem_cons.mpr ⟨ok_mq_Arrays_fillI, List.forall_mem_cons.mpr ⟨ok_mq_Eye_init, List.forall_mem_cons.mpr ⟨ok_mq_Deal_deal, List.forall_mem_cons.mpr ⟨ok_mq_Deal_compare, List.forall_mem_cons.mpr ⟨ok_mq_Eye_init, List.forall_mem_cons.mpr ⟨ok_mq_Eye_init, fun _ h => absurd h List.not_mem_nil⟩⟩⟩⟩⟩⟩⟩
set_option maxRecDepth 100000 in
theorem ov_mlo2 : ∀ e ∈ ov_ml2, ov_okc e.2.2 := List.forall_mem_cons.mpr ⟨ok_mq_Eye_init, List.forall_mem_cons.mpr ⟨ok_mq_Arrays_fillI, List.forall_mem_cons.mpr ⟨ok_mq_Feelers_worthiestBut, List.forall_mem_cons.mpr ⟨ok_mq_Feelers_dealOut, List.forall_mem_cons.mpr ⟨ok_mq_Eye_init, List.forall_mem_cons.mpr ⟨ok_mq_Eye_withBit, List.forall_mem_cons.mpr ⟨ok_mq_Eye_holdsBit, List.forall_mem_cons.mpr ⟨ok_mq_Eye_within, fun _ h => absurd h List.not_mem_nil⟩⟩⟩⟩⟩⟩⟩⟩
set_option maxRecDepth 100000 in
theorem ov_mlo3 : ∀ e ∈ ov_ml3, ov_okc e.2.2 := List.forall_mem_cons.mpr ⟨ok_mq_Eye_init, List.forall_mem_cons.mpr ⟨ok_mq_Eye_init, List.forall_mem_cons.mpr ⟨ok_mq_Eye_within, fun _ h => absurd h List.not_mem_nil⟩⟩⟩
set_option maxRecDepth 100000 in
theorem ov_mlo4 : ∀ e ∈ ov_ml4, ov_okc e.2.2 := List.forall_mem_cons.mpr ⟨ok_mq_Eye_init, List.forall_mem_cons.mpr ⟨ok_mq_Eye_init, List.forall_mem_cons.mpr ⟨ok_mq_Eye_within, fun _ h => absurd h List.not_mem_nil⟩⟩⟩
set_option maxRecDepth 100000 in
theorem ov_mlo5 : ∀ e ∈ ov_ml5, ov_okc e.2.2 := List.forall_mem_cons.mpr ⟨ok_mq_Eye_init, List.forall_mem_cons.mpr ⟨ok_mq_Reader_endOfRun, List.forall_mem_cons.mpr ⟨ok_mq_Reader_signAt, List.forall_mem_cons.mpr ⟨ok_mq_Reader_sortOf, List.forall_mem_cons.mpr ⟨ok_mq_Reader_takeToken, List.forall_mem_cons.mpr ⟨ok_mq_Reader_keepToken, List.forall_mem_cons.mpr ⟨ok_mq_Reader_wordAt, List.forall_mem_cons.mpr ⟨ok_mq_Reader_valueAt, List.forall_mem_cons.mpr ⟨ok_mq_Reader_isWord, List.forall_mem_cons.mpr ⟨ok_mq_Eye_init, List.forall_mem_cons.mpr ⟨ok_mq_Eye_init, List.forall_mem_cons.mpr ⟨ok_mq_Reader_token, List.forall_mem_cons.mpr ⟨ok_mq_Reader_readStep, List.forall_mem_cons.mpr ⟨ok_mq_Reader_blame, List.forall_mem_cons.mpr ⟨ok_mq_Reader_expect, List.forall_mem_cons.mpr ⟨ok_mq_Reader_mostOf, List.forall_mem_cons.mpr ⟨ok_mq_Reader_expectNumber, List.forall_mem_cons.mpr ⟨ok_mq_Plan_add, List.forall_mem_cons.mpr ⟨ok_mq_Plan_init, List.forall_mem_cons.mpr ⟨ok_mq_Eye_within, fun _ h => absurd h List.not_mem_nil⟩⟩⟩⟩⟩⟩⟩⟩⟩⟩⟩⟩⟩⟩⟩⟩⟩⟩⟩⟩
set_option maxRecDepth 100000 in
theorem ov_mlo6 : ∀ e ∈ ov_ml6, ov_okc e.2.2 := List.forall_mem_cons.mpr ⟨ok_mq_Eye_init, List.forall_mem_cons.mpr ⟨ok_mq_Arrays_fillI, List.forall_mem_cons.mpr ⟨ok_mq_Eye_init, List.forall_mem_cons.mpr ⟨ok_mq_Integer_bitCount, List.forall_mem_cons.mpr ⟨ok_mq_Tables_closes, List.forall_mem_cons.mpr ⟨ok_mq_Tables_goesRound, List.forall_mem_cons.mpr ⟨ok_mq_Tables_wouldLend, List.forall_mem_cons.mpr ⟨ok_mq_Tables_goesOn, List.forall_mem_cons.mpr ⟨ok_mq_Eye_within, List.forall_mem_cons.mpr ⟨ok_mq_Eye_holdsBit, List.forall_mem_cons.mpr ⟨ok_mq_Eye_withBit, fun _ h => absurd h List.not_mem_nil⟩⟩⟩⟩⟩⟩⟩⟩⟩⟩⟩
set_option maxRecDepth 100000 in
theorem ov_mlo7 : ∀ e ∈ ov_ml7, ov_okc e.2.2 := List.forall_mem_cons.mpr ⟨ok_mq_Eye_init, List.forall_mem_cons.mpr ⟨ok_mq_Arrays_fillJ, List.forall_mem_cons.mpr ⟨ok_mq_Talk_moveEdge, List.forall_mem_cons.mpr ⟨ok_mq_Talk_handOverFrom, List.forall_mem_cons.mpr ⟨ok_mq_Talk_sayFrom, List.forall_mem_cons.mpr ⟨ok_mq_Talk_say, List.forall_mem_cons.mpr ⟨ok_mq_Eye_within, fun _ h => absurd h List.not_mem_nil⟩⟩⟩⟩⟩⟩⟩
set_option maxRecDepth 100000 in
theorem ov_mlo8 : ∀ e ∈ ov_ml8, ov_okc e.2.2 := List.forall_mem_cons.mpr ⟨ok_mq_Eye_init, List.forall_mem_cons.mpr ⟨ok_mq_Eye_init, List.forall_mem_cons.mpr ⟨ok_mq_Plan_copyFrom, List.forall_mem_cons.mpr ⟨ok_mq_Three_placeOf, List.forall_mem_cons.mpr ⟨ok_mq_Three_settledPlaceOf, List.forall_mem_cons.mpr ⟨ok_mq_Plan_init, List.forall_mem_cons.mpr ⟨ok_mq_Eye_within, List.forall_mem_cons.mpr ⟨ok_mq_Eye_holdsBit, fun _ h => absurd h List.not_mem_nil⟩⟩⟩⟩⟩⟩⟩⟩
set_option maxRecDepth 100000 in
theorem ov_mlo9 : ∀ e ∈ ov_ml9, ov_okc e.2.2 := List.forall_mem_cons.mpr ⟨ok_mq_Eye_init, List.forall_mem_cons.mpr ⟨ok_mq_Eye_init, List.forall_mem_cons.mpr ⟨ok_mq_Arrays_fillI, List.forall_mem_cons.mpr ⟨ok_mq_Way_weigh, List.forall_mem_cons.mpr ⟨ok_mq_Way_walk, List.forall_mem_cons.mpr ⟨ok_mq_Way_cheapest, List.forall_mem_cons.mpr ⟨ok_mq_Way_costFrom, List.forall_mem_cons.mpr ⟨ok_mq_Eye_dangerAt, List.forall_mem_cons.mpr ⟨ok_mq_Eye_within, fun _ h => absurd h List.not_mem_nil⟩⟩⟩⟩⟩⟩⟩⟩⟩
set_option maxRecDepth 100000 in
theorem ov_mlo10 : ∀ e ∈ ov_ml10, ov_okc e.2.2 := List.forall_mem_cons.mpr ⟨ok_mq_Eye_init, List.forall_mem_cons.mpr ⟨ok_mq_Tables_init, List.forall_mem_cons.mpr ⟨ok_mq_Three_copyFrom, List.forall_mem_cons.mpr ⟨ok_mq_Person_copyFrom, List.forall_mem_cons.mpr ⟨ok_mq_Eye_init, List.forall_mem_cons.mpr ⟨ok_mq_Book_copyFrom, List.forall_mem_cons.mpr ⟨ok_mq_Tables_copyFrom, List.forall_mem_cons.mpr ⟨ok_mq_World_personOf, List.forall_mem_cons.mpr ⟨ok_mq_Person_knowledgeOf, List.forall_mem_cons.mpr ⟨ok_mq_World_draw, List.forall_mem_cons.mpr ⟨ok_mq_World_act, List.forall_mem_cons.mpr ⟨ok_mq_World_noisesNow, List.forall_mem_cons.mpr ⟨ok_mq_World_endMinute, List.forall_mem_cons.mpr ⟨ok_mq_World_threeAt, List.forall_mem_cons.mpr ⟨ok_mq_World_begin, List.forall_mem_cons.mpr ⟨ok_mq_World_workOn, List.forall_mem_cons.mpr ⟨ok_mq_World_give, List.forall_mem_cons.mpr ⟨ok_mq_World_see, List.forall_mem_cons.mpr ⟨ok_mq_World_speak, List.forall_mem_cons.mpr ⟨ok_mq_Three_occupy, List.forall_mem_cons.mpr ⟨ok_mq_Three_holderOf, List.forall_mem_cons.mpr ⟨ok_mq_Person_seeFact, List.forall_mem_cons.mpr ⟨ok_mq_Book_write, List.forall_mem_cons.mpr ⟨ok_mq_Person_believe, List.forall_mem_cons.mpr ⟨ok_mq_World_finishGiving, List.forall_mem_cons.mpr ⟨ok_mq_World_finishFeeling, List.forall_mem_cons.mpr ⟨ok_mq_Three_firstWithEmptyHands, List.forall_mem_cons.mpr ⟨ok_mq_World_hearNoises, List.forall_mem_cons.mpr ⟨ok_mq_Book_init, List.forall_mem_cons.mpr ⟨ok_mq_Three_init, List.forall_mem_cons.mpr ⟨ok_mq_Person_init, List.forall_mem_cons.mpr ⟨ok_mq_Eye_within, List.forall_mem_cons.mpr ⟨ok_mq_Eye_withBit, List.forall_mem_cons.mpr ⟨ok_mq_Eye_holdsBit, fun _ h => absurd h List.not_mem_nil⟩⟩⟩⟩⟩⟩⟩⟩⟩⟩⟩⟩⟩⟩⟩⟩⟩⟩⟩⟩⟩⟩⟩⟩⟩⟩⟩⟩⟩⟩⟩⟩⟩⟩
set_option maxRecDepth 100000 in
theorem ov_mlo11 : ∀ e ∈ ov_ml11, ov_okc e.2.2 := List.forall_mem_cons.mpr ⟨ok_mq_Eye_init, List.forall_mem_cons.mpr ⟨ok_mq_World_init, List.forall_mem_cons.mpr ⟨ok_mq_Eye_within, List.forall_mem_cons.mpr ⟨ok_mq_World_addThree, List.forall_mem_cons.mpr ⟨ok_mq_World_personAt, List.forall_mem_cons.mpr ⟨ok_mq_World_threeAt, List.forall_mem_cons.mpr ⟨ok_mq_Eye_withBit, List.forall_mem_cons.mpr ⟨ok_mq_Reader_append, List.forall_mem_cons.mpr ⟨ok_mq_Reader_takeTape, List.forall_mem_cons.mpr ⟨ok_mq_Reader_readPlan, List.forall_mem_cons.mpr ⟨ok_mq_Three_follow, List.forall_mem_cons.mpr ⟨ok_mq_World_passMinute, List.forall_mem_cons.mpr ⟨ok_mq_Three_placeOf, List.forall_mem_cons.mpr ⟨ok_mq_Person_knowledgeOf, List.forall_mem_cons.mpr ⟨ok_mq_Person_originOf, List.forall_mem_cons.mpr ⟨ok_mq_World_addNoise, List.forall_mem_cons.mpr ⟨ok_mq_Three_tell, List.forall_mem_cons.mpr ⟨ok_mq_Book_tell, List.forall_mem_cons.mpr ⟨ok_mq_World_knowersOf, List.forall_mem_cons.mpr ⟨ok_mq_Three_settledPlaceOf, List.forall_mem_cons.mpr ⟨ok_mq_Eye_holdsBit, List.forall_mem_cons.mpr ⟨ok_mq_Three_sendWord, List.forall_mem_cons.mpr ⟨ok_mq_Three_mouthAndEar, List.forall_mem_cons.mpr ⟨ok_mq_Talk_fewestActs, List.forall_mem_cons.mpr ⟨ok_mq_Eye_dangerAt, List.forall_mem_cons.mpr ⟨ok_mq_Way_find, List.forall_mem_cons.mpr ⟨ok_mq_Feelers_leastSum, List.forall_mem_cons.mpr ⟨ok_mq_Book_fewestLiars, List.forall_mem_cons.mpr ⟨ok_mq_Tables_addWatch, List.forall_mem_cons.mpr ⟨ok_mq_Deal_find, List.forall_mem_cons.mpr ⟨ok_mq_Tables_smallestRing, List.forall_mem_cons.mpr ⟨ok_mq_World_copyFrom, List.forall_mem_cons.mpr ⟨ok_mq_Reader_init, List.forall_mem_cons.mpr ⟨ok_mq_Talk_init, List.forall_mem_cons.mpr ⟨ok_mq_Way_init, List.forall_mem_cons.mpr ⟨ok_mq_Feelers_init, List.forall_mem_cons.mpr ⟨ok_mq_Deal_init, fun _ h => absurd h List.not_mem_nil⟩⟩⟩⟩⟩⟩⟩⟩⟩⟩⟩⟩⟩⟩⟩⟩⟩⟩⟩⟩⟩⟩⟩⟩⟩⟩⟩⟩⟩⟩⟩⟩⟩⟩⟩⟩⟩
set_option maxRecDepth 100000 in
theorem ov_mlo12 : ∀ e ∈ ov_ml12, ov_okc e.2.2 := List.forall_mem_cons.mpr ⟨ok_mq_Eye_init, List.forall_mem_cons.mpr ⟨ok_mq_Mod_isIn, List.forall_mem_cons.mpr ⟨ok_mq_Mod_isFact, List.forall_mem_cons.mpr ⟨ok_mq_Mod_isPerson, List.forall_mem_cons.mpr ⟨ok_mq_Mod_isThree, List.forall_mem_cons.mpr ⟨ok_mq_Mod_puts, List.forall_mem_cons.mpr ⟨ok_mq_Mod_raw, List.forall_mem_cons.mpr ⟨ok_mq_Mod_isLetter, List.forall_mem_cons.mpr ⟨ok_mq_Mod_wordOf, List.forall_mem_cons.mpr ⟨ok_mq_Mod_isDigit, List.forall_mem_cons.mpr ⟨ok_mq_Mod_errs, List.forall_mem_cons.mpr ⟨ok_mq_Mod_reads, List.forall_mem_cons.mpr ⟨ok_mq_Mod_readNumber, List.forall_mem_cons.mpr ⟨ok_mq_Mod_readThing, List.forall_mem_cons.mpr ⟨ok_mq_Mod_readTo, List.forall_mem_cons.mpr ⟨ok_mq_Mod_readStep, List.forall_mem_cons.mpr ⟨ok_mq_Mod_readPlan, List.forall_mem_cons.mpr ⟨ok_mq_Mod_thing, List.forall_mem_cons.mpr ⟨ok_mq_Mod_draw, List.forall_mem_cons.mpr ⟨ok_mq_Mod_handsOver, List.forall_mem_cons.mpr ⟨ok_mq_Mod_feels, List.forall_mem_cons.mpr ⟨ok_mq_Mod_holder, List.forall_mem_cons.mpr ⟨ok_mq_Mod_sees, List.forall_mem_cons.mpr ⟨ok_mq_Mod_says, List.forall_mem_cons.mpr ⟨ok_mq_Mod_ends, List.forall_mem_cons.mpr ⟨ok_mq_Mod_begins, List.forall_mem_cons.mpr ⟨ok_mq_Mod_sounds, List.forall_mem_cons.mpr ⟨ok_mq_Mod_goesBy, List.forall_mem_cons.mpr ⟨ok_mq_Mod_isThing, List.forall_mem_cons.mpr ⟨ok_mq_Mod_memberOf, List.forall_mem_cons.mpr ⟨ok_mq_Mod_movedTo, List.forall_mem_cons.mpr ⟨ok_mq_Mod_comes, List.forall_mem_cons.mpr ⟨ok_mq_Mod_knowersOf, List.forall_mem_cons.mpr ⟨ok_mq_Mod_placesOf, List.forall_mem_cons.mpr ⟨ok_mq_Mod_errandFrom, List.forall_mem_cons.mpr ⟨ok_mq_Mod_findsErrand, List.forall_mem_cons.mpr ⟨ok_mq_Mod_stateOf, List.forall_mem_cons.mpr ⟨ok_mq_Mod_talks, List.forall_mem_cons.mpr ⟨ok_mq_Mod_talkFrom, List.forall_mem_cons.mpr ⟨ok_mq_Mod_tolls, List.forall_mem_cons.mpr ⟨ok_mq_Mod_dangerAt, List.forall_mem_cons.mpr ⟨ok_mq_Mod_behind, List.forall_mem_cons.mpr ⟨ok_mq_Mod_feltBy, List.forall_mem_cons.mpr ⟨ok_mq_Mod_ones, List.forall_mem_cons.mpr ⟨ok_mq_Mod_goTogether, List.forall_mem_cons.mpr ⟨ok_mq_Mod_spread, List.forall_mem_cons.mpr ⟨ok_mq_Mod_watcher, List.forall_mem_cons.mpr ⟨ok_mq_Mod_grows, List.forall_mem_cons.mpr ⟨ok_mq_Mod_isRing, List.forall_mem_cons.mpr ⟨ok_mq_Mod_canRing, List.forall_mem_cons.mpr ⟨ok_mq_Mod_kept, List.forall_mem_cons.mpr ⟨ok_mq_Mod_keepsThrees, List.forall_mem_cons.mpr ⟨ok_mq_Mod_keepsOthers, fun _ h => absurd h List.not_mem_nil⟩⟩⟩⟩⟩⟩⟩⟩⟩⟩⟩⟩⟩⟩⟩⟩⟩⟩⟩⟩⟩⟩⟩⟩⟩⟩⟩⟩⟩⟩⟩⟩⟩⟩⟩⟩⟩⟩⟩⟩⟩⟩⟩⟩⟩⟩⟩⟩⟩⟩⟩⟩⟩
set_option maxRecDepth 100000 in
theorem ov_mlo13 : ∀ e ∈ ov_ml13, ov_okc e.2.2 := List.forall_mem_cons.mpr ⟨ok_mq_Eye_init, List.forall_mem_cons.mpr ⟨ok_mq_Mod_init, List.forall_mem_cons.mpr ⟨ok_mq_Eye_state, List.forall_mem_cons.mpr ⟨ok_mq_Mod_state, List.forall_mem_cons.mpr ⟨ok_mq_Eye_three, List.forall_mem_cons.mpr ⟨ok_mq_Mod_three, List.forall_mem_cons.mpr ⟨ok_mq_Eye_fact, List.forall_mem_cons.mpr ⟨ok_mq_Mod_fact, List.forall_mem_cons.mpr ⟨ok_mq_Eye_trust, List.forall_mem_cons.mpr ⟨ok_mq_Mod_trust, List.forall_mem_cons.mpr ⟨ok_mq_Eye_feed, List.forall_mem_cons.mpr ⟨ok_mq_Mod_feed, List.forall_mem_cons.mpr ⟨ok_mq_Eye_end, List.forall_mem_cons.mpr ⟨ok_mq_Mod_end, List.forall_mem_cons.mpr ⟨ok_mq_Eye_text, List.forall_mem_cons.mpr ⟨ok_mq_Mod_text, List.forall_mem_cons.mpr ⟨ok_mq_Eye_fault, List.forall_mem_cons.mpr ⟨ok_mq_Mod_fault, List.forall_mem_cons.mpr ⟨ok_mq_Eye_minutes, List.forall_mem_cons.mpr ⟨ok_mq_Mod_minutes, List.forall_mem_cons.mpr ⟨ok_mq_Eye_where, List.forall_mem_cons.mpr ⟨ok_mq_Mod_where, List.forall_mem_cons.mpr ⟨ok_mq_Eye_knows, List.forall_mem_cons.mpr ⟨ok_mq_Mod_knows, List.forall_mem_cons.mpr ⟨ok_mq_Eye_origin, List.forall_mem_cons.mpr ⟨ok_mq_Mod_origin, List.forall_mem_cons.mpr ⟨ok_mq_Eye_noise, List.forall_mem_cons.mpr ⟨ok_mq_Mod_noise, List.forall_mem_cons.mpr ⟨ok_mq_Eye_heard, List.forall_mem_cons.mpr ⟨ok_mq_Mod_heard, List.forall_mem_cons.mpr ⟨ok_mq_Eye_held, List.forall_mem_cons.mpr ⟨ok_mq_Mod_held, List.forall_mem_cons.mpr ⟨ok_mq_Eye_of, List.forall_mem_cons.mpr ⟨ok_mq_Mod_of, List.forall_mem_cons.mpr ⟨ok_mq_Eye_book, List.forall_mem_cons.mpr ⟨ok_mq_Mod_book, List.forall_mem_cons.mpr ⟨ok_mq_Eye_errand, List.forall_mem_cons.mpr ⟨ok_mq_Mod_errand, List.forall_mem_cons.mpr ⟨ok_mq_Eye_talk, List.forall_mem_cons.mpr ⟨ok_mq_Mod_talk, List.forall_mem_cons.mpr ⟨ok_mq_Eye_danger, List.forall_mem_cons.mpr ⟨ok_mq_Mod_danger, List.forall_mem_cons.mpr ⟨ok_mq_Eye_way, List.forall_mem_cons.mpr ⟨ok_mq_Mod_way, List.forall_mem_cons.mpr ⟨ok_mq_Eye_spot, List.forall_mem_cons.mpr ⟨ok_mq_Mod_spot, List.forall_mem_cons.mpr ⟨ok_mq_Eye_felt, List.forall_mem_cons.mpr ⟨ok_mq_Mod_felt, List.forall_mem_cons.mpr ⟨ok_mq_Eye_liars, List.forall_mem_cons.mpr ⟨ok_mq_Mod_liars, List.forall_mem_cons.mpr ⟨ok_mq_Eye_watch, List.forall_mem_cons.mpr ⟨ok_mq_Mod_watch, List.forall_mem_cons.mpr ⟨ok_mq_Eye_watches, List.forall_mem_cons.mpr ⟨ok_mq_Mod_watches, List.forall_mem_cons.mpr ⟨ok_mq_Eye_lends, List.forall_mem_cons.mpr ⟨ok_mq_Mod_lends, List.forall_mem_cons.mpr ⟨ok_mq_Eye_ring, List.forall_mem_cons.mpr ⟨ok_mq_Mod_ring, List.forall_mem_cons.mpr ⟨ok_mq_Eye_image, List.forall_mem_cons.mpr ⟨ok_mq_Mod_image, List.forall_mem_cons.mpr ⟨ok_mq_Eye_look, List.forall_mem_cons.mpr ⟨ok_mq_Mod_look, fun _ h => absurd h List.not_mem_nil⟩⟩⟩⟩⟩⟩⟩⟩⟩⟩⟩⟩⟩⟩⟩⟩⟩⟩⟩⟩⟩⟩⟩⟩⟩⟩⟩⟩⟩⟩⟩⟩⟩⟩⟩⟩⟩⟩⟩⟩⟩⟩⟩⟩⟩⟩⟩⟩⟩⟩⟩⟩⟩⟩⟩⟩⟩⟩⟩⟩⟩⟩
set_option maxRecDepth 100000 in
theorem ov_mlo14 : ∀ e ∈ ov_ml14, ov_okc e.2.2 := fun _ h => absurd h List.not_mem_nil
set_option maxRecDepth 100000 in
theorem ov_mlo15 : ∀ e ∈ ov_ml15, ov_okc e.2.2 := fun _ h => absurd h List.not_mem_nil
set_option maxRecDepth 100000 in
theorem ov_mlo16 : ∀ e ∈ ov_ml16, ov_okc e.2.2 := fun _ h => absurd h List.not_mem_nil
theorem ov_mla : ∀ c, (∀ e ∈ ov_nth [] ov_mll c, ov_okc e.2.2) ∧ ∃ ps, ov_all2 (ov_chkM c) (ov_nth [] ov_mll c) ps = true
  | 0 => ⟨ov_mlo0, _, ov_mlc0⟩
  | 1 => ⟨ov_mlo1, _, ov_mlc1⟩
  | 2 => ⟨ov_mlo2, _, ov_mlc2⟩
  | 3 => ⟨ov_mlo3, _, ov_mlc3⟩
  | 4 => ⟨ov_mlo4, _, ov_mlc4⟩
  | 5 => ⟨ov_mlo5, _, ov_mlc5⟩
  | 6 => ⟨ov_mlo6, _, ov_mlc6⟩
  | 7 => ⟨ov_mlo7, _, ov_mlc7⟩
  | 8 => ⟨ov_mlo8, _, ov_mlc8⟩
  | 9 => ⟨ov_mlo9, _, ov_mlc9⟩
  | 10 => ⟨ov_mlo10, _, ov_mlc10⟩
  | 11 => ⟨ov_mlo11, _, ov_mlc11⟩
  | 12 => ⟨ov_mlo12, _, ov_mlc12⟩
  | 13 => ⟨ov_mlo13, _, ov_mlc13⟩
  | 14 => ⟨ov_mlo14, _, ov_mlc14⟩
  | 15 => ⟨ov_mlo15, _, ov_mlc15⟩
  | 16 => ⟨ov_mlo16, _, ov_mlc16⟩
  | n + 17 => by
    rw [ov_nth_ge [] ov_mll (n + 17) (show 17 ≤ n + 17 by omega)]
    exact ⟨fun _ h => absurd h List.not_mem_nil, [], rfl⟩
theorem ov_lm_ok {c i k : Nat} {m : ov_M} (h : ov_lm c i = some (k, m)) : ov_okc m ∧ ∃ p, ov_chkM c (i, k, m) p = true := by
  have hm := ov_lk_mem h
  obtain ⟨h1, ps, h2⟩ := ov_mla c
  exact ⟨h1 _ hm, ov_all2_e h2 _ hm⟩
end
section
def ov_chC (c : Nat) (e : Nat × Int32) : Bool := ov_in1 (.constant (ov_cn c) e.1 e.2)
def ov_chL (c : Nat) (e : Nat × Int64) : Bool := ov_in1 (.constantLong (ov_cn c) e.1 e.2)
def ov_chN (c : Nat) (e : Nat × Nat) : Bool := ov_in1 (.classLink (ov_cn c) e.1 (ov_cn e.2))
set_option maxRecDepth 100000 in
theorem ov_cl_ok : ∀ c, c < 17 → (ov_nth [] ov_cl c).all (ov_chC c) = true := by decide +kernel
theorem ov_lc_ok {c i : Nat} {v : Int32} (h : ov_lc c i = some v) : Cond.constant (ov_cn c) i v ∈ ov_T := by
  have hm := ov_lk_mem h
  by_cases hc : c < 17
  · have h9 := List.all_eq_true.mp (ov_cl_ok c hc) _ hm
    exact ov_in1_e h9
  · rw [ov_nth_ge [] ov_cl c (show 17 ≤ c by omega)] at hm
    cases hm
set_option maxRecDepth 100000 in
theorem ov_ll_ok : ∀ c, c < 17 → (ov_nth [] ov_ll c).all (ov_chL c) = true := by decide +kernel
theorem ov_lL_ok {c i : Nat} {v : Int64} (h : ov_lL c i = some v) : Cond.constantLong (ov_cn c) i v ∈ ov_T := by
  have hm := ov_lk_mem h
  by_cases hc : c < 17
  · have h9 := List.all_eq_true.mp (ov_ll_ok c hc) _ hm
    exact ov_in1_e h9
  · rw [ov_nth_ge [] ov_ll c (show 17 ≤ c by omega)] at hm
    cases hm
set_option maxRecDepth 100000 in
theorem ov_nl_ok : ∀ c, c < 17 → (ov_nth [] ov_nl c).all (ov_chN c) = true := by decide +kernel
theorem ov_ln_ok {c i ci : Nat} (h : ov_ln c i = some ci) : Cond.classLink (ov_cn c) i (ov_cn ci) ∈ ov_T := by
  have hm := ov_lk_mem h
  by_cases hc : c < 17
  · have h9 := List.all_eq_true.mp (ov_nl_ok c hc) _ hm
    exact ov_in1_e h9
  · rw [ov_nth_ge [] ov_nl c (show 17 ≤ c by omega)] at hm
    cases hm
theorem ov_w_oi : Cond.instanceMethod objectInit ∈ ov_T := ov_in1_e (by decide +kernel)
theorem ov_w_sy : Cond.initialized "java/lang/System" ∈ ov_T := ov_in1_e (by decide +kernel)
theorem ov_w_st : Cond.static arraycopyName ∈ ov_T := ov_in1_e (by decide +kernel)
theorem ov_w_nt : Cond.native arraycopyName ∈ ov_T := ov_in1_e (by decide +kernel)
theorem ov_w_m0 : Cond.initialized "java/lang/Math" ∈ ov_T := ov_in1_e (by decide +kernel)
theorem ov_w_m1 : Cond.static Lib.Math.max.name ∈ ov_T := ov_in1_e (by decide +kernel)
theorem ov_w_m2 : Cond.static Lib.Math.min.name ∈ ov_T := ov_in1_e (by decide +kernel)
set_option maxRecDepth 100000 in
theorem ov_w_m3 : Cond.code Lib.Math.max.name Lib.Math.max.code 2 (some .int) ∈ ov_T := ov_inT (List.mem_append_right _ (List.mem_of_getElem? (i := 910) rfl)) (by decide +kernel)
set_option maxRecDepth 100000 in
theorem ov_w_m4 : Cond.code Lib.Math.min.name Lib.Math.min.code 2 (some .int) ∈ ov_T := ov_inT (List.mem_append_right _ (List.mem_of_getElem? (i := 810) rfl)) (by decide +kernel)
theorem ov_w_ai : Cond.arrayClass .int ∈ ov_T := ov_in1_e (by decide +kernel)
theorem ov_w_ac : Cond.arrayClass .char ∈ ov_T := ov_in1_e (by decide +kernel)
theorem ov_w_al : Cond.arrayClass .long ∈ ov_T := ov_in1_e (by decide +kernel)
theorem ov_w_sw : Cond.fieldLink "OneEye$Talk" 48 "OneEye$Talk" "SETS_WITH" "[J" ∈ ov_T := ov_in1_e (by decide +kernel)
theorem ov_w_oc : Cond.code objectInit object_method_1_code 1 none ∈ ov_T := ov_inT (List.mem_append_right _ (List.mem_of_getElem? (i := 29) rfl)) (by decide +kernel)
end
section
/-- what a local or an operand is: an int, a long, a reference (null if the sign is false) to the cell of a region and index -/
abbrev ov_A : Type := Int32 ⊕ (Int64 ⊕ (Bool × Nat × Nat))
/-- a state: ints and longs by region, index, place; the cells that there are; the script -/
abbrev ov_S : Type := (Nat → Nat → Nat → Int32) × (Nat → Nat → Nat → Int64) × List (Nat × Nat) × (Nat × (Nat → Int32))
abbrev ov_Q : Type := Option ov_A → ov_S → Prop
abbrev ov_X : Type := Bool → Bool → Nat → Nat → Nat → ov_M → Nat → List (Option ov_A) → List ov_A → ov_S → ov_Q → Prop
def ov_ib (x : Int32) (n : Nat) : Prop := 0 ≤ x.toInt ∧ x.toInt < (n : Int)
abbrev ov_ix (x : Int32) : Nat := x.toNatClampNeg
def ov_u3 {α : Type} (f : Nat → Nat → Nat → α) (r i j : Nat) (v : α) : Nat → Nat → Nat → α := fun r' i' j' => if r' = r ∧ i' = i ∧ j' = j then v else f r' i' j'
def ov_u2 {α : Type} (f : Nat → Nat → Nat → α) (r i : Nat) (v : Nat → α) : Nat → Nat → Nat → α := fun r' i' => if r' = r ∧ i' = i then v else f r' i'
def ov_g (S : ov_S) (r i j : Nat) : Int32 := S.1 r i j
def ov_gl (S : ov_S) (r i j : Nat) : Int64 := S.2.1 r i j
/-- a place of ints is written -/
def ov_w (S : ov_S) (r i j : Nat) (v : Int32) : ov_S := (ov_u3 S.1 r i j v, S.2)
def ov_wl (S : ov_S) (r i j : Nat) (v : Int64) : ov_S := (S.1, ov_u3 S.2.1 r i j v, S.2.2)
/-- a row of ints is written -/
def ov_wa (S : ov_S) (r i : Nat) (f : Nat → Int32) : ov_S := (ov_u2 S.1 r i f, S.2)
/-- a cell comes, all 0 -/
def ov_n (S : ov_S) (r i : Nat) : ov_S := (ov_u2 S.1 r i (fun _ => 0), ov_u2 S.2.1 r i (fun _ => 0), S.2.2.1 ++ [(r, i)], S.2.2.2)
def ov_sw (k : Nat) : Int64 := ov_nth 0 [-6148914691236517206, -3689348814741910324, -1085102592571150096, -71777214294589696, -281470681808896, -4294967296] k
def ov_wd (k : Nat) : Int32 := ov_nth 0 [103, 105, 118, 101, 32, 115, 101, 101, 32, 32, 115, 97, 121, 32, 32, 108, 105, 101, 32, 32, 114, 101, 115, 116, 32, 102, 101, 101, 108, 32, 116, 111, 32, 32, 32, 101, 121, 101, 32, 32, 101, 97, 114, 32, 32, 109, 111, 117, 116, 104] k
def ov_pI (st : List ov_A) (k : Int32 → List ov_A → Prop) : Prop := match st with
  | .inl x :: r => k x r
  | _ => False
def ov_pL (st : List ov_A) (k : Int64 → List ov_A → Prop) : Prop := match st with
  | .inr (.inl x) :: r => k x r
  | _ => False
/-- a reference that isn't null -/
def ov_pR (st : List ov_A) (k : Nat → Nat → List ov_A → Prop) : Prop := match st with
  | .inr (.inr (true, r, i)) :: t => k r i t
  | _ => False
/-- a reference, null or not -/
def ov_pN (st : List ov_A) (k : Bool → Nat → Nat → List ov_A → Prop) : Prop := match st with
  | .inr (.inr (b, r, i)) :: t => k b r i t
  | _ => False
def ov_pk : Nat → List ov_A → List ov_A → (List ov_A → List ov_A → Prop) → Prop
  | 0, st, as, k => k as st
  | n + 1, st, as, k => match st with
    | v :: r => ov_pk n r (v :: as) k
    | [] => False
def ov_ldI (ls : List (Option ov_A)) (i : Nat) (k : Int32 → Prop) : Prop := match ls[i]? with
  | some (some (.inl x)) => k x
  | _ => False
def ov_ldL (ls : List (Option ov_A)) (i : Nat) (k : Int64 → Prop) : Prop := match ls[i]? with
  | some (some (.inr (.inl x))) => k x
  | _ => False
def ov_ldR (ls : List (Option ov_A)) (i : Nat) (k : (Bool × Nat × Nat) → Prop) : Prop := match ls[i]? with
  | some (some (.inr (.inr x))) => k x
  | _ => False
/-- a place of one word may be written: it is there, and no long is cut -/
def ov_so (ls : List (Option ov_A)) (i : Nat) : Bool := match i with
  | 0 => Nat.blt 0 ls.length
  | j + 1 => match ls[j]? with
    | some (some (.inr (.inl _))) => false
    | _ => Nat.blt (j + 1) ls.length
def ov_sto (ls : List (Option ov_A)) (i : Nat) (v : ov_A) (k : List (Option ov_A) → Prop) : Prop := match ov_so ls i with
  | true => k (ls.set i (some v))
  | false => False
/-- the entry's locals -/
def ov_ea : List ov_A → List (Option ov_A)
  | [] => []
  | .inr (.inl x) :: l => some (.inr (.inl x)) :: none :: ov_ea l
  | v :: l => some v :: ov_ea l
def ov_en (n : Nat) (as : List ov_A) : List (Option ov_A) := ov_ea as ++ List.replicate (n - (ov_ea as).length) none
def ov_jp (pc : Nat) (off : Int) (k : Nat → Prop) : Prop := match (Int.ofNat pc) + off with
  | .ofNat t => k t
  | .negSucc _ => False
def ov_br (c : Prop) (t f : Prop) : Prop := (c → t) ∧ (¬ c → f)
def ov_swT (x : Int32) (k : Int → Prop) : Int → List Int → Prop
  | _, [] => True
  | lo, o :: os => (x.toInt = lo → k o) ∧ ov_swT x k (lo + 1) os
def ov_swL (x : Int32) (k : Int → Prop) (dflt : Int) : List (Int × Int) → Prop
  | [] => k dflt
  | (v, o) :: ps => (x.toInt = v → k o) ∧ (¬ x.toInt = v → ov_swL x k dflt ps)
/-- an int field is put: a boolean's is 0 or 1 -/
def ov_pf (k : Nat) (x : Int32) (P : Prop) : Prop := match k with
  | 0 => P
  | 1 => (x = 0 ∨ x = 1) ∧ P
  | _ => False
def ov_rt (m : ov_M) (x : Int32) (P : Prop) : Prop := match m.2.2.2.2.1 with
  | some .int => P
  | some .boolean => (x = 0 ∨ x = 1) ∧ P
  | _ => False
def ov_ra (m : ov_M) (P : Prop) : Prop := match m.2.2.2.2.1 with
  | some (.object _) => P
  | some (.array _) => P
  | _ => False
def ov_rn (m : ov_M) (P : Prop) : Prop := match m.2.2.2.2.1 with
  | none => P
  | _ => False
end
section
/-- room for a call's locals and for what stays on the stack below it -/
def ov_rm (m : Nat) (as rest : List ov_A) : Bool := Nat.ble (ov_ea as).length m && Nat.ble (ov_ea rest).length 8
/-- a call: the callee from its entry, then the caller behind it -/
def ov_call (Xc X : ov_X) (mo0 mo : Bool) (d a b : Nat) (y : ov_M) (pc : Nat) (ls : List (Option ov_A)) (S : ov_S) (Q : ov_Q) (m : ov_M) (as rest : List ov_A) : Prop := match ov_rm m.2.2.2.1 as rest with
  | true => 0 < d ∧ match mo with
    | true => Xc true true (d - 1) 0 0 m 0 (ov_en m.2.2.2.1 as) [] S (fun r S' => X mo0 true d a b y (pc + 3) ls (r.toList ++ rest) S' Q)
    | false => ∃ a' b' : Nat, a' ≤ a ∧ b' ≤ b ∧ Xc false false (d - 1) a' b' m 0 (ov_en m.2.2.2.1 as) [] S (fun r S' => X mo0 false d (a - a') (b - b') y (pc + 3) ls (r.toList ++ rest) S' Q)
  | false => False
/-- a call that isn't walked: room for it -/
def ov_rs (rest : List ov_A) (P : Prop) : Prop := match Nat.ble (ov_ea rest).length 8 with
  | true => P
  | false => False
def ov_ret (mo0 mo : Bool) (P : Prop) : Prop := match mo0, mo with
  | true, true => P
  | false, false => P
  | _, _ => False
/-- a field is read -/
def ov_get (mo : Bool) (S : ov_S) (r i ci k : Nat) (K : ov_A → Prop) : Prop := match ov_sh r with
  | .inl (c, fks) => match Nat.beq c ci with
    | true => match fks[k]? with
      | some (0, _, _) => K (.inl (ov_g S r i k))
      | some (1, _, _) => K (.inl (ov_g S r i k))
      | some (2, q, g) => match mo with
        | true => K (.inr (.inr (true, q, g i)))
        | false => K (.inr (.inr (ov_g S r i k != 0, q, g i)))
      | some (3, q, g) => K (.inr (.inr (ov_g S r i k != 0, q, g i)))
      | _ => False
    | false => False
  | .inr _ => False
/-- a field is written -/
def ov_put (mo : Bool) (y : ov_M) (S : ov_S) (r i ci k : Nat) (v : ov_A) (K : ov_S → Prop) : Prop := match ov_sh r with
  | .inl (c, fks) => match Nat.beq c ci with
    | true => match fks[k]?, v with
      | some (0, _, _), .inl x => K (ov_w S r i k x)
      | some (1, _, _), .inl x => (x = 0 ∨ x = 1) ∧ K (ov_w S r i k x)
      | some (2, q, g), .inr (.inr (true, q', j)) => mo = false ∧ y.2.1.name = "<init>" ∧ y.1 = c ∧ q' = q ∧ j = g i ∧ K (ov_w S r i k 1)
      | some (3, q, g), .inr (.inr (true, q', j)) => q' = q ∧ j = g i ∧ K (ov_w S r i k 1)
      | some (3, _, _), .inr (.inr (false, _, _)) => K (ov_w S r i k 0)
      | _, _ => False
    | false => False
  | .inr _ => False
def ov_arI (t : Nat) (S : ov_S) (r : Nat) (x : Int32) (K : Prop) : Prop := match ov_sh r with
  | .inr (t', n, _, _) => match Nat.beq t' t with
    | true => ov_ib x n ∧ K
    | false => False
  | .inl _ => False
def ov_iald (S : ov_S) (r i : Nat) (x : Int32) (K : Int32 → Prop) : Prop := match ov_sh r with
  | .inr (0, n, _, _) => ov_ib x n ∧ K (ov_g S r i (ov_ix x))
  | .inr (10, _, _, _) => i = 0 ∧ ov_ib x S.2.2.2.1 ∧ K (S.2.2.2.2 (ov_ix x))
  | _ => False
def ov_lald (S : ov_S) (r i : Nat) (x : Int32) (K : Int64 → Prop) : Prop := match ov_sh r with
  | .inr (2, n, _, _) => ov_ib x n ∧ K (ov_gl S r i (ov_ix x))
  | .inr (11, _, _, _) => i = 0 ∧ ov_ib x 6 ∧ K (ov_sw (ov_ix x))
  | _ => False
def ov_aald (S : ov_S) (r i : Nat) (x : Int32) (K : ov_A → Prop) : Prop := match ov_sh r with
  | .inr (3, n, q, g) => ov_ib x n ∧ K (.inr (.inr (ov_g S r i (ov_ix x) != 0, q, g i (ov_ix x))))
  | .inr (4, n, q, g) => ov_ib x n ∧ K (.inr (.inr (ov_g S r i (ov_ix x) != 0, q, g i (ov_ix x))))
  | _ => False
def ov_aast (S : ov_S) (r i : Nat) (x : Int32) (q' j : Nat) (K : ov_S → Prop) : Prop := match ov_sh r with
  | .inr (3, n, q, g) => ov_ib x n ∧ q' = q ∧ j = g i (ov_ix x) ∧ K (ov_w S r i (ov_ix x) 1)
  | .inr (4, n, q, g) => ov_ib x n ∧ q' = q ∧ j = g i (ov_ix x) ∧ K (ov_w S r i (ov_ix x) 1)
  | _ => False
def ov_len (S : ov_S) (r : Nat) (K : Int32 → Prop) : Prop := match ov_sh r with
  | .inr (10, _, _, _) => K (Int32.ofNat S.2.2.2.1)
  | .inr (0, n, _, _) => K (Int32.ofNat n)
  | .inr (2, n, _, _) => K (Int32.ofNat n)
  | _ => False
/-- a cell is made: any that isn't there -/
def ov_newO (S : ov_S) (a b ci : Nat) (K : Nat → Nat → Nat → Prop) : Prop := ∃ (r i : Nat) (fks : List (Nat × Nat × (Nat → Nat))), ov_sh r = .inl (ci, fks) ∧ (r, i) ∉ S.2.2.1 ∧ 1 ≤ a ∧ fks.length ≤ b ∧ K r i fks.length
def ov_newA (S : ov_S) (a b t : Nat) (x : Int32) (K : Nat → Nat → Nat → Prop) : Prop := ∃ (r i n q : Nat) (g : Nat → Nat → Nat), ov_sh r = .inr (t, n, q, g) ∧ x = Int32.ofNat n ∧ (r, i) ∉ S.2.2.1 ∧ 1 ≤ a ∧ n ≤ b ∧ K r i n
def ov_copy (S : ov_S) (r i r1 i1 : Nat) (sp dp n : Int32) (K : ov_S → Prop) : Prop := match ov_sh r, ov_sh r1 with
  | .inr (0, n0, _, _), .inr (0, n1, _, _) => (¬ sp < 0 ∧ ¬ dp < 0 ∧ ¬ n < 0 ∧ ov_ix sp + ov_ix n ≤ n0 ∧ ov_ix dp + ov_ix n ≤ n1) ∧ K (ov_wa S r1 i1 (va_cpy (S.1 r i) (S.1 r1 i1) (ov_ix sp) (ov_ix dp) (ov_ix n)))
  | _, _ => False
/-- one instruction: 'Xc' of a callee, 'X' of the same method behind it -/
def ov_F (Xc X : ov_X) (mo0 mo : Bool) (d a b : Nat) (y : ov_M) (pc : Nat) (ls : List (Option ov_A)) (st : List ov_A) (S : ov_S) (Q : ov_Q) : Prop :=
  match ov_lk pc y.2.2.2.2.2 with
  | none => False
  | some (ins, len) => match ins with
    | .iconst n => X mo0 mo d a b y (pc + 1) ls (.inl (ov_k n) :: st) S Q
    | .bipush n => X mo0 mo d a b y (pc + 2) ls (.inl (ov_k n) :: st) S Q
    | .sipush n => X mo0 mo d a b y (pc + 3) ls (.inl (ov_k n) :: st) S Q
    | .lconst n => X mo0 mo d a b y (pc + 1) ls (.inr (.inl (Int64.ofNat n.val)) :: st) S Q
    | .ldc i => match ov_lc y.1 i with
      | some v => X mo0 mo d a b y (pc + 2) ls (.inl v :: st) S Q
      | none => match Nat.beq y.1 5 && Nat.beq i 78 with
        | true => X mo0 mo d a b y (pc + 2) ls (.inr (.inr (true, 18, 0)) :: st) S Q
        | false => False
    | .ldc_w i => match ov_lc y.1 i with
      | some v => X mo0 mo d a b y (pc + 3) ls (.inl v :: st) S Q
      | none => False
    | .ldc2_w i => match ov_lL y.1 i with
      | some v => X mo0 mo d a b y (pc + 3) ls (.inr (.inl v) :: st) S Q
      | none => False
    | .aconst_null => X mo0 mo d a b y (pc + 1) ls (.inr (.inr (false, 0, 0)) :: st) S Q
    | .iload_n k => ov_ldI ls k.val fun x => X mo0 mo d a b y (pc + 1) ls (.inl x :: st) S Q
    | .iload i => ov_ldI ls i fun x => X mo0 mo d a b y (pc + 2) ls (.inl x :: st) S Q
    | .lload_n k => ov_ldL ls k.val fun x => X mo0 mo d a b y (pc + 1) ls (.inr (.inl x) :: st) S Q
    | .aload_n k => ov_ldR ls k.val fun x => X mo0 mo d a b y (pc + 1) ls (.inr (.inr x) :: st) S Q
    | .aload i => ov_ldR ls i fun x => X mo0 mo d a b y (pc + 2) ls (.inr (.inr x) :: st) S Q
    | .istore_n k => ov_pI st fun x t => ov_sto ls k.val (.inl x) fun ls => X mo0 mo d a b y (pc + 1) ls t S Q
    | .istore i => ov_pI st fun x t => ov_sto ls i (.inl x) fun ls => X mo0 mo d a b y (pc + 2) ls t S Q
    | .astore_n k => ov_pN st fun s r i t => ov_sto ls k.val (.inr (.inr (s, r, i))) fun ls => X mo0 mo d a b y (pc + 1) ls t S Q
    | .astore j => ov_pN st fun s r i t => ov_sto ls j (.inr (.inr (s, r, i))) fun ls => X mo0 mo d a b y (pc + 2) ls t S Q
    | .iinc i n => ov_ldI ls i fun x => ov_sto ls i (.inl (x + ov_k n)) fun ls => X mo0 mo d a b y (pc + 3) ls st S Q
    | .iadd => ov_pI st fun w t => ov_pI t fun v t => X mo0 mo d a b y (pc + 1) ls (.inl (v + w) :: t) S Q
    | .isub => ov_pI st fun w t => ov_pI t fun v t => X mo0 mo d a b y (pc + 1) ls (.inl (v - w) :: t) S Q
    | .imul => ov_pI st fun w t => ov_pI t fun v t => X mo0 mo d a b y (pc + 1) ls (.inl (v * w) :: t) S Q
    | .idiv => ov_pI st fun w t => ov_pI t fun v t => (¬ w = 0) ∧ X mo0 mo d a b y (pc + 1) ls (.inl (v / w) :: t) S Q
    | .irem => ov_pI st fun w t => ov_pI t fun v t => (¬ w = 0) ∧ X mo0 mo d a b y (pc + 1) ls (.inl (v - v / w * w) :: t) S Q
    | .iand => ov_pI st fun w t => ov_pI t fun v t => X mo0 mo d a b y (pc + 1) ls (.inl (v &&& w) :: t) S Q
    | .ior => ov_pI st fun w t => ov_pI t fun v t => X mo0 mo d a b y (pc + 1) ls (.inl (v ||| w) :: t) S Q
    | .ixor => ov_pI st fun w t => ov_pI t fun v t => X mo0 mo d a b y (pc + 1) ls (.inl (v ^^^ w) :: t) S Q
    | .ishl => ov_pI st fun w t => ov_pI t fun v t => X mo0 mo d a b y (pc + 1) ls (.inl (v <<< (w &&& 31)) :: t) S Q
    | .ishr => ov_pI st fun w t => ov_pI t fun v t => X mo0 mo d a b y (pc + 1) ls (.inl (v >>> (w &&& 31)) :: t) S Q
    | .iushr => ov_pI st fun w t => ov_pI t fun v t => X mo0 mo d a b y (pc + 1) ls (.inl (v.toUInt32 >>> (w.toUInt32 &&& Int32.toUInt32 31)).toInt32 :: t) S Q
    | .land => ov_pL st fun w t => ov_pL t fun v t => X mo0 mo d a b y (pc + 1) ls (.inr (.inl (v &&& w)) :: t) S Q
    | .lor => ov_pL st fun w t => ov_pL t fun v t => X mo0 mo d a b y (pc + 1) ls (.inr (.inl (v ||| w)) :: t) S Q
    | .lxor => ov_pL st fun w t => ov_pL t fun v t => X mo0 mo d a b y (pc + 1) ls (.inr (.inl (v ^^^ w)) :: t) S Q
    | .lshl => ov_pI st fun w t => ov_pL t fun v t => X mo0 mo d a b y (pc + 1) ls (.inr (.inl (v <<< (w.toInt64 &&& 63))) :: t) S Q
    | .lushr => ov_pI st fun w t => ov_pL t fun v t => X mo0 mo d a b y (pc + 1) ls (.inr (.inl (v.toUInt64 >>> (w.toInt64.toUInt64 &&& Int64.toUInt64 63)).toInt64) :: t) S Q
    | .lcmp => ov_pL st fun w t => ov_pL t fun v t => X mo0 mo d a b y (pc + 1) ls (.inl (lg_cmp v w) :: t) S Q
    | .pop => ov_pI st fun _ t => X mo0 mo d a b y (pc + 1) ls t S Q
    | .dup => match st with
      | .inl x :: t => X mo0 mo d a b y (pc + 1) ls (.inl x :: .inl x :: t) S Q
      | .inr (.inr x) :: t => X mo0 mo d a b y (pc + 1) ls (.inr (.inr x) :: .inr (.inr x) :: t) S Q
      | _ => False
    | .dup2 => match st with
      | .inl x :: .inr (.inr v) :: t => X mo0 mo d a b y (pc + 1) ls (.inl x :: .inr (.inr v) :: .inl x :: .inr (.inr v) :: t) S Q
      | _ => False
    | .ifCond c off => ov_pI st fun x t => match c with
      | .eq => ov_jp pc off fun p => (x = 0 → X mo0 mo d a b y p ls t S Q) ∧ (¬ x = 0 → X mo0 mo d a b y (pc + 3) ls t S Q)
      | .ne => ov_jp pc off fun p => (x ≠ 0 → X mo0 mo d a b y p ls t S Q) ∧ (¬ x ≠ 0 → X mo0 mo d a b y (pc + 3) ls t S Q)
      | .lt => ov_jp pc off fun p => (x < 0 → X mo0 mo d a b y p ls t S Q) ∧ (¬ x < 0 → X mo0 mo d a b y (pc + 3) ls t S Q)
      | .ge => ov_jp pc off fun p => (0 ≤ x → X mo0 mo d a b y p ls t S Q) ∧ (¬ 0 ≤ x → X mo0 mo d a b y (pc + 3) ls t S Q)
      | .gt => ov_jp pc off fun p => (0 < x → X mo0 mo d a b y p ls t S Q) ∧ (¬ 0 < x → X mo0 mo d a b y (pc + 3) ls t S Q)
      | .le => ov_jp pc off fun p => (x ≤ 0 → X mo0 mo d a b y p ls t S Q) ∧ (¬ x ≤ 0 → X mo0 mo d a b y (pc + 3) ls t S Q)
    | .if_icmp c off => ov_pI st fun w t => ov_pI t fun x t => match c with
      | .eq => ov_jp pc off fun p => (x = w → X mo0 mo d a b y p ls t S Q) ∧ (¬ x = w → X mo0 mo d a b y (pc + 3) ls t S Q)
      | .ne => ov_jp pc off fun p => (x ≠ w → X mo0 mo d a b y p ls t S Q) ∧ (¬ x ≠ w → X mo0 mo d a b y (pc + 3) ls t S Q)
      | .lt => ov_jp pc off fun p => (x < w → X mo0 mo d a b y p ls t S Q) ∧ (¬ x < w → X mo0 mo d a b y (pc + 3) ls t S Q)
      | .ge => ov_jp pc off fun p => (w ≤ x → X mo0 mo d a b y p ls t S Q) ∧ (¬ w ≤ x → X mo0 mo d a b y (pc + 3) ls t S Q)
      | .gt => ov_jp pc off fun p => (w < x → X mo0 mo d a b y p ls t S Q) ∧ (¬ w < x → X mo0 mo d a b y (pc + 3) ls t S Q)
      | .le => ov_jp pc off fun p => (x ≤ w → X mo0 mo d a b y p ls t S Q) ∧ (¬ x ≤ w → X mo0 mo d a b y (pc + 3) ls t S Q)
    | .ifnull off => ov_pN st fun s _ _ t => match s with
      | true => X mo0 mo d a b y (pc + 3) ls t S Q
      | false => ov_jp pc off fun p => X mo0 mo d a b y p ls t S Q
    | .ifnonnull off => ov_pN st fun s _ _ t => match s with
      | true => ov_jp pc off fun p => X mo0 mo d a b y p ls t S Q
      | false => X mo0 mo d a b y (pc + 3) ls t S Q
    | .goto off => ov_jp pc off fun p => X mo0 mo d a b y p ls st S Q
    | .tableswitch dflt lo hi offs => ov_pI st fun x t => (x.toInt < lo ∨ hi < x.toInt → ov_jp pc dflt fun p => X mo0 mo d a b y p ls t S Q) ∧ ov_swT x (fun o => ov_jp pc o fun p => X mo0 mo d a b y p ls t S Q) lo offs.toList
    | .lookupswitch dflt ps => ov_pI st fun x t => ov_swL x (fun o => ov_jp pc o fun p => X mo0 mo d a b y p ls t S Q) dflt ps.toList
    | .getfield i => match ov_lf y.1 i with
      | some (ci, k) => ov_pR st fun r j t => ov_get mo S r j ci k fun v => X mo0 mo d a b y (pc + 3) ls (v :: t) S Q
      | none => False
    | .putfield i => match ov_lf y.1 i, st with
      | some (ci, k), v :: t => ov_pR t fun r j t => ov_put mo y S r j ci k v fun S => X mo0 mo d a b y (pc + 3) ls t S Q
      | _, _ => False
    | .getstatic i => match Nat.beq y.1 7 && Nat.beq i 48 with
      | true => X mo0 mo d a b y (pc + 3) ls (.inr (.inr (true, 17, 0)) :: st) S Q
      | false => False
    | .iaload => ov_pI st fun x t => ov_pR t fun r i t => ov_iald S r i x fun v => X mo0 mo d a b y (pc + 1) ls (.inl v :: t) S Q
    | .caload => ov_pI st fun x t => ov_pR t fun r i t => ov_arI 1 S r x (X mo0 mo d a b y (pc + 1) ls (.inl (ov_g S r i (ov_ix x)) :: t) S Q)
    | .laload => ov_pI st fun x t => ov_pR t fun r i t => ov_lald S r i x fun v => X mo0 mo d a b y (pc + 1) ls (.inr (.inl v) :: t) S Q
    | .aaload => ov_pI st fun x t => ov_pR t fun r i t => ov_aald S r i x fun v => X mo0 mo d a b y (pc + 1) ls (v :: t) S Q
    | .iastore => ov_pI st fun v t => ov_pI t fun x t => ov_pR t fun r i t => ov_arI 0 S r x (X mo0 mo d a b y (pc + 1) ls t (ov_w S r i (ov_ix x) v) Q)
    | .castore => ov_pI st fun v t => ov_pI t fun x t => ov_pR t fun r i t => ov_arI 1 S r x (X mo0 mo d a b y (pc + 1) ls t (ov_w S r i (ov_ix x) (vp_nar .char v)) Q)
    | .lastore => ov_pL st fun v t => ov_pI t fun x t => ov_pR t fun r i t => ov_arI 2 S r x (X mo0 mo d a b y (pc + 1) ls t (ov_wl S r i (ov_ix x) v) Q)
    | .aastore => ov_pR st fun q j t => ov_pI t fun x t => ov_pR t fun r i t => ov_aast S r i x q j fun S => X mo0 mo d a b y (pc + 1) ls t S Q
    | .arraylength => ov_pR st fun r i t => i = 0 ∧ ov_len S r fun v => X mo0 mo d a b y (pc + 1) ls (.inl v :: t) S Q
    | .new i => match mo, ov_ln y.1 i with
      | false, some ci => ov_newO S a b ci fun r j n => X mo0 false d (a - 1) (b - n) y (pc + 3) ls (.inr (.inr (true, r, j)) :: st) (ov_n S r j) Q
      | _, _ => False
    | .newarray t => match mo, t with
      | false, .int => ov_pI st fun x u => ov_newA S a b 0 x fun r j n => X mo0 false d (a - 1) (b - n) y (pc + 2) ls (.inr (.inr (true, r, j)) :: u) (ov_n S r j) Q
      | false, .char => ov_pI st fun x u => ov_newA S a b 1 x fun r j n => X mo0 false d (a - 1) (b - n) y (pc + 2) ls (.inr (.inr (true, r, j)) :: u) (ov_n S r j) Q
      | false, .long => ov_pI st fun x u => ov_newA S a b 2 x fun r j n => X mo0 false d (a - 1) (b - n) y (pc + 2) ls (.inr (.inr (true, r, j)) :: u) (ov_n S r j) Q
      | _, _ => False
    | .anewarray i => match mo, ov_ln y.1 i with
      | false, some 8 => ov_pI st fun x u => ov_newA S a b 3 x fun r j n => X mo0 false d (a - 1) (b - n) y (pc + 3) ls (.inr (.inr (true, r, j)) :: u) (ov_n S r j) Q
      | false, some 3 => ov_pI st fun x u => ov_newA S a b 4 x fun r j n => X mo0 false d (a - 1) (b - n) y (pc + 3) ls (.inr (.inr (true, r, j)) :: u) (ov_n S r j) Q
      | _, _ => False
    | .invokestatic i => match ov_lm y.1 i with
      | some (0, m) => ov_pk (ov_na m) st [] fun as t => ov_call Xc X mo0 mo d a b y pc ls S Q m as t
      | some (3, m) => ov_pk (ov_na m) st [] fun as t => ov_call Xc X mo0 mo d a b y pc ls S Q m as t
      | some (7, _) => ov_pI st fun n t => ov_pI t fun dp t => ov_pR t fun r1 i1 t => ov_pI t fun sp t => ov_pR t fun r i t => ov_rs t (0 < d ∧ ov_copy S r i r1 i1 sp dp n fun S => X mo0 mo d a b y (pc + 3) ls t S Q)
      | some (10, _) => ov_pI st fun w t => ov_pI t fun v t => ov_rs t (0 < d ∧ X mo0 mo d a b y (pc + 3) ls (.inl (if v < w then w else v) :: t) S Q)
      | some (11, _) => ov_pI st fun w t => ov_pI t fun v t => ov_rs t (0 < d ∧ X mo0 mo d a b y (pc + 3) ls (.inl (if w < v then w else v) :: t) S Q)
      | _ => False
    | .invokevirtual i => match ov_lm y.1 i with
      | some (1, m) => ov_pk (ov_na m) st [] fun as t => ov_pR t fun r j t => match ov_sh r with
        | .inl (c, _) => match Nat.beq c m.1 with
          | true => ov_call Xc X mo0 mo d a b y pc ls S Q m (.inr (.inr (true, r, j)) :: as) t
          | false => False
        | .inr _ => False
      | some (4, m) => ov_pk (ov_na m) st [] fun as t => ov_pR t fun r j t => match ov_sh r with
        | .inl (c, _) => match Nat.beq c m.1 with
          | true => ov_call Xc X mo0 mo d a b y pc ls S Q m (.inr (.inr (true, r, j)) :: as) t
          | false => False
        | .inr _ => False
      | some (8, _) => ov_pR st fun r i t => ov_rs t (r = 18 ∧ i = 0 ∧ 3 < d ∧ X mo0 mo d a b y (pc + 3) ls (.inl 50 :: t) S Q)
      | some (9, _) => ov_pI st fun x t => ov_pR t fun r i t => ov_rs t (r = 18 ∧ i = 0 ∧ 6 < d ∧ ov_ib x 50 ∧ X mo0 mo d a b y (pc + 3) ls (.inl (ov_wd (ov_ix x)) :: t) S Q)
      | _ => False
    | .invokespecial i => match ov_lm y.1 i with
      | some (2, m) => ov_pk (ov_na m) st [] fun as t => ov_pR t fun r j t => match ov_sh r with
        | .inl (c, _) => match Nat.beq c m.1 with
          | true => ov_call Xc X mo0 mo d a b y pc ls S Q m (.inr (.inr (true, r, j)) :: as) t
          | false => False
        | .inr _ => False
      | some (5, m) => ov_pk (ov_na m) st [] fun as t => ov_pR t fun r j t => match ov_sh r with
        | .inl (c, _) => match Nat.beq c m.1 with
          | true => ov_call Xc X mo0 mo d a b y pc ls S Q m (.inr (.inr (true, r, j)) :: as) t
          | false => False
        | .inr _ => False
      | some (6, _) => ov_pR st fun _ _ t => ov_rs t (0 < d ∧ X mo0 mo d a b y (pc + 3) ls t S Q)
      | _ => False
    | .ireturn => ov_pI st fun x t => match t with
      | [] => ov_rt y x (ov_ret mo0 mo (Q (some (.inl x)) S))
      | _ => False
    | .areturn => ov_pN st fun s r i t => match t with
      | [] => ov_ra y (ov_ret mo0 mo (Q (some (.inr (.inr (s, r, i)))) S))
      | _ => False
    | .return_ => match st with
      | [] => ov_rn y (ov_ret mo0 mo (Q none S))
      | _ => False
    | _ => False
/-- the cells that there are have all their final references -/
def ov_full (S : ov_S) : Prop := ∀ (r i k c : Nat) (fks : List (Nat × Nat × (Nat → Nat))) (q : Nat) (g : Nat → Nat), (r, i) ∈ S.2.2.1 → ov_sh r = .inl (c, fks) → fks[k]? = some (2, q, g) → ov_g S r i k ≠ 0
/-- fewer locals are known -/
def ov_mk : List Bool → List (Option ov_A) → List (Option ov_A)
  | b :: bs, v :: ls => (match b with
    | true => v
    | false => none) :: ov_mk bs ls
  | [], ls => ls
  | _, [] => []
/-- what is closed under the steps -/
def ov_closed (X : ov_X) : Prop :=
  (∀ mo0 mo d a b y pc ls st S (Q Q' : ov_Q), (∀ r S', Q r S' → Q' r S') → X mo0 mo d a b y pc ls st S Q → X mo0 mo d a b y pc ls st S Q') ∧
  (∀ mo0 mo d a b y pc ls st S Q, ov_F X X mo0 mo d a b y pc ls st S Q → X mo0 mo d a b y pc ls st S Q) ∧
  (∀ mo0 d a b y pc ls st S Q, (ov_full S → X mo0 false d a b y pc ls st S Q) → X mo0 true d a b y pc ls st S Q) ∧
  (∀ mo0 d a b y pc ls st S Q, ov_full S → X mo0 true d a b y pc ls st S Q → X mo0 false d a b y pc ls st S Q) ∧
  (∀ mo0 mo d a b y pc ls st S Q ms, X mo0 mo d a b y pc (ov_mk ms ls) st S Q → X mo0 mo d a b y pc ls st S Q)
def ov_V0 (mo0 mo : Bool) (d a b : Nat) (y : ov_M) (pc : Nat) (ls : List (Option ov_A)) (st : List ov_A) (S : ov_S) (Q : ov_Q) : Prop := ∀ X : ov_X, ov_closed X → X mo0 mo d a b y pc ls st S Q
end
section
theorem ov_pI_m {st : List ov_A} {k k' : Int32 → List ov_A → Prop} (h : ∀ x t, k x t → k' x t) (g : ov_pI st k) : ov_pI st k' := by
  unfold ov_pI at g ⊢
  split at g
  · exact h _ _ g
  · exact g.elim
theorem ov_pL_m {st : List ov_A} {k k' : Int64 → List ov_A → Prop} (h : ∀ x t, k x t → k' x t) (g : ov_pL st k) : ov_pL st k' := by
  unfold ov_pL at g ⊢
  split at g
  · exact h _ _ g
  · exact g.elim
theorem ov_pR_m {st : List ov_A} {k k' : Nat → Nat → List ov_A → Prop} (h : ∀ r i t, k r i t → k' r i t) (g : ov_pR st k) : ov_pR st k' := by
  unfold ov_pR at g ⊢
  split at g
  · exact h _ _ _ g
  · exact g.elim
theorem ov_pN_m {st : List ov_A} {k k' : Bool → Nat → Nat → List ov_A → Prop} (h : ∀ b r i t, k b r i t → k' b r i t) (g : ov_pN st k) : ov_pN st k' := by
  unfold ov_pN at g ⊢
  split at g
  · exact h _ _ _ _ g
  · exact g.elim
theorem ov_pk_m {k k' : List ov_A → List ov_A → Prop} (h : ∀ a t, k a t → k' a t) : ∀ (n : Nat) (st as : List ov_A), ov_pk n st as k → ov_pk n st as k'
  | 0, st, as, g => h _ _ g
  | n + 1, [], as, g => g
  | n + 1, v :: r, as, g => ov_pk_m h n r (v :: as) g
theorem ov_ldI_m {ls : List (Option ov_A)} {i : Nat} {k k' : Int32 → Prop} (h : ∀ x, k x → k' x) (g : ov_ldI ls i k) : ov_ldI ls i k' := by
  unfold ov_ldI at g ⊢
  split at g
  · exact h _ g
  · exact g.elim
theorem ov_ldL_m {ls : List (Option ov_A)} {i : Nat} {k k' : Int64 → Prop} (h : ∀ x, k x → k' x) (g : ov_ldL ls i k) : ov_ldL ls i k' := by
  unfold ov_ldL at g ⊢
  split at g
  · exact h _ g
  · exact g.elim
theorem ov_ldR_m {ls : List (Option ov_A)} {i : Nat} {k k' : (Bool × Nat × Nat) → Prop} (h : ∀ x, k x → k' x) (g : ov_ldR ls i k) : ov_ldR ls i k' := by
  unfold ov_ldR at g ⊢
  split at g
  · exact h _ g
  · exact g.elim
theorem ov_sto_m {ls : List (Option ov_A)} {i : Nat} {v : ov_A} {k k' : List (Option ov_A) → Prop} (h : ∀ x, k x → k' x) (g : ov_sto ls i v k) : ov_sto ls i v k' := by
  unfold ov_sto at g ⊢
  split at g
  · exact h _ g
  · exact g.elim
theorem ov_jp_m {pc : Nat} {off : Int} {k k' : Nat → Prop} (h : ∀ x, k x → k' x) (g : ov_jp pc off k) : ov_jp pc off k' := by
  unfold ov_jp at g ⊢
  split at g
  · exact h _ g
  · exact g.elim
theorem ov_swT_m {x : Int32} {k k' : Int → Prop} (h : ∀ x, k x → k' x) : ∀ (lo : Int) (os : List Int), ov_swT x k lo os → ov_swT x k' lo os
  | _, [], _ => trivial
  | lo, o :: os, g => ⟨fun e => h _ (g.1 e), ov_swT_m h (lo + 1) os g.2⟩
theorem ov_swL_m {x : Int32} {k k' : Int → Prop} (h : ∀ x, k x → k' x) {dflt : Int} : ∀ (ps : List (Int × Int)), ov_swL x k dflt ps → ov_swL x k' dflt ps
  | [], g => h _ g
  | (v, o) :: ps, g => ⟨fun e => h _ (g.1 e), fun e => ov_swL_m h ps (g.2 e)⟩
theorem ov_get_m {mo : Bool} {S : ov_S} {r i ci k : Nat} {K K' : ov_A → Prop} (h : ∀ x, K x → K' x) (g : ov_get mo S r i ci k K) : ov_get mo S r i ci k K' := by
  unfold ov_get at g ⊢
  split at g
  · split at g
    · split at g
      · exact h _ g
      · exact h _ g
      · split at g <;> exact h _ g
      · exact h _ g
      · exact g.elim
    · exact g.elim
  · exact g.elim
theorem ov_put_m {mo : Bool} {y : ov_M} {S : ov_S} {r i ci k : Nat} {v : ov_A} {K K' : ov_S → Prop} (h : ∀ x, K x → K' x) (g : ov_put mo y S r i ci k v K) : ov_put mo y S r i ci k v K' := by
  unfold ov_put at g ⊢
  split at g
  · split at g
    · split at g
      · exact h _ g
      · exact ⟨g.1, h _ g.2⟩
      · exact ⟨g.1, g.2.1, g.2.2.1, g.2.2.2.1, g.2.2.2.2.1, h _ g.2.2.2.2.2⟩
      · exact ⟨g.1, g.2.1, h _ g.2.2⟩
      · exact h _ g
      · exact g.elim
    · exact g.elim
  · exact g.elim
theorem ov_arI_m {t : Nat} {S : ov_S} {r : Nat} {x : Int32} {K K' : Prop} (h : K → K') (g : ov_arI t S r x K) : ov_arI t S r x K' := by
  unfold ov_arI at g ⊢
  split at g
  · split at g
    · exact ⟨g.1, h g.2⟩
    · exact g.elim
  · exact g.elim
theorem ov_iald_m {S : ov_S} {r i : Nat} {x : Int32} {K K' : Int32 → Prop} (h : ∀ x, K x → K' x) (g : ov_iald S r i x K) : ov_iald S r i x K' := by
  unfold ov_iald at g ⊢
  split at g
  · exact ⟨g.1, h _ g.2⟩
  · exact ⟨g.1, g.2.1, h _ g.2.2⟩
  · exact g.elim
theorem ov_lald_m {S : ov_S} {r i : Nat} {x : Int32} {K K' : Int64 → Prop} (h : ∀ x, K x → K' x) (g : ov_lald S r i x K) : ov_lald S r i x K' := by
  unfold ov_lald at g ⊢
  split at g
  · exact ⟨g.1, h _ g.2⟩
  · exact ⟨g.1, g.2.1, h _ g.2.2⟩
  · exact g.elim
theorem ov_aald_m {S : ov_S} {r i : Nat} {x : Int32} {K K' : ov_A → Prop} (h : ∀ x, K x → K' x) (g : ov_aald S r i x K) : ov_aald S r i x K' := by
  unfold ov_aald at g ⊢
  split at g
  · exact ⟨g.1, h _ g.2⟩
  · exact ⟨g.1, h _ g.2⟩
  · exact g.elim
theorem ov_aast_m {S : ov_S} {r i : Nat} {x : Int32} {q j : Nat} {K K' : ov_S → Prop} (h : ∀ x, K x → K' x) (g : ov_aast S r i x q j K) : ov_aast S r i x q j K' := by
  unfold ov_aast at g ⊢
  split at g
  · exact ⟨g.1, g.2.1, g.2.2.1, h _ g.2.2.2⟩
  · exact ⟨g.1, g.2.1, g.2.2.1, h _ g.2.2.2⟩
  · exact g.elim
theorem ov_len_m {S : ov_S} {r : Nat} {K K' : Int32 → Prop} (h : ∀ x, K x → K' x) (g : ov_len S r K) : ov_len S r K' := by
  unfold ov_len at g ⊢
  split at g
  · exact h _ g
  · exact h _ g
  · exact h _ g
  · exact g.elim
theorem ov_newO_m {S : ov_S} {a b ci : Nat} {K K' : Nat → Nat → Nat → Prop} (h : ∀ r i n, K r i n → K' r i n) (g : ov_newO S a b ci K) : ov_newO S a b ci K' := by
  obtain ⟨r, i, f, g1, g2, g3, g4, g5⟩ := g
  exact ⟨r, i, f, g1, g2, g3, g4, h _ _ _ g5⟩
theorem ov_newA_m {S : ov_S} {a b t : Nat} {x : Int32} {K K' : Nat → Nat → Nat → Prop} (h : ∀ r i n, K r i n → K' r i n) (g : ov_newA S a b t x K) : ov_newA S a b t x K' := by
  obtain ⟨r, i, n, q, f, g1, g2, g3, g4, g5, g6⟩ := g
  exact ⟨r, i, n, q, f, g1, g2, g3, g4, g5, h _ _ _ g6⟩
theorem ov_copy_m {S : ov_S} {r i r1 i1 : Nat} {sp dp n : Int32} {K K' : ov_S → Prop} (h : ∀ x, K x → K' x) (g : ov_copy S r i r1 i1 sp dp n K) : ov_copy S r i r1 i1 sp dp n K' := by
  unfold ov_copy at g ⊢
  split at g
  · exact ⟨g.1, h _ g.2⟩
  · exact g.elim
theorem ov_ret_m {mo0 mo : Bool} {P P' : Prop} (h : P → P') (g : ov_ret mo0 mo P) : ov_ret mo0 mo P' := by
  unfold ov_ret at g ⊢
  split at g
  · exact h g
  · exact h g
  · exact g.elim
theorem ov_rt_m {m : ov_M} {x : Int32} {P P' : Prop} (h : P → P') (g : ov_rt m x P) : ov_rt m x P' := by
  unfold ov_rt at g ⊢
  split at g
  · exact h g
  · exact ⟨g.1, h g.2⟩
  · exact g.elim
theorem ov_rs_m {t : List ov_A} {P P' : Prop} (h : P → P') (g : ov_rs t P) : ov_rs t P' := by
  unfold ov_rs at g ⊢
  split at g
  · exact h g
  · exact g.elim
theorem ov_ra_m {m : ov_M} {P P' : Prop} (h : P → P') (g : ov_ra m P) : ov_ra m P' := by
  unfold ov_ra at g ⊢
  split at g
  · exact h g
  · exact h g
  · exact g.elim
theorem ov_rn_m {m : ov_M} {P P' : Prop} (h : P → P') (g : ov_rn m P) : ov_rn m P' := by
  unfold ov_rn at g ⊢
  split at g
  · exact h g
  · exact g.elim
def ov_mono (X : ov_X) : Prop := ∀ mo0 mo d a b y pc ls st S (Q Q' : ov_Q), (∀ r S', Q r S' → Q' r S') → X mo0 mo d a b y pc ls st S Q → X mo0 mo d a b y pc ls st S Q'
def ov_le (X X' : ov_X) : Prop := ∀ mo0 mo d a b y pc ls st S Q, X mo0 mo d a b y pc ls st S Q → X' mo0 mo d a b y pc ls st S Q
theorem ov_call_m {Xc X Xc' X' : ov_X} (hc : ov_le Xc Xc') (hm : ov_mono Xc') {mo0 mo : Bool} {d a b : Nat} {y : ov_M} {pc : Nat} {ls : List (Option ov_A)} {S : ov_S} {Q Q' : ov_Q} (hx : ∀ mo0 mo d a b y pc ls st S, X mo0 mo d a b y pc ls st S Q → X' mo0 mo d a b y pc ls st S Q') {m : ov_M} {as t : List ov_A} (g : ov_call Xc X mo0 mo d a b y pc ls S Q m as t) : ov_call Xc' X' mo0 mo d a b y pc ls S Q' m as t := by
  unfold ov_call at g ⊢
  split at g
  rotate_left
  · exact g.elim
  refine ⟨g.1, ?_⟩
  cases mo with
  | true => exact hm _ _ _ _ _ _ _ _ _ _ _ _ (fun r S' h => hx _ _ _ _ _ _ _ _ _ _ h) (hc _ _ _ _ _ _ _ _ _ _ _ g.2)
  | false =>
    obtain ⟨a', b', h1, h2, h3⟩ := g.2
    exact ⟨a', b', h1, h2, hm _ _ _ _ _ _ _ _ _ _ _ _ (fun r S' h => hx _ _ _ _ _ _ _ _ _ _ h) (hc _ _ _ _ _ _ _ _ _ _ _ h3)⟩
set_option maxHeartbeats 4000000 in
theorem ov_F_m {Xc X Xc' X' : ov_X} (hc : ov_le Xc Xc') (hm : ov_mono Xc') {mo0 mo : Bool} {d a b : Nat} {y : ov_M} {pc : Nat} {ls : List (Option ov_A)} {st : List ov_A} {S : ov_S} {Q Q' : ov_Q} (hx : ∀ mo0 mo d a b y pc ls st S, X mo0 mo d a b y pc ls st S Q → X' mo0 mo d a b y pc ls st S Q') (hq : ∀ r S', Q r S' → Q' r S') (g : ov_F Xc X mo0 mo d a b y pc ls st S Q) : ov_F Xc' X' mo0 mo d a b y pc ls st S Q' := by
  unfold ov_F at g ⊢
  split at g
  · exact g.elim
  · rename_i ins len hl
    cases ins <;> dsimp only at g ⊢ <;> first
      | exact g.elim
      | exact hx _ _ _ _ _ _ _ _ _ _ g
      | skip
    all_goals repeat' first
      | exact hx _ _ _ _ _ _ _ _ _ _ g
      | exact g.elim
      | (refine ov_pI_m ?_ g; clear g; intro _ _ g)
      | (refine ov_pL_m ?_ g; clear g; intro _ _ g)
      | (refine ov_pR_m ?_ g; clear g; intro _ _ _ g)
      | (refine ov_pN_m ?_ g; clear g; intro _ _ _ _ g)
      | (refine ov_pk_m ?_ _ _ _ g; clear g; intro _ _ g)
      | (refine ov_ldI_m ?_ g; clear g; intro _ g)
      | (refine ov_ldL_m ?_ g; clear g; intro _ g)
      | (refine ov_ldR_m ?_ g; clear g; intro _ g)
      | (refine ov_sto_m ?_ g; clear g; intro _ g)
      | (refine ov_jp_m ?_ g; clear g; intro _ g)
      | (refine ov_get_m ?_ g; clear g; intro _ g)
      | (refine ov_put_m ?_ g; clear g; intro _ g)
      | (refine ov_arI_m ?_ g; clear g; intro g)
      | (refine ov_iald_m ?_ g; clear g; intro _ g)
      | (refine ov_lald_m ?_ g; clear g; intro _ g)
      | (refine ov_aald_m ?_ g; clear g; intro _ g)
      | (refine ov_aast_m ?_ g; clear g; intro _ g)
      | (refine ov_len_m ?_ g; clear g; intro _ g)
      | (refine ov_newO_m ?_ g; clear g; intro _ _ _ g)
      | (refine ov_newA_m ?_ g; clear g; intro _ _ _ g)
      | (refine ov_copy_m ?_ g; clear g; intro _ g)
      | (refine ov_swT_m ?_ _ _ g; clear g; intro _ g)
      | (refine ov_swL_m ?_ _ g; clear g; intro _ g)
      | (refine ov_rt_m ?_ g; clear g; intro g)
      | (refine ov_ret_m ?_ g; clear g; intro g)
      | (refine ov_rs_m ?_ g; clear g; intro g)
      | (refine ov_ra_m ?_ g; clear g; intro g)
      | (refine ov_rn_m ?_ g; clear g; intro g)
      | exact hq _ _ g
      | exact ⟨fun e => ov_jp_m (fun _ g => hx _ _ _ _ _ _ _ _ _ _ g) (g.1 e), ov_swT_m (fun _ g => ov_jp_m (fun _ g => hx _ _ _ _ _ _ _ _ _ _ g) g) _ _ g.2⟩
      | exact ov_call_m hc hm hx g
      | (refine ⟨fun e => ?_, fun e => ?_⟩; have g := g.1 e; rotate_left; have g := g.2 e)
      | (refine ⟨g.1, ?_⟩; have g := g.2)
      | (split at g)
end
section
theorem ov_V0_cl : ov_closed ov_V0 := by
  refine ⟨?_, ?_, ?_, ?_, ?_⟩
  · intro mo0 mo d a b y pc ls st S Q Q' hq h X hX
    exact hX.1 _ _ _ _ _ _ _ _ _ _ _ _ hq (h X hX)
  · intro mo0 mo d a b y pc ls st S Q h X hX
    exact hX.2.1 _ _ _ _ _ _ _ _ _ _ _ (ov_F_m (fun _ _ _ _ _ _ _ _ _ _ _ h => h X hX) hX.1 (fun _ _ _ _ _ _ _ _ _ _ h => h X hX) (fun _ _ h => h) h)
  · intro mo0 d a b y pc ls st S Q h X hX
    exact hX.2.2.1 _ _ _ _ _ _ _ _ _ _ (fun hf => h hf X hX)
  · intro mo0 d a b y pc ls st S Q hf h X hX
    exact hX.2.2.2.1 _ _ _ _ _ _ _ _ _ _ hf (h X hX)
  · intro mo0 mo d a b y pc ls st S Q ms h X hX
    exact hX.2.2.2.2 _ _ _ _ _ _ _ _ _ _ _ _ (h X hX)
theorem ov_Vex : ∃ V : ov_X, ov_closed V ∧ ∀ X, ov_closed X → ov_le V X := ⟨ov_V0, ov_V0_cl, fun X hX _ _ _ _ _ _ _ _ _ _ _ h => h X hX⟩
/-- the least thing closed under the steps: from here the machine comes to its method's end, and then Q -/
noncomputable def ov_V : ov_X := Classical.choose ov_Vex
theorem ov_V_cl : ov_closed ov_V := (Classical.choose_spec ov_Vex).1
theorem ov_V_le {X : ov_X} (hX : ov_closed X) : ov_le ov_V X := (Classical.choose_spec ov_Vex).2 X hX
/-- some instructions, up to the stops -/
def ov_K (V : ov_X) (sp : List (Nat × List Bool)) : Nat → ov_X
  | 0 => V
  | k + 1 => fun mo0 mo d a b y pc ls st S Q => match ov_lk pc sp with
    | some ms => V mo0 mo d a b y pc (ov_mk ms ls) st S Q
    | none => ov_F V (ov_K V sp k) mo0 mo d a b y pc ls st S Q
theorem ov_K_V (sp : List (Nat × List Bool)) : ∀ k, ov_le (ov_K ov_V sp k) ov_V
  | 0 => fun _ _ _ _ _ _ _ _ _ _ _ h => h
  | k + 1 => fun mo0 mo d a b y pc ls st S Q h => by
    unfold ov_K at h
    split at h
    · exact ov_V_cl.2.2.2.2 _ _ _ _ _ _ _ _ _ _ _ _ h
    · exact ov_V_cl.2.1 _ _ _ _ _ _ _ _ _ _ _ (ov_F_m (fun _ _ _ _ _ _ _ _ _ _ _ h => h) ov_V_cl.1 (fun _ _ _ _ _ _ _ _ _ _ h => ov_K_V sp k _ _ _ _ _ _ _ _ _ _ _ h) (fun _ _ h => h) h)
theorem ov_run (sp : List (Nat × List Bool)) (k : Nat) {mo0 mo : Bool} {d a b : Nat} {y : ov_M} {pc : Nat} {ls : List (Option ov_A)} {st : List ov_A} {S : ov_S} {Q : ov_Q} (h : ov_F ov_V (ov_K ov_V sp k) mo0 mo d a b y pc ls st S Q) : ov_V mo0 mo d a b y pc ls st S Q :=
  ov_V_cl.2.1 _ _ _ _ _ _ _ _ _ _ _ (ov_F_m (fun _ _ _ _ _ _ _ _ _ _ _ h => h) ov_V_cl.1 (fun _ _ _ _ _ _ _ _ _ _ h => ov_K_V sp k _ _ _ _ _ _ _ _ _ _ _ h) (fun _ _ h => h) h)
theorem ov_Vm {mo0 mo : Bool} {d a b : Nat} {y : ov_M} {pc : Nat} {ls : List (Option ov_A)} {st : List ov_A} {S : ov_S} {Q Q' : ov_Q} (h : ov_V mo0 mo d a b y pc ls st S Q) (hq : ∀ r S', Q r S' → Q' r S') : ov_V mo0 mo d a b y pc ls st S Q' := ov_V_cl.1 _ _ _ _ _ _ _ _ _ _ _ _ hq h
end
section
def ov_tys (cA : Nat → ClassId) : List (ClassId × FieldType) := [(cA 0, .int), (cA 1, .char), (cA 2, .long), (cA 3, .object "OneEye$Three"), (cA 4, .object "OneEye$Person")]
/-- what a field holds, in the machine's words -/
def ov_fv (ad : Nat → Nat → Nat) (S : ov_S) (r i k : Nat) (fk : Nat × Nat × (Nat → Nat)) : Value := if 2 ≤ fk.1 then (if S.1 r i k = 0 then .null else .ref (ad fk.2.1 (fk.2.2 i))) else .int (S.1 r i k)
/-- a cell, in the machine's words -/
def ov_ce (cA : Nat → ClassId) (ad : Nat → Nat → Nat) (S : ov_S) (r i : Nat) : va_E := match ov_sh r with
  | .inl (ci, fks) => .inr (ci, fks.mapIdx (fun k fk => ov_fv ad S r i k fk))
  | .inr (t, n, q, g) => .inl (cA t, n, if t ≤ 1 then .inl (S.1 r i) else if t = 2 then .inr (.inl (S.2.1 r i)) else .inr (.inr (.inr (.inr (fun j => if j < n then (if S.1 r i j = 0 then none else some (ad q (g i j))) else none)))))
def ov_ws (cA : Nat → ClassId) (ad : Nat → Nat → Nat) (S : ov_S) : va_W := S.2.2.1.map (fun q => (ad q.1 q.2, ov_ce cA ad S q.1 q.2))
def ov_lv (S : ov_S) (r i : Nat) : Prop := (r, i) ∈ S.2.2.1 ∨ (i = 0 ∧ (r = 16 ∨ r = 17 ∨ r = 18))
/-- references show to cells that there are -/
def ov_clo (S : ov_S) : Prop := ∀ r i, (r, i) ∈ S.2.2.1 →
  (∀ c fks k fk, ov_sh r = .inl (c, fks) → fks[k]? = some fk → 2 ≤ fk.1 → S.1 r i k ≠ 0 → (fk.2.1, fk.2.2 i) ∈ S.2.2.1) ∧
  (∀ t n q g j, ov_sh r = .inr (t, n, q, g) → 3 ≤ t → j < n → S.1 r i j ≠ 0 → (q, g i j) ∈ S.2.2.1) ∧
  (∀ t n q g, ov_sh r = .inr (t, n, q, g) → t ≤ 4)
def ov_rv (ad : Nat → Nat → Nat) : ov_A → Value
  | .inl x => .int x
  | .inr (.inl x) => .long x
  | .inr (.inr (true, r, i)) => .ref (ad r i)
  | .inr (.inr (false, _, _)) => .null
def ov_av (S : ov_S) : ov_A → Prop
  | .inr (.inr (true, r, i)) => ov_lv S r i
  | _ => True
def ov_ls (ad : Nat → Nat → Nat) (lsA : Array Slot) (nL : Nat) (ls : List (Option ov_A)) : Prop := ls.length = nL ∧ lsA.size = nL ∧ lv_wf lsA ∧ ∀ (i : Nat) (v : ov_A), ls[i]? = some (some v) → lsA[i]? = some (.val (ov_rv ad v))
def ov_ext (ad : Nat → Nat → Nat) (S : ov_S) (ad' : Nat → Nat → Nat) (S' : ov_S) : Prop := (∀ r i, (r, i) ∈ S.2.2.1 → (r, i) ∈ S'.2.2.1) ∧ ∀ r i, ov_lv S r i → ad' r i = ad r i
theorem ov_ext_rf {ad : Nat → Nat → Nat} {S S' : ov_S} (h : S'.2.2.1 = S.2.2.1) : ov_ext ad S ad S' := ⟨fun r i q => by rw [h]; exact q, fun _ _ _ => rfl⟩
theorem ov_ext.lv {ad ad' : Nat → Nat → Nat} {S S' : ov_S} (h : ov_ext ad S ad' S') {r i : Nat} (q : ov_lv S r i) : ov_lv S' r i := q.elim (fun q => Or.inl (h.1 r i q)) Or.inr
theorem ov_ext.trans {ad ad' ad'' : Nat → Nat → Nat} {S S' S'' : ov_S} (h : ov_ext ad S ad' S') (g : ov_ext ad' S' ad'' S'') : ov_ext ad S ad'' S'' := ⟨fun r i q => g.1 r i (h.1 r i q), fun r i q => (g.2 r i (h.lv q)).trans (h.2 r i q)⟩
theorem ov_ext.rv {ad ad' : Nat → Nat → Nat} {S S' : ov_S} (h : ov_ext ad S ad' S') : ∀ {v : ov_A}, ov_av S v → ov_rv ad' v = ov_rv ad v
  | .inl _, _ => rfl
  | .inr (.inl _), _ => rfl
  | .inr (.inr (true, r, i)), q => by show Value.ref _ = Value.ref _; rw [h.2 r i q]
  | .inr (.inr (false, _, _)), _ => rfl
theorem ov_ext.av {ad ad' : Nat → Nat → Nat} {S S' : ov_S} (h : ov_ext ad S ad' S') : ∀ {v : ov_A}, ov_av S v → ov_av S' v
  | .inl _, _ => trivial
  | .inr (.inl _), _ => trivial
  | .inr (.inr (true, r, i)), q => h.lv (r := r) (i := i) q
  | .inr (.inr (false, _, _)), _ => trivial
theorem ov_ext.avs {ad ad' : Nat → Nat → Nat} {S S' : ov_S} (h : ov_ext ad S ad' S') {st : List ov_A} (q : ∀ v ∈ st, ov_av S v) : (∀ v ∈ st, ov_av S' v) ∧ st.map (ov_rv ad') = st.map (ov_rv ad) := ⟨fun v hv => h.av (q v hv), List.map_congr_left (fun v hv => h.rv (q v hv))⟩
theorem ov_ext.ls {ad ad' : Nat → Nat → Nat} {S S' : ov_S} (h : ov_ext ad S ad' S') {ls : List (Option ov_A)} {lsA : Array Slot} {nL : Nat} (q : ∀ v, some v ∈ ls → ov_av S v) (g : ov_ls ad lsA nL ls) : ov_ls ad' lsA nL ls := ⟨g.1, g.2.1, g.2.2.1, fun i v hv => by rw [h.rv (q v (List.mem_of_getElem? hv))]; exact g.2.2.2 i v hv⟩
section OVR
variable (D : va_G) (cA : Nat → ClassId) (z bS tS aS L : Nat) (xs : Nat → Int32)
def ov_rep (ad : Nat → Nat → Nat) (S : ov_S) (H : Heap) : Prop := va_P D vwCl (ov_ws cA ad S) H ∧ va_D (fun q => z ≤ q) (ov_ws cA ad S) ∧ ov_clo S ∧ ad 16 0 = bS ∧ ad 17 0 = tS ∧ ad 18 0 = aS ∧ S.2.2.2 = (L, xs)
end OVR
theorem ov_at_ws {cA : Nat → ClassId} {ad : Nat → Nat → Nat} {S : ov_S} {r i : Nat} (h : (r, i) ∈ S.2.2.1) : ∃ q0 : Nat, S.2.2.1[q0]? = some (r, i) ∧ (ov_ws cA ad S)[q0]? = some (ad r i, ov_ce cA ad S r i) := by
  obtain ⟨q0, hq⟩ := List.getElem?_of_mem h
  exact ⟨q0, hq, by simp [ov_ws, List.getElem?_map, hq]⟩
/-- one cell changes -/
theorem ov_ws_set {cA : Nat → ClassId} {ad : Nat → Nat → Nat} {S S' : ov_S} {A : Nat → Prop} {q0 r i : Nat} (hD : va_D A (ov_ws cA ad S)) (hl : S'.2.2.1 = S.2.2.1) (hq : S.2.2.1[q0]? = some (r, i)) (ho : ∀ r' i', ¬ (r' = r ∧ i' = i) → ov_ce cA ad S' r' i' = ov_ce cA ad S r' i') :
    (ov_ws cA ad S).set q0 (ad r i, ov_ce cA ad S' r i) = ov_ws cA ad S' := by
  apply List.ext_getElem?
  intro j
  have hlt : q0 < S.2.2.1.length := (List.getElem?_eq_some_iff.mp hq).1
  rw [List.getElem?_set]
  by_cases e : q0 = j
  · subst e
    have hlt2 : q0 < (ov_ws cA ad S).length := by simpa [ov_ws] using hlt
    rw [if_pos rfl, if_pos hlt2]
    simp only [ov_ws, List.getElem?_map, hl, hq]
    rfl
  · rw [if_neg e]
    simp only [ov_ws, List.getElem?_map, hl]
    cases hj : S.2.2.1[j]? with
    | none => rfl
    | some p =>
      obtain ⟨r', i'⟩ := p
      show some _ = some _
      have hne : ¬ (r' = r ∧ i' = i) := by
        rintro ⟨rfl, rfl⟩
        exact e (hD.1 q0 j (ad r' i', ov_ce cA ad S r' i') (ad r' i', ov_ce cA ad S r' i') (by simp [ov_ws, List.getElem?_map, hq]) (by simp [ov_ws, List.getElem?_map, hj]) rfl)
      dsimp only
      rw [ho r' i' hne]
theorem ov_fv_o {ad : Nat → Nat → Nat} {S S' : ov_S} {r i k : Nat} {fk : Nat × Nat × (Nat → Nat)} (h : S'.1 r i k = S.1 r i k) : ov_fv ad S' r i k fk = ov_fv ad S r i k fk := by
  unfold ov_fv
  rw [h]
theorem ov_ce_o {cA : Nat → ClassId} {ad : Nat → Nat → Nat} {S S' : ov_S} {r i : Nat} (h : ∀ k, S'.1 r i k = S.1 r i k) (h2 : ∀ k, S'.2.1 r i k = S.2.1 r i k) : ov_ce cA ad S' r i = ov_ce cA ad S r i := by
  have e1 : S'.1 r i = S.1 r i := funext h
  have e2 : S'.2.1 r i = S.2.1 r i := funext h2
  have e3 : ∀ k fk, ov_fv ad S' r i k fk = ov_fv ad S r i k fk := fun k fk => ov_fv_o (h k)
  unfold ov_ce
  simp only [e1, e2, e3]
theorem ov_w_o {S : ov_S} {r i j : Nat} {v : Int32} {r' i' : Nat} (h : ¬ (r' = r ∧ i' = i)) : (∀ k, (ov_w S r i j v).1 r' i' k = S.1 r' i' k) ∧ ∀ k, (ov_w S r i j v).2.1 r' i' k = S.2.1 r' i' k := by
  refine ⟨fun k => ?_, fun k => rfl⟩
  show (if r' = r ∧ i' = i ∧ k = j then v else S.1 r' i' k) = _
  rw [if_neg (fun q => h ⟨q.1, q.2.1⟩)]
theorem ov_w_s {S : ov_S} {r i j : Nat} {v : Int32} {k : Nat} : (ov_w S r i j v).1 r i k = if k = j then v else S.1 r i k := by
  show (if r = r ∧ i = i ∧ k = j then v else S.1 r i k) = _
  simp
theorem ov_wl_o {S : ov_S} {r i j : Nat} {v : Int64} {r' i' : Nat} (h : ¬ (r' = r ∧ i' = i)) : (∀ k, (ov_wl S r i j v).1 r' i' k = S.1 r' i' k) ∧ ∀ k, (ov_wl S r i j v).2.1 r' i' k = S.2.1 r' i' k := by
  refine ⟨fun k => rfl, fun k => ?_⟩
  show (if r' = r ∧ i' = i ∧ k = j then v else S.2.1 r' i' k) = _
  rw [if_neg (fun q => h ⟨q.1, q.2.1⟩)]
theorem ov_wa_o {S : ov_S} {r i : Nat} {f : Nat → Int32} {r' i' : Nat} (h : ¬ (r' = r ∧ i' = i)) : (∀ k, (ov_wa S r i f).1 r' i' k = S.1 r' i' k) ∧ ∀ k, (ov_wa S r i f).2.1 r' i' k = S.2.1 r' i' k := by
  refine ⟨fun k => ?_, fun k => rfl⟩
  show (if r' = r ∧ i' = i then f else S.1 r' i') k = _
  rw [if_neg h]
/-- the closure keeps, where no reference is written -/
theorem ov_clo_w {S S' : ov_S} {r i : Nat} (h : ov_clo S) (hl : S'.2.2.1 = S.2.2.1) (ho : ∀ r' i', ¬ (r' = r ∧ i' = i) → ∀ k, S'.1 r' i' k = S.1 r' i' k)
    (h1 : ∀ c fks k fk, ov_sh r = .inl (c, fks) → fks[k]? = some fk → 2 ≤ fk.1 → S'.1 r i k ≠ 0 → (fk.2.1, fk.2.2 i) ∈ S.2.2.1)
    (h2 : ∀ t n q g j, ov_sh r = .inr (t, n, q, g) → 3 ≤ t → j < n → S'.1 r i j ≠ 0 → (q, g i j) ∈ S.2.2.1) : ov_clo S' := by
  intro r' i' hm
  rw [hl] at hm ⊢
  by_cases e : r' = r ∧ i' = i
  · obtain ⟨rfl, rfl⟩ := e
    exact ⟨h1, h2, (h r' i' hm).2.2⟩
  · obtain ⟨a1, a2, a3⟩ := h r' i' hm
    refine ⟨fun c fks k fk e1 e2 e3 e4 => a1 c fks k fk e1 e2 e3 (by rw [← ho r' i' e k]; exact e4), fun t n q g j e1 e2 e3 e4 => a2 t n q g j e1 e2 e3 (by rw [← ho r' i' e j]; exact e4), a3⟩
theorem ov_ce_obj {cA : Nat → ClassId} {ad : Nat → Nat → Nat} {S : ov_S} {r i c : Nat} {fks : List (Nat × Nat × (Nat → Nat))} (h : ov_sh r = .inl (c, fks)) : ov_ce cA ad S r i = .inr (c, fks.mapIdx (fun k fk => ov_fv ad S r i k fk)) := by
  unfold ov_ce; rw [h]
theorem ov_ce_arr {cA : Nat → ClassId} {ad : Nat → Nat → Nat} {S : ov_S} {r i t n q : Nat} {g : Nat → Nat → Nat} (h : ov_sh r = .inr (t, n, q, g)) : ov_ce cA ad S r i = .inl (cA t, n, if t ≤ 1 then .inl (S.1 r i) else if t = 2 then .inr (.inl (S.2.1 r i)) else .inr (.inr (.inr (.inr (fun j => if j < n then (if S.1 r i j = 0 then none else some (ad q (g i j))) else none))))) := by
  unfold ov_ce; rw [h]
/-- a field's new value -/
theorem ov_mapIdx_set {α β : Type} (f f' : Nat → α → β) (l : List α) (k : Nat) (v : β) (hv : ∀ a, l[k]? = some a → f' k a = v) (ho : ∀ j a, j ≠ k → f' j a = f j a) : (l.mapIdx f).set k v = l.mapIdx f' := by
  apply List.ext_getElem?
  intro j
  rw [List.getElem?_set, List.getElem?_mapIdx, List.getElem?_mapIdx]
  by_cases e : k = j
  · subst e
    rw [if_pos rfl]
    cases hk : l[k]? with
    | none =>
      have : ¬ k < (l.mapIdx f).length := by simpa using hk
      rw [if_neg this]
      rfl
    | some a =>
      have hlt : k < (l.mapIdx f).length := by simpa using (List.getElem?_eq_some_iff.mp hk).1
      rw [if_pos hlt]
      simp [hv a hk]
  · rw [if_neg e]
    cases l[j]? with
    | none => rfl
    | some a => simp [ho j a (fun h => e h.symm)]
/-- a cell comes at the address q -/
def ov_ua (ad : Nat → Nat → Nat) (r i q : Nat) : Nat → Nat → Nat := fun r' i' => if r' = r ∧ i' = i then q else ad r' i'
theorem ov_ua_s {ad : Nat → Nat → Nat} {r i q : Nat} : ov_ua ad r i q r i = q := by simp [ov_ua]
theorem ov_ua_o {ad : Nat → Nat → Nat} {r i q r' i' : Nat} (h : ¬ (r' = r ∧ i' = i)) : ov_ua ad r i q r' i' = ad r' i' := by
  show (if r' = r ∧ i' = i then q else ad r' i') = _
  rw [if_neg h]
theorem ov_n_o {S : ov_S} {r i r' i' : Nat} (h : ¬ (r' = r ∧ i' = i)) : (∀ k, (ov_n S r i).1 r' i' k = S.1 r' i' k) ∧ ∀ k, (ov_n S r i).2.1 r' i' k = S.2.1 r' i' k := by
  refine ⟨fun k => ?_, fun k => ?_⟩
  · show (if r' = r ∧ i' = i then (fun _ => (0 : Int32)) else S.1 r' i') k = _
    rw [if_neg h]
  · show (if r' = r ∧ i' = i then (fun _ => (0 : Int64)) else S.2.1 r' i') k = _
    rw [if_neg h]
theorem ov_n_s {S : ov_S} {r i : Nat} : (∀ k, (ov_n S r i).1 r i k = 0) ∧ ∀ k, (ov_n S r i).2.1 r i k = 0 := by
  refine ⟨fun k => ?_, fun k => ?_⟩
  · show (if r = r ∧ i = i then (fun _ => (0 : Int32)) else S.1 r i) k = _
    simp
  · show (if r = r ∧ i = i then (fun _ => (0 : Int64)) else S.2.1 r i) k = _
    simp
theorem ov_ws_push {cA : Nat → ClassId} {ad : Nat → Nat → Nat} {S : ov_S} {r i q : Nat} (hc : ov_clo S) (hn : (r, i) ∉ S.2.2.1) :
    ov_ws cA (ov_ua ad r i q) (ov_n S r i) = ov_ws cA ad S ++ [(q, ov_ce cA (ov_ua ad r i q) (ov_n S r i) r i)] := by
  show (S.2.2.1 ++ [(r, i)]).map _ = _
  rw [List.map_append]
  congr 1
  · apply List.map_congr_left
    rintro ⟨r', i'⟩ hm
    have hne : ¬ (r' = r ∧ i' = i) := by rintro ⟨rfl, rfl⟩; exact hn hm
    obtain ⟨a1, a2, a3⟩ := hc r' i' hm
    have key : ∀ q' j', (q', j') ∈ S.2.2.1 → ov_ua ad r i q q' j' = ad q' j' := fun q' j' h => ov_ua_o (by rintro ⟨rfl, rfl⟩; exact hn h)
    obtain ⟨o1, o2⟩ := ov_n_o (S := S) hne
    dsimp only
    rw [key r' i' hm, ov_ce_o (S := S) o1 o2]
    congr 1
    unfold ov_ce
    cases hsh : ov_sh r' with
    | inl p =>
      obtain ⟨c, fks⟩ := p
      dsimp only
      congr 2
      apply List.ext_getElem?
      intro k
      rw [List.getElem?_mapIdx, List.getElem?_mapIdx]
      cases hk : fks[k]? with
      | none => rfl
      | some fk =>
        show some _ = some _
        congr 1
        unfold ov_fv
        dsimp only
        by_cases h2 : 2 ≤ fk.1
        · rw [if_pos h2, if_pos h2]
          by_cases h3 : S.1 r' i' k = 0
          · rw [if_pos h3, if_pos h3]
          · rw [if_neg h3, if_neg h3, key _ _ (a1 c fks k fk hsh hk h2 h3)]
        · rw [if_neg h2, if_neg h2]
    | inr p =>
      obtain ⟨t, n, q', g⟩ := p
      dsimp only
      congr 2
      by_cases t1 : t ≤ 1
      · rw [if_pos t1, if_pos t1]
      · rw [if_neg t1, if_neg t1]
        by_cases t2 : t = 2
        · rw [if_pos t2, if_pos t2]
        · rw [if_neg t2, if_neg t2]
          congr 5
          funext j
          by_cases hj : j < n
          · rw [if_pos hj, if_pos hj]
            by_cases h3 : S.1 r' i' j = 0
            · rw [if_pos h3, if_pos h3]
            · rw [if_neg h3, if_neg h3, key _ _ (a2 t n q' g j hsh (by omega) hj h3)]
          · rw [if_neg hj, if_neg hj]
  · simp [ov_ua_s]
theorem ov_clo_n {S : ov_S} {r i : Nat} (h : ov_clo S) (ht : ∀ t n q g, ov_sh r = .inr (t, n, q, g) → t ≤ 4) : ov_clo (ov_n S r i) := by
  intro r' i' hm
  have up : ∀ p, p ∈ S.2.2.1 → p ∈ (ov_n S r i).2.2.1 := fun p hp => List.mem_append_left _ hp
  by_cases e : r' = r ∧ i' = i
  · obtain ⟨rfl, rfl⟩ := e
    exact ⟨fun c fks k fk _ _ _ h4 => absurd (ov_n_s.1 k) h4, fun t n q g j _ _ _ h4 => absurd (ov_n_s.1 j) h4, ht⟩
  · have hm' : (r', i') ∈ S.2.2.1 := by
      rcases List.mem_append.mp hm with h1 | h1
      · exact h1
      · have := List.mem_singleton.mp h1
        exact absurd ⟨congrArg Prod.fst this, congrArg Prod.snd this⟩ e
    obtain ⟨a1, a2, a3⟩ := h r' i' hm'
    refine ⟨fun c fks k fk e1 e2 e3 e4 => up _ (a1 c fks k fk e1 e2 e3 (by rw [← (ov_n_o (S := S) e).1 k]; exact e4)), fun t n q g j e1 e2 e3 e4 => up _ (a2 t n q g j e1 e2 e3 (by rw [← (ov_n_o (S := S) e).1 j]; exact e4)), a3⟩
theorem ov_ext_n {ad : Nat → Nat → Nat} {S : ov_S} {r i q : Nat} (hn : (r, i) ∉ S.2.2.1) (hb : ¬ (r = 16 ∨ r = 17 ∨ r = 18)) : ov_ext ad S (ov_ua ad r i q) (ov_n S r i) := by
  refine ⟨fun r' i' h => List.mem_append_left _ h, fun r' i' h => ov_ua_o ?_⟩
  rintro ⟨rfl, rfl⟩
  rcases h with h | ⟨-, h⟩
  · exact hn h
  · exact hb h
end
section
section OVS
variable (l : Launch) (D : va_G) (cA : Nat → ClassId) (z bS tS aS L : Nat) (xs : Nat → Int32) (ZS : State → Prop)
/-- what the machine's tables and its old cells say -/
def ov_wk (U : State) : Prop := va_K D vwCl (ov_tys cA) U ∧ (∀ w ∈ ov_nw, va_Nw w U) ∧ va_AO "OneEye$Three" U ∧ va_AO "OneEye$Person" U ∧ va_Z "OneEye$Talk" "SETS_WITH" "[J" (.ref tS) (fun q => z ≤ q) U U.heap ∧ va_T .long tS 6 (fun j => .long (ov_sw j)) (fun q => z ≤ q) U U.heap ∧ va_X bS L xs U U.heap ∧ bS < z ∧ z ≤ U.heap.size ∧ ZS U
/-- a method's end -/
def ov_qc (ad : Nat → Nat → Nat) (S : ov_S) (mo0 : Bool) (Q : ov_Q) : Array Value → State → Outcome → State → Prop := fun _ st oc t => (∃ (r : Option ov_A) (S' : ov_S) (ad' : Nat → Nat → Nat), oc = .returned (r.map (ov_rv ad')) ∧ ov_rep D cA z bS tS aS L xs ad' S' t.heap ∧ ov_ext ad S ad' S' ∧ (∀ v, r = some v → ov_av S' v) ∧ (mo0 = true → ov_full S') ∧ Q r S') ∧ va_F (fun q => z ≤ q) st t
/-- what holds all through a method -/
def ov_E (y : ov_M) (p : Program) (s : State) (m : MethodId) (args : Array Value) (meth : Method) (c : Code) (R : Room) (d mc ms : Nat) : Prop := ov_ok0 y ∧ CallFix p m c y.2.2.1 y.2.2.2.1 s args ov_T (ov_cn y.1) ∧ meth.sig.returnType = y.2.2.2.2.1 ∧ meth.locks = false ∧ meth.name = y.2.1.name ∧ ov_wk D cA z bS tS L xs ZS s ∧ d ≤ R.frames ∧ 64 * d ≤ R.locals ∧ mc ≤ R.cells ∧ ms ≤ R.slots
/-- what a place of a method means, in the machine's words -/
def ov_sem : ov_X := fun mo0 mo d a b y pc ls st S Q => ∀ (p : Program) (e : Env) (s : State) (m : MethodId) (args : Array Value) (below : List Frame) (meth : Method) (c : Code) (R : Room) (mc ms : Nat), ov_E D cA z bS tS L xs ZS y p s m args meth c R d mc ms →
  ∀ (H : Heap) (locs : List Loc) (cells slots : Nat) (ad : Nat → Nat → Nat) (lsA : Array Slot), va_S (fun q => z ≤ q) s.heap H locs → ov_rep D cA z bS tS aS L xs ad S H → (mo = true → ov_full S) → ov_ls ad lsA y.2.2.2.1 ls → (∀ v, some v ∈ ls → ov_av S v) → (∀ v ∈ st, ov_av S v) → cells + a ≤ mc → slots + b ≤ ms →
  W p l e R s m args below meth c H locs cells slots (MQ below (ov_qc D cA z bS tS aS L xs ad S mo0 Q) args s mc ms (fun q => z ≤ q)) (F0 m pc lsA (st.map (ov_rv ad)))
end OVS
theorem ov_Wm {p : Program} {l : Launch} {e : Env} {R : Room} {s : State} {m : MethodId} {args : Array Value} {below : List Frame} {meth : Method} {c : Code} {H : Heap} {locs : List Loc} {cells slots : Nat} {Q Q' : State → Prop} {g : JFrame} (h : ∀ t, Q t → Q' t) (k : W p l e R s m args below meth c H locs cells slots Q g) : W p l e R s m args below meth c H locs cells slots Q' g := by
  intro T hT X
  obtain ⟨t, a, b⟩ := k T hT X
  exact ⟨t, a, h t b⟩
theorem ov_MQm {below : List Frame} {Qc Qc' : Array Value → State → Outcome → State → Prop} {a : Array Value} {s : State} {mc ms : Nat} {free : Addr → Prop} (h : ∀ o t, Qc a s o t → Qc' a s o t) : ∀ t, MQ below Qc a s mc ms free t → MQ below Qc' a s mc ms free t := by
  rintro t ⟨o, h1, h2, h3, h4⟩
  exact ⟨o, h1, h2, h _ _ h3, h4⟩
theorem ov_pI_e {st : List ov_A} {k : Int32 → List ov_A → Prop} (g : ov_pI st k) : ∃ x t, st = .inl x :: t ∧ k x t := by
  unfold ov_pI at g
  split at g
  · exact ⟨_, _, rfl, g⟩
  · exact g.elim
theorem ov_pL_e {st : List ov_A} {k : Int64 → List ov_A → Prop} (g : ov_pL st k) : ∃ x t, st = .inr (.inl x) :: t ∧ k x t := by
  unfold ov_pL at g
  split at g
  · exact ⟨_, _, rfl, g⟩
  · exact g.elim
theorem ov_pR_e {st : List ov_A} {k : Nat → Nat → List ov_A → Prop} (g : ov_pR st k) : ∃ r i t, st = .inr (.inr (true, r, i)) :: t ∧ k r i t := by
  unfold ov_pR at g
  split at g
  · exact ⟨_, _, _, rfl, g⟩
  · exact g.elim
theorem ov_pN_e {st : List ov_A} {k : Bool → Nat → Nat → List ov_A → Prop} (g : ov_pN st k) : ∃ b r i t, st = .inr (.inr (b, r, i)) :: t ∧ k b r i t := by
  unfold ov_pN at g
  split at g
  · exact ⟨_, _, _, _, rfl, g⟩
  · exact g.elim
theorem ov_pk_e {k : List ov_A → List ov_A → Prop} : ∀ (n : Nat) (st as : List ov_A), ov_pk n st as k → ∃ bs t, bs.length = n ∧ st = bs.reverse ++ t ∧ k (bs ++ as) t
  | 0, st, as, g => ⟨[], st, rfl, rfl, g⟩
  | n + 1, [], as, g => g.elim
  | n + 1, v :: r, as, g => by
    obtain ⟨bs, t, h1, h2, h3⟩ := ov_pk_e n r (v :: as) g
    exact ⟨bs ++ [v], t, by simp [h1], by simp [h2], by simpa using h3⟩
theorem ov_ldI_e {ls : List (Option ov_A)} {i : Nat} {k : Int32 → Prop} (g : ov_ldI ls i k) : ∃ x, ls[i]? = some (some (.inl x)) ∧ k x := by
  unfold ov_ldI at g
  split at g
  · rename_i h
    exact ⟨_, h, g⟩
  · exact g.elim
theorem ov_ldL_e {ls : List (Option ov_A)} {i : Nat} {k : Int64 → Prop} (g : ov_ldL ls i k) : ∃ x, ls[i]? = some (some (.inr (.inl x))) ∧ k x := by
  unfold ov_ldL at g
  split at g
  · rename_i h
    exact ⟨_, h, g⟩
  · exact g.elim
theorem ov_ldR_e {ls : List (Option ov_A)} {i : Nat} {k : (Bool × Nat × Nat) → Prop} (g : ov_ldR ls i k) : ∃ b r j, ls[i]? = some (some (.inr (.inr (b, r, j)))) ∧ k (b, r, j) := by
  unfold ov_ldR at g
  split at g
  · rename_i x h
    obtain ⟨b, r, j⟩ := x
    exact ⟨b, r, j, h, g⟩
  · exact g.elim
theorem ov_sto_e {ls : List (Option ov_A)} {i : Nat} {v : ov_A} {k : List (Option ov_A) → Prop} (g : ov_sto ls i v k) : ov_so ls i = true ∧ k (ls.set i (some v)) := by
  unfold ov_sto at g
  split at g
  · rename_i h
    exact ⟨h, g⟩
  · exact g.elim
theorem ov_jp_e {pc : Nat} {off : Int} {k : Nat → Prop} (g : ov_jp pc off k) : ∃ t : Nat, (pc : Int) + off = (t : Int) ∧ k t := by
  unfold ov_jp at g
  split at g
  · rename_i h
    exact ⟨_, h, g⟩
  · exact g.elim
theorem ov_rs_e {t : List ov_A} {P : Prop} (g : ov_rs t P) : (ov_ea t).length ≤ 8 ∧ P := by
  unfold ov_rs at g
  split at g
  · rename_i h
    exact ⟨Nat.le_of_ble_eq_true h, g⟩
  · exact g.elim
theorem ov_av_t {S : ov_S} {x : ov_A} {t : List ov_A} (h : ∀ v ∈ x :: t, ov_av S v) : ∀ v ∈ t, ov_av S v := fun v hv => h v (List.mem_cons_of_mem _ hv)
theorem ov_av_c {S : ov_S} {x : ov_A} {t : List ov_A} (hx : ov_av S x) (h : ∀ v ∈ t, ov_av S v) : ∀ v ∈ x :: t, ov_av S v := fun v hv => by
  rcases List.mem_cons.mp hv with rfl | hv
  · exact hx
  · exact h v hv
theorem ov_cat (ad : Nat → Nat → Nat) : ∀ v : ov_A, (ov_rv ad v).category = 2 → ∃ x, v = .inr (.inl x)
  | .inl _, h => by simp [ov_rv, Value.category] at h
  | .inr (.inl x), _ => ⟨x, rfl⟩
  | .inr (.inr (true, _, _)), h => by simp [ov_rv, Value.category] at h
  | .inr (.inr (false, _, _)), h => by simp [ov_rv, Value.category] at h
theorem ov_words (ad : Nat → Nat → Nat) : ∀ t : List ov_A, ((t.map (ov_rv ad)).map fun v => v.category).sum = (ov_ea t).length
  | [] => rfl
  | .inl _ :: t => by simpa [ov_ea, ov_rv, Value.category, Nat.add_comm] using ov_words ad t
  | .inr (.inl x) :: t => by
    have := ov_words ad t
    simp only [List.map_cons, List.sum_cons, ov_ea, List.length_cons, this]
    show 2 + _ = _
    omega
  | .inr (.inr (true, _, _)) :: t => by simpa [ov_ea, ov_rv, Value.category, Nat.add_comm] using ov_words ad t
  | .inr (.inr (false, _, _)) :: t => by simpa [ov_ea, ov_rv, Value.category, Nat.add_comm] using ov_words ad t
/-- the known locals as the kit lists them -/
def ov_as (ad : Nat → Nat → Nat) (ls : List (Option ov_A)) : List (Nat × Value) := (List.range ls.length).filterMap (fun j => match ls[j]? with
  | some (some v) => some (j, ov_rv ad v)
  | _ => none)
theorem ov_as_mem {ad : Nat → Nat → Nat} {ls : List (Option ov_A)} {q : Nat × Value} : q ∈ ov_as ad ls ↔ ∃ v, ls[q.1]? = some (some v) ∧ q.2 = ov_rv ad v := by
  unfold ov_as
  rw [List.mem_filterMap]
  constructor
  · rintro ⟨j, hj, h⟩
    split at h
    · rename_i v hv
      cases h
      exact ⟨v, hv, rfl⟩
    · cases h
  · rintro ⟨v, h1, h2⟩
    refine ⟨q.1, List.mem_range.mpr (List.getElem?_eq_some_iff.mp h1).1, ?_⟩
    rw [h1]
    show some (q.1, ov_rv ad v) = some q
    rw [← h2]
theorem ov_ls_has {ad : Nat → Nat → Nat} {lsA : Array Slot} {nL : Nat} {ls : List (Option ov_A)} (h : ov_ls ad lsA nL ls) : lv_has lsA nL (ov_as ad ls) := by
  refine ⟨h.2.1, h.2.2.1, fun q hq => ?_⟩
  obtain ⟨v, h1, h2⟩ := ov_as_mem.mp hq
  rw [h2]
  exact h.2.2.2 _ _ h1
theorem ov_so_lt {ls : List (Option ov_A)} {i : Nat} (h : ov_so ls i = true) : i < ls.length := by
  unfold ov_so at h
  split at h
  · exact Nat.le_of_ble_eq_true h
  · split at h
    · cases h
    · exact Nat.le_of_ble_eq_true h
theorem ov_so_long {ls : List (Option ov_A)} {i j : Nat} {x : Int64} (h : ov_so ls i = true) (e : j + 1 = i) (g : ls[j]? = some (some (.inr (.inl x)))) : False := by
  subst e
  simp [ov_so, g] at h
theorem ov_ls_set {ad : Nat → Nat → Nat} {ls' : Array Slot} {nL i : Nat} {v : ov_A} {ls : List (Option ov_A)} (hn : ls.length = nL) (ho : ov_so ls i = true) (h : lv_has ls' nL ((i, ov_rv ad v) :: (ov_as ad ls).filter (fun q => !(q.1 == i) && !(q.1 + 1 == i && q.2.category == 2)))) : ov_ls ad ls' nL (ls.set i (some v)) := by
  refine ⟨by simp [hn], h.1, h.2.1, fun j w hw => ?_⟩
  rw [List.getElem?_set] at hw
  by_cases e : i = j
  · subst e
    rw [if_pos rfl, if_pos (ov_so_lt ho)] at hw
    cases hw
    exact h.2.2 _ List.mem_cons_self
  · rw [if_neg e] at hw
    refine h.2.2 (j, ov_rv ad w) (List.mem_cons_of_mem _ (List.mem_filter.mpr ⟨ov_as_mem.mpr ⟨w, hw, rfl⟩, ?_⟩))
    have e1 : (j == i) = false := by simpa using fun q => e q.symm
    rw [e1]
    by_cases e2 : j + 1 = i
    · have : ¬ (ov_rv ad w).category = 2 := fun q => by
        obtain ⟨x, rfl⟩ := ov_cat ad w q
        exact ov_so_long ho e2 hw
      simp [e2, this]
    · simp [e2]
theorem ov_al_set {S : ov_S} {i : Nat} {v : ov_A} {ls : List (Option ov_A)} (h : ∀ v, some v ∈ ls → ov_av S v) (hv : ov_av S v) : ∀ w, some w ∈ ls.set i (some v) → ov_av S w := by
  intro w hw
  rcases List.mem_or_eq_of_mem_set hw with h1 | h1
  · exact h w h1
  · cases h1
    exact hv
theorem ov_ib_in {x : Int32} {n : Nat} (h : ov_ib x n) : vp_in x n := vp_in_iff.mpr h
theorem ov_mk_ls {ad : Nat → Nat → Nat} {lsA : Array Slot} {nL : Nat} : ∀ (ms : List Bool) (ls : List (Option ov_A)), (ov_mk ms ls).length = ls.length ∧ ∀ (i : Nat) (v : ov_A), (ov_mk ms ls)[i]? = some (some v) → ls[i]? = some (some v)
  | [], ls => by simp [ov_mk]
  | _ :: _, [] => by simp [ov_mk]
  | b :: bs, v :: ls => by
    obtain ⟨h1, h2⟩ := ov_mk_ls (ad := ad) (lsA := lsA) (nL := nL) bs ls
    refine ⟨by simp [ov_mk, h1], fun i w => ?_⟩
    cases i with
    | zero => cases b <;> simp [ov_mk]
    | succ i => simpa [ov_mk] using h2 i w
/-- the entry -/
theorem ov_en_ea (ad : Nat → Nat → Nat) : ∀ (as : List ov_A) (i j : Nat) (v : ov_A), (ov_ea as)[j]? = some (some v) → (i + j, ov_rv ad v) ∈ lv_args i (as.map (ov_rv ad))
  | [], i, j, v, h => by simp [ov_ea] at h
  | .inl x :: as, i, j, v, h => by
    cases j with
    | zero => simp [ov_ea] at h; subst h; simp [lv_args]
    | succ j =>
      have := ov_en_ea ad as (i + 1) j v (by simpa [ov_ea] using h)
      simp only [List.map_cons, lv_args]
      refine List.mem_cons_of_mem _ ?_
      rw [show i + (j + 1) = i + 1 + j by omega]
      simpa [ov_rv, Value.category] using this
  | .inr (.inl x) :: as, i, j, v, h => by
    match j with
    | 0 => simp [ov_ea] at h; subst h; simp [lv_args]
    | 1 => simp [ov_ea] at h
    | j + 2 =>
      have := ov_en_ea ad as (i + 2) j v (by simpa [ov_ea] using h)
      simp only [List.map_cons, lv_args]
      refine List.mem_cons_of_mem _ ?_
      rw [show i + (j + 2) = i + 2 + j by omega]
      simpa [ov_rv, Value.category] using this
  | .inr (.inr q) :: as, i, j, v, h => by
    cases j with
    | zero => simp [ov_ea] at h; subst h; simp [lv_args]
    | succ j =>
      have := ov_en_ea ad as (i + 1) j v (by simpa [ov_ea] using h)
      simp only [List.map_cons, lv_args]
      refine List.mem_cons_of_mem _ ?_
      rw [show i + (j + 1) = i + 1 + j by omega]
      obtain ⟨b, r, k⟩ := q
      cases b <;> simpa [ov_rv, Value.category] using this
theorem ov_ea_sl (ad : Nat → Nat → Nat) : ∀ as : List ov_A, (lg_sl (as.map (ov_rv ad))).length = (ov_ea as).length
  | [] => rfl
  | .inl x :: as => by
    have e : lg_sl ((.inl x :: as : List ov_A).map (ov_rv ad)) = .val (.int x) :: lg_sl (as.map (ov_rv ad)) := rfl
    rw [e]; simp [ov_ea, ov_ea_sl ad as]
  | .inr (.inl x) :: as => by
    have e : lg_sl ((.inr (.inl x) :: as : List ov_A).map (ov_rv ad)) = .val (.long x) :: .second :: lg_sl (as.map (ov_rv ad)) := rfl
    rw [e]; simp [ov_ea, ov_ea_sl ad as]
  | .inr (.inr (true, r, k)) :: as => by
    have e : lg_sl ((.inr (.inr (true, r, k)) :: as : List ov_A).map (ov_rv ad)) = .val (.ref (ad r k)) :: lg_sl (as.map (ov_rv ad)) := rfl
    rw [e]; simp [ov_ea, ov_ea_sl ad as]
  | .inr (.inr (false, r, k)) :: as => by
    have e : lg_sl ((.inr (.inr (false, r, k)) :: as : List ov_A).map (ov_rv ad)) = .val .null :: lg_sl (as.map (ov_rv ad)) := rfl
    rw [e]; simp [ov_ea, ov_ea_sl ad as]
theorem ov_entry {ad : Nat → Nat → Nat} {as : List ov_A} {n : Nat} (h : (ov_ea as).length ≤ n) : ov_ls ad ((lg_sl (as.map (ov_rv ad)) ++ List.replicate (n - (lg_sl (as.map (ov_rv ad))).length) Slot.unset).toArray) n (ov_en n as) := by
  have hl := lv_entry (as.map (ov_rv ad)) (n := n) (by rw [ov_ea_sl]; exact h)
  refine ⟨?_, hl.1, hl.2.1, fun i v hv => ?_⟩
  · simp only [ov_en, List.length_append, List.length_replicate]; omega
  · have h1 : (ov_ea as)[i]? = some (some v) := by
      unfold ov_en at hv
      by_cases hi : i < (ov_ea as).length
      · rwa [List.getElem?_append_left hi] at hv
      · rw [List.getElem?_append_right (by omega)] at hv
        have h2 := List.mem_of_getElem? hv
        have h3 := (List.mem_replicate.mp h2).2
        cases h3
    have h2 := ov_en_ea ad as 0 i v h1
    rw [Nat.zero_add] at h2
    exact hl.2.2 (i, ov_rv ad v) h2
theorem ov_en_av {S : ov_S} {n : Nat} : ∀ {as : List ov_A}, (∀ v ∈ as, ov_av S v) → ∀ v, some v ∈ ov_en n as → ov_av S v := by
  intro as h v hv
  have key : ∀ (as : List ov_A) (v : ov_A), some v ∈ ov_ea as → v ∈ as := by
    intro as
    induction as with
    | nil => intro v hv; simp [ov_ea] at hv
    | cons x t ih =>
      intro v hv
      rcases x with x | x | x
      · rcases List.mem_cons.mp hv with h | h
        · cases h; exact List.mem_cons_self
        · exact List.mem_cons_of_mem _ (ih v h)
      · rcases List.mem_cons.mp hv with h | h
        · cases h; exact List.mem_cons_self
        · rcases List.mem_cons.mp h with h | h
          · cases h
          · exact List.mem_cons_of_mem _ (ih v h)
      · rcases List.mem_cons.mp hv with h | h
        · cases h; exact List.mem_cons_self
        · exact List.mem_cons_of_mem _ (ih v h)
  rcases List.mem_append.mp hv with h1 | h1
  · exact h v (key as v h1)
  · have := (List.mem_replicate.mp h1).2
    cases this
end
section
section OVF
variable {l : Launch} {D : va_G} {cA : Nat → ClassId} {z bS tS aS L : Nat} {xs : Nat → Int32} {ZS : State → Prop}
/-- String's two methods on the one text, and its loading: rules of the machine -/
def ov_HS (l : Launch) (z aS : Nat) (ZS : State → Prop) : Prop := ∀ (p : Program) (e : Env) (R : Room) (s : State) (m : MethodId) (args : Array Value) (below : List Frame) (meth : Method) (c : Code) (H : Heap) (locs : List Loc) (cells slots : Nat) (Q : State → Prop) (cc : ByteArray) (nL pc : Nat) (ls : Array Slot) (rest : List Value),
  CallFix p m c cc nL s args ov_T "OneEye$Reader" → ZS s → va_S (fun q => z ≤ q) s.heap H locs → ls.size = nL → z ≤ s.heap.size →
  (decode cc pc = .ok (.ldc 78, 2) → W p l e R s m args below meth c H locs cells slots Q (F0 m (pc + 2) ls (.ref aS :: rest)) → W p l e R s m args below meth c H locs cells slots Q (F0 m pc ls rest)) ∧
  (∀ i, (Cond.methodLink "OneEye$Reader" i ⟨"java/lang/String", "length", "()I"⟩).before args s = true → (rest.map fun v => v.category).sum ≤ 8 → 4 ≤ R.frames → 256 ≤ R.locals → cells ≤ R.cells → slots ≤ R.slots → decode cc pc = .ok (.invokevirtual i, 3) → (∀ (H1 : Heap) (locs1 : List Loc), (∀ q : Nat, q < H.size → H1[q]? = H[q]?) → H.size ≤ H1.size → va_S (fun q => z ≤ q) s.heap H1 locs1 → W p l e R s m args below meth c H1 locs1 cells slots Q (F0 m (pc + 3) ls (.int 50 :: rest))) → W p l e R s m args below meth c H locs cells slots Q (F0 m pc ls (.ref aS :: rest))) ∧
  (∀ i (x : Int32), (Cond.methodLink "OneEye$Reader" i ⟨"java/lang/String", "charAt", "(I)C"⟩).before args s = true → (rest.map fun v => v.category).sum ≤ 8 → 7 ≤ R.frames → 448 ≤ R.locals → cells ≤ R.cells → slots ≤ R.slots → ov_ib x 50 → decode cc pc = .ok (.invokevirtual i, 3) → (∀ (H1 : Heap) (locs1 : List Loc), (∀ q : Nat, q < H.size → H1[q]? = H[q]?) → H.size ≤ H1.size → va_S (fun q => z ≤ q) s.heap H1 locs1 → W p l e R s m args below meth c H1 locs1 cells slots Q (F0 m (pc + 3) ls (.int (ov_wd (ov_ix x)) :: rest))) → W p l e R s m args below meth c H locs cells slots Q (F0 m pc ls (.int x :: .ref aS :: rest)))
/-- what the string world is kept by -/
def ov_HZ (z : Nat) (ZS : State → Prop) : Prop := ∀ s U : State, ZS s → s.WarmedH U.vm → (∀ q : Nat, q < z → U.heap[q]? = s.heap[q]?) → ZS U
theorem ov_wk_moved (hZ : ov_HZ z ZS) {s U : State} (h : ov_wk D cA z bS tS L xs ZS s) (hW : s.WarmedH U.vm) {locs : List Loc} (hS : va_S (fun q => z ≤ q) s.heap U.heap locs) : ov_wk D cA z bS tS L xs ZS U := by
  obtain ⟨h1, h2, h3, h4, h5, h6, h7, h8, h9, h10⟩ := h
  have hq : ∀ q : Nat, q < z → U.heap[q]? = s.heap[q]? := fun q hq => hS.2.1 q (by omega) (by simpa using hq)
  refine ⟨va_K.moved hW.alike h1, fun w hw => ?_, h3.moved hW.alike, h4.moved hW.alike, (h5.moved hW.alike).kept (fun a h1 h2 => hS.2.1 a h1 h2), (h6.moved hW.alike).kept (fun a h1 h2 => hS.2.1 a h1 h2), (h7.moved hW.alike).kept (hq bS h8), h8, Nat.le_trans h9 hS.1, hZ s U h10 hW hq⟩
  have h := h2 w hw
  have hn := (List.mem_filter.mp hw).2
  cases w <;> first | exact va_Nw.warmM hW h | cases hn
/-- a callee by its meaning -/
theorem ov_met (hZ : ov_HZ z ZS) {mo : Bool} {d a b : Nat} {y : ov_M} {as : List ov_A} {S : ov_S} {Q : ov_Q} {ad : Nat → Nat → Nat} (hok : ov_okc y) (hea : (ov_ea as).length ≤ y.2.2.2.1) (h : ov_sem l D cA z bS tS aS L xs ZS mo mo d a b y 0 (ov_en y.2.2.2.1 as) [] S Q) (hav : ∀ v ∈ as, ov_av S v) (hF : mo = true → ov_full S) :
    Met l y.2.1 (Cond.code y.2.1 y.2.2.1 y.2.2.2.1 y.2.2.2.2.1 :: ov_T) { frames := d, cells := a, slots := b, locals := 64 * d } (va_Pc (as.map (ov_rv ad)) (fun U => ov_wk D cA z bS tS L xs ZS U ∧ ov_rep D cA z bS tS aS L xs ad S U.heap)) (ov_qc D cA z bS tS aS L xs ad S mo Q) a b (fun q => z ≤ q) := by
  refine Met.ofW (cc := y.2.2.1) (maxL := y.2.2.2.1) (ret := y.2.2.2.2.1) hok.2.2.1 rfl ?_
  intro p e s m args below meth c s₁ B hml hv
  obtain ⟨rfl, hwk, hR⟩ := hv
  have hts := atoms_spec (ws := Cond.code y.2.1 y.2.2.1 y.2.2.2.1 y.2.2.2.2.1 :: ov_T) B.pre
  have hown : s.vm.findClass (ov_cn y.1) = some m.cls := by rw [← hok.1.2]; exact findClass_of_methodNamed B.named
  rw [lg_entry_eq]
  refine h p e s m _ below meth c _ a b ⟨hok.1, ⟨B.exec, B.bytes, hml, hown, fun w hw => hts w (List.mem_cons_of_mem _ hw)⟩, B.returns, B.notSynchronized, (name_of_methodNamed B.named B.method).1, hwk, Nat.le_refl _, Nat.le_refl _, Nat.le_refl _, Nat.le_refl _⟩ s.heap [] 0 0 ad _ va_S.rf hR hF (ov_entry hea) (ov_en_av hav) (fun v hv => by cases hv) (by omega) (by omega)
theorem ov_blind {av : List Value} {ad : Nat → Nat → Nat} {S : ov_S} (hZ : ov_HZ z ZS) : FrameBlind (va_Pc av (fun U => ov_wk D cA z bS tS L xs ZS U ∧ ov_rep D cA z bS tS aS L xs ad S U.heap)) := by
  rintro a U g mk ⟨h1, h2, h3⟩
  refine ⟨h1, ?_, h3⟩
  obtain ⟨k1, k2, k3, k4, k5, k6, k7, k8, k9, k10⟩ := h2
  refine ⟨va_K.moved (u := U) (U := U.calling g mk a) (Vm.Alike.refl U.vm) k1, fun w hw => ?_, k3.moved (U := U.calling g mk a) (Vm.Alike.refl U.vm), k4.moved (U := U.calling g mk a) (Vm.Alike.refl U.vm), k5.moved (U := U.calling g mk a) (Vm.Alike.refl U.vm), k6.moved (U := U.calling g mk a) (Vm.Alike.refl U.vm), k7.moved (U := U.calling g mk a) (Vm.Alike.refl U.vm), k8, k9, hZ U (U.calling g mk a) k10 ?_ (fun _ _ => rfl)⟩
  · have h := k2 w hw
    have hn := (List.mem_filter.mp hw).2
    cases w <;> first | exact va_Nw.same rfl (u := U) (U := U.calling g mk a) rfl h | cases hn
  · exact State.WarmedH.refl U
end OVF
end
section
section OVG
variable {l : Launch} {D : va_G} {cA : Nat → ClassId} {z bS tS aS L : Nat} {xs : Nat → Int32} {ZS : State → Prop}
variable {p : Program} {e : Env} {R : Room} {s : State} {m : MethodId} {args : Array Value} {below : List Frame} {meth : Method} {c : Code} {H : Heap} {locs : List Loc} {cells slots : Nat} {Qp : State → Prop}
variable {cc : ByteArray} {pc y1 : Nat} {lsA : Array Slot} {rest : List Value} {ad : Nat → Nat → Nat} {S : ov_S}
theorem ov_rep_w {S' : ov_S} {H1 : Heap} {q0 r i : Nat} (hR : ov_rep D cA z bS tS aS L xs ad S H) (hq : S.2.2.1[q0]? = some (r, i)) (hP1 : va_P D vwCl ((ov_ws cA ad S).set q0 (ad r i, ov_ce cA ad S' r i)) H1) (hD1 : va_D (fun q => z ≤ q) ((ov_ws cA ad S).set q0 (ad r i, ov_ce cA ad S' r i))) (hl : S'.2.2 = S.2.2) (ho : ∀ r' i', ¬ (r' = r ∧ i' = i) → (∀ k, S'.1 r' i' k = S.1 r' i' k) ∧ ∀ k, S'.2.1 r' i' k = S.2.1 r' i' k) (hc : ov_clo S') : ov_rep D cA z bS tS aS L xs ad S' H1 := by
  obtain ⟨-, h2, -, h4, h5, h6, h7⟩ := hR
  have e := ov_ws_set (S' := S') h2 (by rw [hl]) hq (fun r' i' h => ov_ce_o (ho r' i' h).1 (ho r' i' h).2)
  rw [e] at hP1 hD1
  exact ⟨hP1, hD1, hc, h4, h5, h6, by rw [hl]; exact h7⟩
theorem ov_s_get (hx : p.tables.exec = Jvm.exec) (hb : c.code = cc) (hts : ∀ w ∈ ov_T, w.before args s = true) (hown : s.vm.findClass (ov_cn y1) = some m.cls) (hK : va_K D vwCl (ov_tys cA) s) (hR : ov_rep D cA z bS tS aS L xs ad S H) {r i : Nat} (hlv : (r, i) ∈ S.2.2.1) {c' k idx : Nat} {fks : List (Nat × Nat × (Nat → Nat))} {fk : Nat × Nat × (Nat → Nat)} (hsh : ov_sh r = .inl (c', fks)) (hk : fks[k]? = some fk) (hlf : ov_lf y1 idx = some (c', k)) (hdg : decode cc pc = .ok (.getfield idx, 3))
    (kk : W p l e R s m args below meth c H locs cells slots Qp (F0 m (pc + 3) lsA (ov_fv ad S r i k fk :: rest))) : W p l e R s m args below meth c H locs cells slots Qp (F0 m pc lsA (.ref (ad r i) :: rest)) := by
  obtain ⟨q0, hq, hw⟩ := ov_at_ws (cA := cA) (ad := ad) hlv
  rw [ov_ce_obj hsh] at hw
  obtain ⟨C, T, N, ty, hct, hN, hkd⟩ := ov_obj hsh
  obtain ⟨C2, T2, N2, h1, h2, h3⟩ := ov_lf_ok hlf
  cases h1.symm.trans hct.1
  exact va_get (D := D) (ci := c') (v := ov_fv ad S r i k fk) hx hb hts hct.2.2.1 hown hK hR.1 q0 hw hct.1 k h2 (hts _ h3) (fun _ h => h) (by rw [List.getElem?_mapIdx, hk]; rfl) hdg kk
theorem ov_fset {r i k : Nat} {x : Int32} {fks : List (Nat × Nat × (Nat → Nat))} {fk : Nat × Nat × (Nat → Nat)} (hk : fks[k]? = some fk) : (fks.mapIdx (fun k fk => ov_fv ad S r i k fk)).set k (ov_fv ad (ov_w S r i k x) r i k fk) = fks.mapIdx (fun j fk => ov_fv ad (ov_w S r i k x) r i j fk) := by
  apply ov_mapIdx_set
  · intro a ha
    rw [hk] at ha
    cases ha
    rfl
  · intro j a hj
    refine ov_fv_o ?_
    rw [ov_w_s, if_neg hj]
theorem ov_s_put (hx : p.tables.exec = Jvm.exec) (hb : c.code = cc) (hts : ∀ w ∈ ov_T, w.before args s = true) (hown : s.vm.findClass (ov_cn y1) = some m.cls) (hK : va_K D vwCl (ov_tys cA) s) (hR : ov_rep D cA z bS tS aS L xs ad S H) (hS : va_S (fun q => z ≤ q) s.heap H locs) {r i : Nat} (hlv : (r, i) ∈ S.2.2.1) {c' k idx : Nat} {x : Int32} {fks : List (Nat × Nat × (Nat → Nat))} {fk : Nat × Nat × (Nat → Nat)} (hsh : ov_sh r = .inl (c', fks)) (hk : fks[k]? = some fk) (hlf : ov_lf y1 idx = some (c', k)) (hcl : 2 ≤ fk.1 → x ≠ 0 → (fk.2.1, fk.2.2 i) ∈ S.2.2.1) (hfin : fk.1 = 2 → meth.name = "<init>" ∧ c' = y1)
    (hbo : fk.1 = 1 → x = 0 ∨ x = 1) (hdg : decode cc pc = .ok (.putfield idx, 3))
    (kk : ∀ (H1 : Heap) (locs1 : List Loc), ov_rep D cA z bS tS aS L xs ad (ov_w S r i k x) H1 → va_S (fun q => z ≤ q) s.heap H1 locs1 → W p l e R s m args below meth c H1 locs1 cells slots Qp (F0 m (pc + 3) lsA rest)) : W p l e R s m args below meth c H locs cells slots Qp (F0 m pc lsA (ov_fv ad (ov_w S r i k x) r i k fk :: .ref (ad r i) :: rest)) := by
  obtain ⟨q0, hq, hw⟩ := ov_at_ws (cA := cA) (ad := ad) hlv
  rw [ov_ce_obj hsh] at hw
  obtain ⟨C, T, N, ty, hct, hN, hkd⟩ := ov_obj hsh
  obtain ⟨C2, T2, N2, h1, h2, h3⟩ := ov_lf_ok hlf
  cases h1.symm.trans hct.1
  obtain ⟨hkd, hdc⟩ := hkd k fk hk
  have hcl' : ov_clo (ov_w S r i k x) := by
    refine ov_clo_w (r := r) (i := i) hR.2.2.1 rfl (fun r' i' h => (ov_w_o h).1) ?_ ?_
    · intro c2 f2 k2 fk2 e1 e2 e3 e4
      rw [hsh] at e1
      cases e1
      rw [ov_w_s] at e4
      by_cases e5 : k2 = k
      · subst e5
        rw [hk] at e2
        cases e2
        rw [if_pos rfl] at e4
        exact hcl e3 e4
      · rw [if_neg e5] at e4
        exact (hR.2.2.1 r i hlv).1 _ _ k2 fk2 hsh e2 e3 e4
    · intro t n q g j e1
      rw [hsh] at e1
      cases e1
  have hlen : k < (fks.mapIdx (fun k fk => ov_fv ad S r i k fk)).length := by simpa using (List.getElem?_eq_some_iff.mp hk).1
  have go : ∀ (H1 : Heap) (locs1 : List Loc), va_P D vwCl ((ov_ws cA ad S).set q0 (ad r i, .inr (c', (fks.mapIdx (fun k fk => ov_fv ad S r i k fk)).set k (ov_fv ad (ov_w S r i k x) r i k fk)))) H1 → va_D (fun q => z ≤ q) ((ov_ws cA ad S).set q0 (ad r i, .inr (c', (fks.mapIdx (fun k fk => ov_fv ad S r i k fk)).set k (ov_fv ad (ov_w S r i k x) r i k fk)))) → va_S (fun q => z ≤ q) s.heap H1 locs1 → W p l e R s m args below meth c H1 locs1 cells slots Qp (F0 m (pc + 3) lsA rest) := by
    intro H1 locs1 hP1 hD1 hS1
    have e : (.inr (c', (fks.mapIdx (fun k fk => ov_fv ad S r i k fk)).set k (ov_fv ad (ov_w S r i k x) r i k fk)) : va_E) = ov_ce cA ad (ov_w S r i k x) r i := by rw [ov_ce_obj hsh, ov_fset hk]
    rw [e] at hP1 hD1
    exact kk H1 locs1 (ov_rep_w hR hq hP1 hD1 rfl (fun r' i' h => ov_w_o h) hcl') hS1
  have hty := hct.2.2.2.1 k h2
  have hval : narrow (ty k) (ov_fv ad (ov_w S r i k x) r i k fk) = ov_fv ad (ov_w S r i k x) r i k fk ∧ fits (ty k) (ov_fv ad (ov_w S r i k x) r i k fk) = true := by
    have hv : (ov_w S r i k x).1 r i k = x := by rw [ov_w_s, if_pos rfl]
    unfold ov_fv
    rw [hv]
    obtain ⟨kd, q, g⟩ := fk
    dsimp only at hkd hbo ⊢
    match kd, hkd, hbo with
    | 0, hkd, _ =>
      have e := of_decide_eq_true (Bool.and_eq_true _ _ ▸ hkd : _ ∧ _).1
      rw [e] at hty
      have : ty k = .int := (Option.some.inj hty).symm
      rw [this]
      exact ⟨rfl, rfl⟩
    | 1, hkd, hbo =>
      have e := of_decide_eq_true (Bool.and_eq_true _ _ ▸ hkd : _ ∧ _).1
      rw [e] at hty
      have : ty k = .boolean := (Option.some.inj hty).symm
      rw [this]
      rcases hbo rfl with rfl | rfl <;> exact ⟨rfl, rfl⟩
    | 2, hkd, _ =>
      have e := (Bool.and_eq_true _ _ ▸ hkd : _ ∧ _).2
      rw [hty] at e
      cases hk2 : ty k <;> rw [hk2] at e <;> first | (cases e; done) | (by_cases hz : x = 0 <;> simp [hz, narrow, fits])
    | 3, hkd, _ =>
      have e := (Bool.and_eq_true _ _ ▸ hkd : _ ∧ _).2
      rw [hty] at e
      cases hk2 : ty k <;> rw [hk2] at e <;> first | (cases e; done) | (by_cases hz : x = 0 <;> simp [hz, narrow, fits])
    | n + 4, hkd, _ => cases hkd
  by_cases hf : fk.1 = 2
  · have hfin2 : (T k).2.2.2 = true := by
      rw [hf] at hkd
      exact (Bool.and_eq_true _ _ ▸ hkd : _ ∧ _).1
    exact va_putF (D := D) (ci := c') hx hb hts hct.2.2.1 ty hct.2.2.2.1 hct.2.2.2.2.1 hown hK hR.1 hR.2.1 hS q0 hw hct.1 k h2 (hts _ h3) (fun _ h => h) hfin2 (hfin hf).1 (by rw [hdc, hct.2.1, (hfin hf).2]) hty hval.1 hval.2 hlen hdg go
  · have hfin2 : (T k).2.2.2 = false := by
      obtain ⟨kd, q, g⟩ := fk
      dsimp only at hkd hf
      match kd, hkd, hf with
      | 0, hkd, _ =>
        have h9 : _ ∧ _ := Bool.and_eq_true _ _ ▸ hkd
        simpa using h9.2
      | 1, hkd, _ =>
        have h9 : _ ∧ _ := Bool.and_eq_true _ _ ▸ hkd
        simpa using h9.2
      | 2, _, hf => exact absurd rfl hf
      | 3, hkd, _ =>
        have h9 : _ ∧ _ := Bool.and_eq_true _ _ ▸ hkd
        simpa using h9.1
      | n + 4, hkd, _ => cases hkd
    exact va_put (D := D) (ci := c') hx hb hts hct.2.2.1 ty hct.2.2.2.1 hct.2.2.2.2.1 hown hK hR.1 hR.2.1 hS q0 hw hct.1 k h2 (hts _ h3) (fun _ h => h) hfin2 hty hval.1 hval.2 hlen hdg go
end OVG
end
section
section OVH
variable {l : Launch} {D : va_G} {cA : Nat → ClassId} {z bS tS aS L : Nat} {xs : Nat → Int32} {ZS : State → Prop}
variable {p : Program} {e : Env} {R : Room} {s : State} {m : MethodId} {args : Array Value} {below : List Frame} {meth : Method} {c : Code} {H : Heap} {locs : List Loc} {cells slots : Nat} {Qp : State → Prop}
variable {cc : ByteArray} {pc y1 : Nat} {lsA : Array Slot} {rest : List Value} {ad : Nat → Nat → Nat} {S : ov_S}
/-- a cell that is an array, as the kit has it -/
theorem ov_arr_ws {r i t n q : Nat} {g : Nat → Nat → Nat} (hlv : (r, i) ∈ S.2.2.1) (hsh : ov_sh r = .inr (t, n, q, g)) {w : (Nat → Int32) ⊕ (Nat → Int64) ⊕ (Nat → UInt32) ⊕ (Nat → UInt64) ⊕ (Nat → Option Nat)} (hw : (if t ≤ 1 then .inl (S.1 r i) else if t = 2 then .inr (.inl (S.2.1 r i)) else .inr (.inr (.inr (.inr (fun j => if j < n then (if S.1 r i j = 0 then none else some (ad q (g i j))) else none))))) = w) : ∃ q0 : Nat, S.2.2.1[q0]? = some (r, i) ∧ (ov_ws cA ad S)[q0]? = some (ad r i, .inl (cA t, n, w)) := by
  obtain ⟨q0, hq, h⟩ := ov_at_ws (cA := cA) (ad := ad) hlv
  rw [ov_ce_arr hsh, hw] at h
  exact ⟨q0, hq, h⟩
theorem ov_s_iald (hx : p.tables.exec = Jvm.exec) (hb : c.code = cc) (hK : va_K D vwCl (ov_tys cA) s) (hR : ov_rep D cA z bS tS aS L xs ad S H) {r i n q : Nat} {g : Nat → Nat → Nat} {x : Int32} (hlv : (r, i) ∈ S.2.2.1) (hsh : ov_sh r = .inr (0, n, q, g)) (hin : ov_ib x n) (hdg : decode cc pc = .ok (.iaload, 1))
    (kk : W p l e R s m args below meth c H locs cells slots Qp (F0 m (pc + 1) lsA (.int (S.1 r i (ov_ix x)) :: rest))) : W p l e R s m args below meth c H locs cells slots Qp (F0 m pc lsA (.int x :: .ref (ad r i) :: rest)) := by
  obtain ⟨q0, hq, hw⟩ := ov_arr_ws (cA := cA) (ad := ad) (w := .inl (S.1 r i)) hlv hsh rfl
  exact va_iald hx hb hK hR.1 q0 0 hw rfl (ov_ib_in hin) hdg kk
theorem ov_s_cald (hx : p.tables.exec = Jvm.exec) (hb : c.code = cc) (hK : va_K D vwCl (ov_tys cA) s) (hR : ov_rep D cA z bS tS aS L xs ad S H) {r i n q : Nat} {g : Nat → Nat → Nat} {x : Int32} (hlv : (r, i) ∈ S.2.2.1) (hsh : ov_sh r = .inr (1, n, q, g)) (hin : ov_ib x n) (hdg : decode cc pc = .ok (.caload, 1))
    (kk : W p l e R s m args below meth c H locs cells slots Qp (F0 m (pc + 1) lsA (.int (S.1 r i (ov_ix x)) :: rest))) : W p l e R s m args below meth c H locs cells slots Qp (F0 m pc lsA (.int x :: .ref (ad r i) :: rest)) := by
  obtain ⟨q0, hq, hw⟩ := ov_arr_ws (cA := cA) (ad := ad) (w := .inl (S.1 r i)) hlv hsh rfl
  exact va_cald hx hb hK hR.1 q0 1 hw rfl (ov_ib_in hin) hdg kk
theorem ov_s_lald (hx : p.tables.exec = Jvm.exec) (hb : c.code = cc) (hK : va_K D vwCl (ov_tys cA) s) (hR : ov_rep D cA z bS tS aS L xs ad S H) {r i n q : Nat} {g : Nat → Nat → Nat} {x : Int32} (hlv : (r, i) ∈ S.2.2.1) (hsh : ov_sh r = .inr (2, n, q, g)) (hin : ov_ib x n) (hdg : decode cc pc = .ok (.laload, 1))
    (kk : W p l e R s m args below meth c H locs cells slots Qp (F0 m (pc + 1) lsA (.long (S.2.1 r i (ov_ix x)) :: rest))) : W p l e R s m args below meth c H locs cells slots Qp (F0 m pc lsA (.int x :: .ref (ad r i) :: rest)) := by
  obtain ⟨q0, hq, hw⟩ := ov_arr_ws (cA := cA) (ad := ad) (w := .inr (.inl (S.2.1 r i))) hlv hsh rfl
  exact va_lald hx hb hK hR.1 q0 2 hw rfl (ov_ib_in hin) hdg kk
theorem ov_s_aald (hx : p.tables.exec = Jvm.exec) (hb : c.code = cc) (hK : va_K D vwCl (ov_tys cA) s) (hR : ov_rep D cA z bS tS aS L xs ad S H) {r i t n q : Nat} {g : Nat → Nat → Nat} {x : Int32} (hlv : (r, i) ∈ S.2.2.1) (hsh : ov_sh r = .inr (t, n, q, g)) (ht : t = 3 ∨ t = 4) (hin : ov_ib x n) (hdg : decode cc pc = .ok (.aaload, 1))
    (kk : W p l e R s m args below meth c H locs cells slots Qp (F0 m (pc + 1) lsA (ov_rv ad (.inr (.inr (ov_g S r i (ov_ix x) != 0, q, g i (ov_ix x)))) :: rest))) : W p l e R s m args below meth c H locs cells slots Qp (F0 m pc lsA (.int x :: .ref (ad r i) :: rest)) := by
  have hlt : ov_ix x < n := by
    have h1 := hin.1
    have h2 := hin.2
    show x.toInt.toNat < n
    omega
  have e : va_rf (if ov_ix x < n then (if S.1 r i (ov_ix x) = 0 then none else some (ad q (g i (ov_ix x)))) else none) = ov_rv ad (.inr (.inr (ov_g S r i (ov_ix x) != 0, q, g i (ov_ix x)))) := by
    rw [if_pos hlt]
    by_cases h : S.1 r i (ov_ix x) = 0
    · rw [if_pos h]
      have : (ov_g S r i (ov_ix x) != 0) = false := by simpa [ov_g] using h
      rw [this]
      rfl
    · rw [if_neg h]
      have : (ov_g S r i (ov_ix x) != 0) = true := by simpa [ov_g] using h
      rw [this]
      rfl
  rcases ht with rfl | rfl
  · obtain ⟨q0, hq, hw⟩ := ov_arr_ws (cA := cA) (ad := ad) hlv hsh rfl
    refine va_aldq hx hb hK hR.1 q0 3 (C := "OneEye$Three") hw rfl (ov_ib_in hin) hdg ?_
    rw [e]
    exact kk
  · obtain ⟨q0, hq, hw⟩ := ov_arr_ws (cA := cA) (ad := ad) hlv hsh rfl
    refine va_aldq hx hb hK hR.1 q0 4 (C := "OneEye$Person") hw rfl (ov_ib_in hin) hdg ?_
    rw [e]
    exact kk
theorem ov_wa_s {r i : Nat} {f : Nat → Int32} : (ov_wa S r i f).1 r i = f := by
  show (if r = r ∧ i = i then f else S.1 r i) = f
  simp
theorem ov_w_row {r i j : Nat} {v : Int32} : (ov_w S r i j v).1 r i = upd (S.1 r i) j v := by
  funext k
  rw [ov_w_s]
  rfl
theorem ov_wl_row {r i j : Nat} {v : Int64} : (ov_wl S r i j v).2.1 r i = vp_updL (S.2.1 r i) j v := by
  funext k
  show (if r = r ∧ i = i ∧ k = j then v else S.2.1 r i k) = if k = j then v else S.2.1 r i k
  simp
/-- an array of ints or chars keeps the closure -/
theorem ov_clo_arr {S' : ov_S} {r i t n q : Nat} {g : Nat → Nat → Nat} (h : ov_clo S) (hsh : ov_sh r = .inr (t, n, q, g)) (ht : t ≤ 2) (hl : S'.2.2.1 = S.2.2.1) (ho : ∀ r' i', ¬ (r' = r ∧ i' = i) → ∀ k, S'.1 r' i' k = S.1 r' i' k) : ov_clo S' := by
  refine ov_clo_w (r := r) (i := i) h hl ho ?_ ?_
  · intro c2 f2 k2 fk2 e1
    rw [hsh] at e1
    cases e1
  · intro t2 n2 q2 g2 j e1 e2
    rw [hsh] at e1
    cases e1
    omega
theorem ov_s_iast (hx : p.tables.exec = Jvm.exec) (hb : c.code = cc) (hK : va_K D vwCl (ov_tys cA) s) (hR : ov_rep D cA z bS tS aS L xs ad S H) (hS : va_S (fun q => z ≤ q) s.heap H locs) {r i n q : Nat} {g : Nat → Nat → Nat} {x v : Int32} (hlv : (r, i) ∈ S.2.2.1) (hsh : ov_sh r = .inr (0, n, q, g)) (hin : ov_ib x n) (hdg : decode cc pc = .ok (.iastore, 1))
    (kk : ∀ (H1 : Heap) (locs1 : List Loc), ov_rep D cA z bS tS aS L xs ad (ov_w S r i (ov_ix x) v) H1 → va_S (fun q => z ≤ q) s.heap H1 locs1 → W p l e R s m args below meth c H1 locs1 cells slots Qp (F0 m (pc + 1) lsA rest)) : W p l e R s m args below meth c H locs cells slots Qp (F0 m pc lsA (.int v :: .int x :: .ref (ad r i) :: rest)) := by
  obtain ⟨q0, hq, hw⟩ := ov_arr_ws (cA := cA) (ad := ad) (w := .inl (S.1 r i)) hlv hsh rfl
  refine va_iast hx hb hK hR.1 hR.2.1 hS q0 0 hw rfl (ov_ib_in hin) hdg ?_
  intro H1 locs1 hP1 hD1 hS1
  have e : (.inl (cA 0, n, .inl (upd (S.1 r i) x.toNatClampNeg v)) : va_E) = ov_ce cA ad (ov_w S r i (ov_ix x) v) r i := by
    rw [ov_ce_arr hsh, if_pos (by omega), ov_w_row]
  rw [e] at hP1 hD1
  exact kk H1 locs1 (ov_rep_w hR hq hP1 hD1 rfl (fun r' i' h => ov_w_o h) (ov_clo_arr hR.2.2.1 hsh (by omega) rfl (fun r' i' h => (ov_w_o h).1))) hS1
theorem ov_s_cast (hx : p.tables.exec = Jvm.exec) (hb : c.code = cc) (hK : va_K D vwCl (ov_tys cA) s) (hR : ov_rep D cA z bS tS aS L xs ad S H) (hS : va_S (fun q => z ≤ q) s.heap H locs) {r i n q : Nat} {g : Nat → Nat → Nat} {x v : Int32} (hlv : (r, i) ∈ S.2.2.1) (hsh : ov_sh r = .inr (1, n, q, g)) (hin : ov_ib x n) (hdg : decode cc pc = .ok (.castore, 1))
    (kk : ∀ (H1 : Heap) (locs1 : List Loc), ov_rep D cA z bS tS aS L xs ad (ov_w S r i (ov_ix x) (vp_nar .char v)) H1 → va_S (fun q => z ≤ q) s.heap H1 locs1 → W p l e R s m args below meth c H1 locs1 cells slots Qp (F0 m (pc + 1) lsA rest)) : W p l e R s m args below meth c H locs cells slots Qp (F0 m pc lsA (.int v :: .int x :: .ref (ad r i) :: rest)) := by
  obtain ⟨q0, hq, hw⟩ := ov_arr_ws (cA := cA) (ad := ad) (w := .inl (S.1 r i)) hlv hsh rfl
  refine va_cast hx hb hK hR.1 hR.2.1 hS q0 1 hw rfl (ov_ib_in hin) hdg ?_
  intro H1 locs1 hP1 hD1 hS1
  have e : (.inl (cA 1, n, .inl (upd (S.1 r i) x.toNatClampNeg (vp_nar .char v))) : va_E) = ov_ce cA ad (ov_w S r i (ov_ix x) (vp_nar .char v)) r i := by
    rw [ov_ce_arr hsh, if_pos (by omega), ov_w_row]
  rw [e] at hP1 hD1
  exact kk H1 locs1 (ov_rep_w hR hq hP1 hD1 rfl (fun r' i' h => ov_w_o h) (ov_clo_arr hR.2.2.1 hsh (by omega) rfl (fun r' i' h => (ov_w_o h).1))) hS1
theorem ov_s_last (hx : p.tables.exec = Jvm.exec) (hb : c.code = cc) (hK : va_K D vwCl (ov_tys cA) s) (hR : ov_rep D cA z bS tS aS L xs ad S H) (hS : va_S (fun q => z ≤ q) s.heap H locs) {r i n q : Nat} {g : Nat → Nat → Nat} {x : Int32} {v : Int64} (hlv : (r, i) ∈ S.2.2.1) (hsh : ov_sh r = .inr (2, n, q, g)) (hin : ov_ib x n) (hdg : decode cc pc = .ok (.lastore, 1))
    (kk : ∀ (H1 : Heap) (locs1 : List Loc), ov_rep D cA z bS tS aS L xs ad (ov_wl S r i (ov_ix x) v) H1 → va_S (fun q => z ≤ q) s.heap H1 locs1 → W p l e R s m args below meth c H1 locs1 cells slots Qp (F0 m (pc + 1) lsA rest)) : W p l e R s m args below meth c H locs cells slots Qp (F0 m pc lsA (.long v :: .int x :: .ref (ad r i) :: rest)) := by
  obtain ⟨q0, hq, hw⟩ := ov_arr_ws (cA := cA) (ad := ad) (w := .inr (.inl (S.2.1 r i))) hlv hsh rfl
  refine va_last hx hb hK hR.1 hR.2.1 hS q0 2 hw rfl (ov_ib_in hin) hdg ?_
  intro H1 locs1 hP1 hD1 hS1
  have e : (.inl (cA 2, n, .inr (.inl (vp_updL (S.2.1 r i) x.toNatClampNeg v))) : va_E) = ov_ce cA ad (ov_wl S r i (ov_ix x) v) r i := by
    rw [ov_ce_arr hsh, if_neg (by omega), if_pos rfl, ov_wl_row]
  rw [e] at hP1 hD1
  exact kk H1 locs1 (ov_rep_w hR hq hP1 hD1 rfl (fun r' i' h => ov_wl_o h) (ov_clo_arr hR.2.2.1 hsh (by omega) rfl (fun r' i' h => (ov_wl_o h).1))) hS1
theorem ov_s_aast (hx : p.tables.exec = Jvm.exec) (hb : c.code = cc) (hK : va_K D vwCl (ov_tys cA) s) (hR : ov_rep D cA z bS tS aS L xs ad S H) (hS : va_S (fun q => z ≤ q) s.heap H locs) {r i t n q : Nat} {g : Nat → Nat → Nat} {x : Int32} (hlv : (r, i) ∈ S.2.2.1) (hsh : ov_sh r = .inr (t, n, q, g)) (ht : t = 3 ∨ t = 4) (hin : ov_ib x n) (hlv2 : (q, g i (ov_ix x)) ∈ S.2.2.1) (hdg : decode cc pc = .ok (.aastore, 1))
    (kk : ∀ (H1 : Heap) (locs1 : List Loc), ov_rep D cA z bS tS aS L xs ad (ov_w S r i (ov_ix x) 1) H1 → va_S (fun q => z ≤ q) s.heap H1 locs1 → W p l e R s m args below meth c H1 locs1 cells slots Qp (F0 m (pc + 1) lsA rest)) : W p l e R s m args below meth c H locs cells slots Qp (F0 m pc lsA (.ref (ad q (g i (ov_ix x))) :: .int x :: .ref (ad r i) :: rest)) := by
  have hlt : ov_ix x < n := by
    have h1 := hin.1
    have h2 := hin.2
    show x.toInt.toNat < n
    omega
  have hcl' : ov_clo (ov_w S r i (ov_ix x) 1) := by
    refine ov_clo_w (r := r) (i := i) hR.2.2.1 rfl (fun r' i' h => (ov_w_o h).1) ?_ ?_
    · intro c2 f2 k2 fk2 e1
      rw [hsh] at e1
      cases e1
    · intro t2 n2 q2 g2 j e1 e2 e3 e4
      rw [hsh] at e1
      cases e1
      rw [ov_w_s] at e4
      by_cases e5 : j = ov_ix x
      · subst e5
        exact hlv2
      · rw [if_neg e5] at e4
        exact (hR.2.2.1 r i hlv).2.1 _ _ _ _ j hsh e2 e3 e4
  have key : va_up (fun j => if j < n then (if S.1 r i j = 0 then none else some (ad q (g i j))) else none) x.toNatClampNeg (some (ad q (g i (ov_ix x)))) = fun j => if j < n then (if (ov_w S r i (ov_ix x) 1).1 r i j = 0 then none else some (ad q (g i j))) else none := by
    funext j
    show (if j = x.toNatClampNeg then _ else _) = _
    rw [ov_w_s]
    by_cases e5 : j = ov_ix x
    · subst e5
      rw [if_pos rfl, if_pos hlt, if_pos rfl, if_neg (by decide)]
    · rw [if_neg e5, if_neg e5]
  rcases ht with rfl | rfl
  · obtain ⟨q0, hq, hw⟩ := ov_arr_ws (cA := cA) (ad := ad) hlv hsh rfl
    obtain ⟨fks, hs8⟩ := (ov_arr hsh).2.1 rfl
    obtain ⟨qk, -, hwk⟩ := ov_at_ws (cA := cA) (ad := ad) hlv2
    rw [ov_ce_obj hs8] at hwk
    refine va_astq hx hb hK hR.1 hR.2.1 hS q0 3 qk 8 (r := (RX8, TX8, 12)) hw rfl hwk rfl (ov_ib_in hin) hdg ?_
    intro H1 locs1 hP1 hD1 hS1
    have e : (.inl (cA 3, n, .inr (.inr (.inr (.inr (va_up (fun j => if j < n then (if S.1 r i j = 0 then none else some (ad q (g i j))) else none) x.toNatClampNeg (some (ad q (g i (ov_ix x))))))))) : va_E) = ov_ce cA ad (ov_w S r i (ov_ix x) 1) r i := by
      rw [ov_ce_arr hsh, if_neg (by omega), if_neg (by omega), key]
    rw [e] at hP1 hD1
    exact kk H1 locs1 (ov_rep_w hR hq hP1 hD1 rfl (fun r' i' h => ov_w_o h) hcl') hS1
  · obtain ⟨q0, hq, hw⟩ := ov_arr_ws (cA := cA) (ad := ad) hlv hsh rfl
    obtain ⟨fks, hs8⟩ := (ov_arr hsh).2.2 rfl
    obtain ⟨qk, -, hwk⟩ := ov_at_ws (cA := cA) (ad := ad) hlv2
    rw [ov_ce_obj hs8] at hwk
    refine va_astq hx hb hK hR.1 hR.2.1 hS q0 4 qk 3 (r := (RX3, TX3, 8)) hw rfl hwk rfl (ov_ib_in hin) hdg ?_
    intro H1 locs1 hP1 hD1 hS1
    have e : (.inl (cA 4, n, .inr (.inr (.inr (.inr (va_up (fun j => if j < n then (if S.1 r i j = 0 then none else some (ad q (g i j))) else none) x.toNatClampNeg (some (ad q (g i (ov_ix x))))))))) : va_E) = ov_ce cA ad (ov_w S r i (ov_ix x) 1) r i := by
      rw [ov_ce_arr hsh, if_neg (by omega), if_neg (by omega), key]
    rw [e] at hP1 hD1
    exact kk H1 locs1 (ov_rep_w hR hq hP1 hD1 rfl (fun r' i' h => ov_w_o h) hcl') hS1
theorem ov_s_copy (hx : p.tables.exec = Jvm.exec) (hb : c.code = cc) (hml : c.maxLocals = lsA.size) (hts : ∀ w ∈ ov_T, w.before args s = true) (hown : s.vm.findClass (ov_cn y1) = some m.cls) (hK : va_K D vwCl (ov_tys cA) s) (hR : ov_rep D cA z bS tS aS L xs ad S H) (hS : va_S (fun q => z ≤ q) s.heap H locs) {r i r1 i1 n0 n1 q q1 idx : Nat} {g g1 : Nat → Nat → Nat} {sp dp n : Int32} (hlk : Cond.methodLink (ov_cn y1) idx arraycopyName ∈ ov_T) (hlv : (r, i) ∈ S.2.2.1) (hsh : ov_sh r = .inr (0, n0, q, g)) (hlv1 : (r1, i1) ∈ S.2.2.1) (hsh1 : ov_sh r1 = .inr (0, n1, q1, g1)) (hh : ¬ sp < 0 ∧ ¬ dp < 0 ∧ ¬ n < 0 ∧ ov_ix sp + ov_ix n ≤ n0 ∧ ov_ix dp + ov_ix n ≤ n1) (hfr : 1 ≤ R.frames) (hlo : (rest.map fun v => v.category).sum + 18 ≤ R.locals) (hdg : decode cc pc = .ok (.invokestatic idx, 3))
    (kk : ∀ (H1 : Heap) (locs1 : List Loc), ov_rep D cA z bS tS aS L xs ad (ov_wa S r1 i1 (va_cpy (S.1 r i) (S.1 r1 i1) (ov_ix sp) (ov_ix dp) (ov_ix n))) H1 → va_S (fun q => z ≤ q) s.heap H1 locs1 → W p l e R s m args below meth c H1 locs1 cells slots Qp (F0 m (pc + 3) lsA rest)) : W p l e R s m args below meth c H locs cells slots Qp (F0 m pc lsA (.int n :: .int dp :: .ref (ad r1 i1) :: .int sp :: .ref (ad r i) :: rest)) := by
  obtain ⟨q0, hq, hw⟩ := ov_arr_ws (cA := cA) (ad := ad) (w := .inl (S.1 r i)) hlv hsh rfl
  obtain ⟨qd, hqd, hwd⟩ := ov_arr_ws (cA := cA) (ad := ad) (w := .inl (S.1 r1 i1)) hlv1 hsh1 rfl
  refine va_copyi hx hb hml hown (hts _ hlk) (hts _ ov_w_nt) (hts _ ov_w_st) (hts _ ov_w_sy) hK hR.1 hR.2.1 hS q0 qd 0 0 (ty := .int) hw hwd rfl rfl rfl hh.1 hh.2.1 hh.2.2.1 hh.2.2.2.1 hh.2.2.2.2 (fun _ _ => rfl) hfr (by show _ + (5 + 2 + 11) ≤ _; omega) hdg ?_
  intro H1 locs1 hP1 hD1 hS1
  have e : (.inl (cA 0, n1, .inl (va_cpy (S.1 r i) (S.1 r1 i1) sp.toNatClampNeg dp.toNatClampNeg n.toNatClampNeg)) : va_E) = ov_ce cA ad (ov_wa S r1 i1 (va_cpy (S.1 r i) (S.1 r1 i1) (ov_ix sp) (ov_ix dp) (ov_ix n))) r1 i1 := by
    rw [ov_ce_arr hsh1, if_pos (by omega), ov_wa_s]
  rw [e] at hP1 hD1
  exact kk H1 locs1 (ov_rep_w hR hqd hP1 hD1 rfl (fun r' i' h => ov_wa_o h) (ov_clo_arr hR.2.2.1 hsh1 (by omega) rfl (fun r' i' h => (ov_wa_o h).1))) hS1
/-- behind a call -/
theorem ov_s_run {mo : Bool} {Q' : ov_Q} {av : Array Value} {st0 : List Value} {a' b' : Nat} (hr : va_Run p l e R s m args below meth c H locs cells slots a' b' (F0 m pc lsA st0) rest (ov_qc D cA z bS tS aS L xs ad S mo Q' av) (fun q => z ≤ q)) (hS : va_S (fun q => z ≤ q) s.heap H locs)
    (kk : ∀ (r : Option ov_A) (S' : ov_S) (ad' : Nat → Nat → Nat) (H1 : Heap) (locs1 : List Loc), ov_rep D cA z bS tS aS L xs ad' S' H1 → ov_ext ad S ad' S' → (∀ v, r = some v → ov_av S' v) → (mo = true → ov_full S') → Q' r S' → va_S (fun q => z ≤ q) s.heap H1 locs1 → W p l e R s m args below meth c H1 locs1 (cells + a') (slots + b') Qp (F0 m (pc + 3) lsA ((r.map (ov_rv ad')).toList ++ rest))) : W p l e R s m args below meth c H locs cells slots Qp (F0 m pc lsA st0) := by
  intro T hT X
  obtain ⟨v, st₀, t, T', Lq, h0, X', hL, e1, e2, ⟨⟨r, S', ad', ho, h1, h2, h3, h4, h5⟩, hz, hk⟩, st⟩ := hr T hT X
  cases ho
  rw [h0] at hz hk
  obtain ⟨t2, a1, b1⟩ := kk r S' ad' T'.heap (locs ++ Lq) (by rw [e1]; exact h1) h2 h3 h4 h5
    ⟨Nat.le_trans hS.1 (by rw [e1]; exact hz), fun q g1 g2 => by rw [e1, hk q (Nat.lt_of_lt_of_le g1 hS.1) g2]; exact hS.2.1 q g1 g2, fun q hq => by
      rcases List.mem_append.mp hq with h | h
      · exact hS.2.2 q h
      · exact hL q h⟩ T' rfl X'
  exact ⟨t2, st t2 a1, b1⟩
end OVH
end
section
section OVI
variable {l : Launch} {D : va_G} {cA : Nat → ClassId} {z bS tS aS L : Nat} {xs : Nat → Int32} {ZS : State → Prop}
variable {p : Program} {e : Env} {R : Room} {s : State} {m : MethodId} {args : Array Value} {below : List Frame} {meth : Method} {c : Code} {H : Heap} {locs : List Loc} {cells slots : Nat} {Qp : State → Prop}
variable {cc : ByteArray} {pc y1 : Nat} {lsA : Array Slot} {rest : List Value} {ad : Nat → Nat → Nat} {S : ov_S}
/-- a new cell, told -/
theorem ov_rep_n {H1 : Heap} {r i q : Nat} {E : va_E} (hR : ov_rep D cA z bS tS aS L xs ad S H) (hn : (r, i) ∉ S.2.2.1) (hb : ¬ (r = 16 ∨ r = 17 ∨ r = 18)) (ht : ∀ t n q g, ov_sh r = .inr (t, n, q, g) → t ≤ 4) (hE : ov_ce cA (ov_ua ad r i q) (ov_n S r i) r i = E) (hP1 : va_P D vwCl (ov_ws cA ad S ++ [(q, E)]) H1) (hD1 : va_D (fun q => z ≤ q) (ov_ws cA ad S ++ [(q, E)])) : ov_rep D cA z bS tS aS L xs (ov_ua ad r i q) (ov_n S r i) H1 ∧ ov_ext ad S (ov_ua ad r i q) (ov_n S r i) := by
  obtain ⟨-, -, h3, h4, h5, h6, h7⟩ := hR
  have hx := ov_ext_n (ad := ad) (q := q) hn hb
  have e := ov_ws_push (cA := cA) (ad := ad) (q := q) h3 hn
  rw [hE] at e
  rw [← e] at hP1 hD1
  exact ⟨⟨hP1, hD1, ov_clo_n h3 ht, (hx.2 16 0 (Or.inr ⟨rfl, Or.inl rfl⟩)).trans h4, (hx.2 17 0 (Or.inr ⟨rfl, Or.inr (Or.inl rfl)⟩)).trans h5, (hx.2 18 0 (Or.inr ⟨rfl, Or.inr (Or.inr rfl)⟩)).trans h6, h7⟩, hx⟩
theorem ov_s_new (hx : p.tables.exec = Jvm.exec) (hb : c.code = cc) (hts : ∀ w ∈ ov_T, w.before args s = true) (hown : s.vm.findClass (ov_cn y1) = some m.cls) (hK : va_K D vwCl (ov_tys cA) s) (hR : ov_rep D cA z bS tS aS L xs ad S H) (hS : va_S (fun q => z ≤ q) s.heap H locs) (hA : ∀ q, s.heap.size ≤ q → z ≤ q) {r i ci idx : Nat} {fks : List (Nat × Nat × (Nat → Nat))} (hsh : ov_sh r = .inl (ci, fks)) (hn : (r, i) ∉ S.2.2.1) (hln : ov_ln y1 idx = some ci) (hc : cells + 1 ≤ R.cells) (hs : slots + fks.length ≤ R.slots) (hdg : decode cc pc = .ok (.new idx, 3))
    (kk : ∀ (q : Nat) (H1 : Heap), ov_rep D cA z bS tS aS L xs (ov_ua ad r i q) (ov_n S r i) H1 → va_S (fun q => z ≤ q) s.heap H1 locs → ov_ext ad S (ov_ua ad r i q) (ov_n S r i) → W p l e R s m args below meth c H1 locs (cells + 1) (slots + fks.length) Qp (F0 m (pc + 3) lsA (.ref q :: rest))) : W p l e R s m args below meth c H locs cells slots Qp (F0 m pc lsA rest) := by
  obtain ⟨C, T, N, ty, hct, hN, hkd⟩ := ov_obj hsh
  subst hN
  have hcl : (Cond.classLink (ov_cn y1) idx C).before args s = true := by rw [hct.2.1]; exact hts _ (ov_ln_ok hln)
  refine va_new (ci := ci) (fs := fks.mapIdx (fun _ fk => if 2 ≤ fk.1 then .null else .int 0)) hx hb hts hct.2.2.1 ty hct.2.2.2.1 hown hcl (hts _ hct.2.2.2.2.2.1) (hts _ hct.2.2.2.2.2.2) hK hR.1 hR.2.1 hS hA hct.1 ?_ hc hs hdg ?_
  · intro j hj
    have hf : fks[j]? = some fks[j] := List.getElem?_eq_getElem hj
    have hty := hct.2.2.2.1 j hj
    obtain ⟨hkd, -⟩ := hkd j _ hf
    have e1 : vp_V (fks.mapIdx (fun _ fk => if 2 ≤ fk.1 then Value.null else .int 0)) j = if 2 ≤ fks[j].1 then Value.null else .int 0 := by
      simp [vp_V, List.getD, List.getElem?_mapIdx, hf]
    rw [e1]
    generalize fks[j] = fk at hkd ⊢
    obtain ⟨kd, q, g⟩ := fk
    dsimp only at hkd ⊢
    match kd, hkd with
    | 0, hkd =>
      have e := of_decide_eq_true (Bool.and_eq_true _ _ ▸ hkd : _ ∧ _).1
      rw [e] at hty
      have : ty j = .int := (Option.some.inj hty).symm
      rw [this]
      rfl
    | 1, hkd =>
      have e := of_decide_eq_true (Bool.and_eq_true _ _ ▸ hkd : _ ∧ _).1
      rw [e] at hty
      have : ty j = .boolean := (Option.some.inj hty).symm
      rw [this]
      rfl
    | 2, hkd =>
      have e := (Bool.and_eq_true _ _ ▸ hkd : _ ∧ _).2
      rw [hty] at e
      cases hk2 : ty j <;> rw [hk2] at e <;> first | (cases e; done) | rfl
    | 3, hkd =>
      have e := (Bool.and_eq_true _ _ ▸ hkd : _ ∧ _).2
      rw [hty] at e
      cases hk2 : ty j <;> rw [hk2] at e <;> first | (cases e; done) | rfl
    | n + 4, hkd => cases hkd
  · intro q H1 hP1 hD1 hS1
    have hE : ov_ce cA (ov_ua ad r i q) (ov_n S r i) r i = .inr (ci, fks.mapIdx (fun _ fk => if 2 ≤ fk.1 then Value.null else .int 0)) := by
      rw [ov_ce_obj hsh]
      have e9 : (fun (k : Nat) (fk : Nat × Nat × (Nat → Nat)) => ov_fv (ov_ua ad r i q) (ov_n S r i) r i k fk) = fun _ fk => if 2 ≤ fk.1 then Value.null else .int 0 := by
        funext k fk
        unfold ov_fv
        rw [ov_n_s.1 k, if_pos rfl]
      rw [e9]
    obtain ⟨g1, g2⟩ := ov_rep_n hR hn (by rintro (rfl | rfl | rfl) <;> cases hsh) (fun t n q g e => by rw [hsh] at e; cases e) hE hP1 hD1
    exact kk q H1 g1 hS1 g2
theorem ov_nat32 {n : Nat} (h : n ≤ 100000) : ¬ (Int32.ofNat n) < 0 ∧ (Int32.ofNat n).toNatClampNeg = n := ⟨nI_pos (n := n) (by omega), nI_clamp (n := n) (by omega)⟩
theorem ov_s_newI (hx : p.tables.exec = Jvm.exec) (hb : c.code = cc) (hts : ∀ w ∈ ov_T, w.before args s = true) (hK : va_K D vwCl (ov_tys cA) s) (hR : ov_rep D cA z bS tS aS L xs ad S H) (hS : va_S (fun q => z ≤ q) s.heap H locs) (hA : ∀ q, s.heap.size ≤ q → z ≤ q) {r i n q' : Nat} {g : Nat → Nat → Nat} (hsh : ov_sh r = .inr (0, n, q', g)) (hn : (r, i) ∉ S.2.2.1) (hc : cells + 1 ≤ R.cells) (hs : slots + n ≤ R.slots) (hdg : decode cc pc = .ok (.newarray .int, 2))
    (kk : ∀ (q : Nat) (H1 : Heap), ov_rep D cA z bS tS aS L xs (ov_ua ad r i q) (ov_n S r i) H1 → va_S (fun q => z ≤ q) s.heap H1 locs → ov_ext ad S (ov_ua ad r i q) (ov_n S r i) → W p l e R s m args below meth c H1 locs (cells + 1) (slots + n) Qp (F0 m (pc + 2) lsA (.ref q :: rest))) : W p l e R s m args below meth c H locs cells slots Qp (F0 m pc lsA (.int (Int32.ofNat n) :: rest)) := by
  have hle := (ov_arr hsh).1
  refine va_newa (atype := .int) (a0 := (n, .inl (fun _ => 0))) hx hb (hts _ ov_w_ai) rfl hK hR.1 hR.2.1 hS hA (fun _ => rfl) (ov_nat32 hle).1 (ov_nat32 hle).2 (by show n * 4 ≤ _; omega) hc hs hdg ?_
  intro q cN H1 hK1 hP1 hD1 hS1
  have e1 : cN = cA 0 := Option.some.inj ((hK1.2 5 (cN, .int) rfl).2.symm.trans (hK.2 0 (cA 0, .int) rfl).2)
  subst e1
  have hE : ov_ce cA (ov_ua ad r i q) (ov_n S r i) r i = .inl (cA 0, n, .inl (fun _ => 0)) := by
    rw [ov_ce_arr hsh, if_pos (by omega), show (ov_n S r i).1 r i = fun _ => 0 from funext ov_n_s.1]
  obtain ⟨g1, g2⟩ := ov_rep_n hR hn (by rintro (rfl | rfl | rfl) <;> cases hsh) (fun t n q g e => by rw [hsh] at e; cases e; omega) hE hP1 hD1
  exact kk q H1 g1 hS1 g2
theorem ov_s_newC (hx : p.tables.exec = Jvm.exec) (hb : c.code = cc) (hts : ∀ w ∈ ov_T, w.before args s = true) (hK : va_K D vwCl (ov_tys cA) s) (hR : ov_rep D cA z bS tS aS L xs ad S H) (hS : va_S (fun q => z ≤ q) s.heap H locs) (hA : ∀ q, s.heap.size ≤ q → z ≤ q) {r i n q' : Nat} {g : Nat → Nat → Nat} (hsh : ov_sh r = .inr (1, n, q', g)) (hn : (r, i) ∉ S.2.2.1) (hc : cells + 1 ≤ R.cells) (hs : slots + n ≤ R.slots) (hdg : decode cc pc = .ok (.newarray .char, 2))
    (kk : ∀ (q : Nat) (H1 : Heap), ov_rep D cA z bS tS aS L xs (ov_ua ad r i q) (ov_n S r i) H1 → va_S (fun q => z ≤ q) s.heap H1 locs → ov_ext ad S (ov_ua ad r i q) (ov_n S r i) → W p l e R s m args below meth c H1 locs (cells + 1) (slots + n) Qp (F0 m (pc + 2) lsA (.ref q :: rest))) : W p l e R s m args below meth c H locs cells slots Qp (F0 m pc lsA (.int (Int32.ofNat n) :: rest)) := by
  have hle := (ov_arr hsh).1
  refine va_newa (atype := .char) (a0 := (n, .inl (fun _ => 0))) hx hb (hts _ ov_w_ac) rfl hK hR.1 hR.2.1 hS hA (fun _ => rfl) (ov_nat32 hle).1 (ov_nat32 hle).2 (by show n * 2 ≤ _; omega) hc hs hdg ?_
  intro q cN H1 hK1 hP1 hD1 hS1
  have e1 : cN = cA 1 := Option.some.inj ((hK1.2 5 (cN, .char) rfl).2.symm.trans (hK.2 1 (cA 1, .char) rfl).2)
  subst e1
  have hE : ov_ce cA (ov_ua ad r i q) (ov_n S r i) r i = .inl (cA 1, n, .inl (fun _ => 0)) := by
    rw [ov_ce_arr hsh, if_pos (by omega), show (ov_n S r i).1 r i = fun _ => 0 from funext ov_n_s.1]
  obtain ⟨g1, g2⟩ := ov_rep_n hR hn (by rintro (rfl | rfl | rfl) <;> cases hsh) (fun t n q g e => by rw [hsh] at e; cases e; omega) hE hP1 hD1
  exact kk q H1 g1 hS1 g2
theorem ov_s_newL (hx : p.tables.exec = Jvm.exec) (hb : c.code = cc) (hts : ∀ w ∈ ov_T, w.before args s = true) (hK : va_K D vwCl (ov_tys cA) s) (hR : ov_rep D cA z bS tS aS L xs ad S H) (hS : va_S (fun q => z ≤ q) s.heap H locs) (hA : ∀ q, s.heap.size ≤ q → z ≤ q) {r i n q' : Nat} {g : Nat → Nat → Nat} (hsh : ov_sh r = .inr (2, n, q', g)) (hn : (r, i) ∉ S.2.2.1) (hc : cells + 1 ≤ R.cells) (hs : slots + n ≤ R.slots) (hdg : decode cc pc = .ok (.newarray .long, 2))
    (kk : ∀ (q : Nat) (H1 : Heap), ov_rep D cA z bS tS aS L xs (ov_ua ad r i q) (ov_n S r i) H1 → va_S (fun q => z ≤ q) s.heap H1 locs → ov_ext ad S (ov_ua ad r i q) (ov_n S r i) → W p l e R s m args below meth c H1 locs (cells + 1) (slots + n) Qp (F0 m (pc + 2) lsA (.ref q :: rest))) : W p l e R s m args below meth c H locs cells slots Qp (F0 m pc lsA (.int (Int32.ofNat n) :: rest)) := by
  have hle := (ov_arr hsh).1
  refine va_newa (atype := .long) (a0 := (n, .inr (.inl (fun _ => 0)))) hx hb (hts _ ov_w_al) rfl hK hR.1 hR.2.1 hS hA (fun _ => rfl) (ov_nat32 hle).1 (ov_nat32 hle).2 (by show n * 8 ≤ _; omega) hc hs hdg ?_
  intro q cN H1 hK1 hP1 hD1 hS1
  have e1 : cN = cA 2 := Option.some.inj ((hK1.2 5 (cN, .long) rfl).2.symm.trans (hK.2 2 (cA 2, .long) rfl).2)
  subst e1
  have hE : ov_ce cA (ov_ua ad r i q) (ov_n S r i) r i = .inl (cA 2, n, .inr (.inl (fun _ => 0))) := by
    rw [ov_ce_arr hsh, if_neg (by omega), if_pos rfl, show (ov_n S r i).2.1 r i = fun _ => 0 from funext ov_n_s.2]
  obtain ⟨g1, g2⟩ := ov_rep_n hR hn (by rintro (rfl | rfl | rfl) <;> cases hsh) (fun t n q g e => by rw [hsh] at e; cases e; omega) hE hP1 hD1
  exact kk q H1 g1 hS1 g2
theorem ov_s_newQ {t : Nat} {C : String} (hty : (ov_tys cA)[t]? = some (cA t, .object C)) (ht : t = 3 ∨ t = 4) (hx : p.tables.exec = Jvm.exec) (hb : c.code = cc) (hts : ∀ w ∈ ov_T, w.before args s = true) (hown : s.vm.findClass (ov_cn y1) = some m.cls) (hAO : va_AO C s) (hK : va_K D vwCl (ov_tys cA) s) (hR : ov_rep D cA z bS tS aS L xs ad S H) (hS : va_S (fun q => z ≤ q) s.heap H locs) (hA : ∀ q, s.heap.size ≤ q → z ≤ q) {r i n q' idx : Nat} {g : Nat → Nat → Nat} (hsh : ov_sh r = .inr (t, n, q', g)) (hn : (r, i) ∉ S.2.2.1) (hcl : (Cond.classLink (ov_cn y1) idx C).before args s = true) (hc : cells + 1 ≤ R.cells) (hs : slots + n ≤ R.slots) (hdg : decode cc pc = .ok (.anewarray idx, 3))
    (kk : ∀ (q : Nat) (H1 : Heap), ov_rep D cA z bS tS aS L xs (ov_ua ad r i q) (ov_n S r i) H1 → va_S (fun q => z ≤ q) s.heap H1 locs → ov_ext ad S (ov_ua ad r i q) (ov_n S r i) → W p l e R s m args below meth c H1 locs (cells + 1) (slots + n) Qp (F0 m (pc + 3) lsA (.ref q :: rest))) : W p l e R s m args below meth c H locs cells slots Qp (F0 m pc lsA (.int (Int32.ofNat n) :: rest)) := by
  have hle := (ov_arr hsh).1
  refine va_newq hx hb hown hcl hAO hK hR.1 hR.2.1 hS hA (ov_nat32 hle).1 (ov_nat32 hle).2 (by omega) hc hs hdg ?_
  intro q cN H1 hK1 hP1 hD1 hS1
  obtain ⟨-, -, -, -, -, f1⟩ := (hK1.2 5 (cN, .object C) rfl).2
  obtain ⟨-, -, -, -, -, f2⟩ := (hK.2 t (cA t, .object C) hty).2
  have e1 : cN = cA t := Option.some.inj (f1.symm.trans f2)
  subst e1
  have hE : ov_ce cA (ov_ua ad r i q) (ov_n S r i) r i = .inl (cA t, n, .inr (.inr (.inr (.inr (fun _ => none))))) := by
    rw [ov_ce_arr hsh, if_neg (by omega), if_neg (by omega)]
    congr 7
    funext j
    rw [ov_n_s.1 j, if_pos rfl]
    simp
  obtain ⟨g1, g2⟩ := ov_rep_n hR hn (by rintro (rfl | rfl | rfl) <;> (rcases ht with rfl | rfl <;> cases hsh)) (fun t' n q g e => by rw [hsh] at e; cases e; omega) hE hP1 hD1
  exact kk q H1 g1 hS1 g2
end OVI
end
section
theorem ov_get_e {mo : Bool} {S : ov_S} {r i ci k : Nat} {K : ov_A → Prop} (h : ov_get mo S r i ci k K) : ∃ fks kd q g, ov_sh r = .inl (ci, fks) ∧ fks[k]? = some (kd, q, g) ∧ (kd ≤ 1 ∧ K (.inl (ov_g S r i k)) ∨ kd = 2 ∧ mo = true ∧ K (.inr (.inr (true, q, g i))) ∨ 2 ≤ kd ∧ K (.inr (.inr (ov_g S r i k != 0, q, g i)))) := by
  unfold ov_get at h
  split at h
  · rename_i c fks hsh
    split at h
    · rename_i e
      have e := Nat.eq_of_beq_eq_true e
      subst e
      split at h
      · rename_i hk
        exact ⟨fks, _, _, _, hsh, hk, Or.inl ⟨by omega, h⟩⟩
      · rename_i hk
        exact ⟨fks, _, _, _, hsh, hk, Or.inl ⟨by omega, h⟩⟩
      · rename_i hk
        split at h
        · exact ⟨fks, _, _, _, hsh, hk, Or.inr (Or.inl ⟨rfl, rfl, h⟩)⟩
        · exact ⟨fks, _, _, _, hsh, hk, Or.inr (Or.inr ⟨by omega, h⟩)⟩
      · rename_i hk
        exact ⟨fks, _, _, _, hsh, hk, Or.inr (Or.inr ⟨by omega, h⟩)⟩
      · exact h.elim
    · exact h.elim
  · exact h.elim
theorem ov_put_e {mo : Bool} {y : ov_M} {S : ov_S} {r i ci k : Nat} {v : ov_A} {K : ov_S → Prop} (h : ov_put mo y S r i ci k v K) : ∃ fks kd q g x, ov_sh r = .inl (ci, fks) ∧ fks[k]? = some (kd, q, g) ∧ K (ov_w S r i k x) ∧ (kd ≤ 1 ∧ v = .inl x ∧ (kd = 1 → x = 0 ∨ x = 1) ∨ (kd = 2 ∧ mo = false ∧ y.2.1.name = "<init>" ∧ y.1 = ci ∨ kd = 3) ∧ v = .inr (.inr (true, q, g i)) ∧ x = 1 ∨ kd = 3 ∧ (∃ q' j, v = .inr (.inr (false, q', j))) ∧ x = 0) := by
  unfold ov_put at h
  split at h
  · rename_i c fks hsh
    split at h
    · rename_i e
      have e := Nat.eq_of_beq_eq_true e
      subst e
      split at h
      · rename_i hk
        exact ⟨fks, _, _, _, _, hsh, hk, h, Or.inl ⟨by omega, rfl, fun h => by omega⟩⟩
      · rename_i hk
        exact ⟨fks, _, _, _, _, hsh, hk, h.2, Or.inl ⟨by omega, rfl, fun _ => h.1⟩⟩
      · rename_i hk
        obtain ⟨h1, h2, h3, rfl, rfl, h6⟩ := h
        exact ⟨fks, _, _, _, _, hsh, hk, h6, Or.inr (Or.inl ⟨Or.inl ⟨rfl, h1, h2, h3⟩, rfl, rfl⟩)⟩
      · rename_i hk
        obtain ⟨rfl, rfl, h6⟩ := h
        exact ⟨fks, _, _, _, _, hsh, hk, h6, Or.inr (Or.inl ⟨Or.inr rfl, rfl, rfl⟩)⟩
      · rename_i hk
        exact ⟨fks, _, _, _, _, hsh, hk, h, Or.inr (Or.inr ⟨rfl, ⟨_, _, rfl⟩, rfl⟩)⟩
      · exact h.elim
    · exact h.elim
  · exact h.elim
theorem ov_arI_e {t : Nat} {S : ov_S} {r : Nat} {x : Int32} {K : Prop} (h : ov_arI t S r x K) : ∃ n q g, ov_sh r = .inr (t, n, q, g) ∧ ov_ib x n ∧ K := by
  unfold ov_arI at h
  split at h
  · rename_i hsh
    split at h
    · rename_i e
      have e := Nat.eq_of_beq_eq_true e
      subst e
      exact ⟨_, _, _, hsh, h⟩
    · exact h.elim
  · exact h.elim
theorem ov_iald_e {S : ov_S} {r i : Nat} {x : Int32} {K : Int32 → Prop} (h : ov_iald S r i x K) : (∃ n q g, ov_sh r = .inr (0, n, q, g) ∧ ov_ib x n ∧ K (ov_g S r i (ov_ix x))) ∨ (∃ n q g, ov_sh r = .inr (10, n, q, g) ∧ i = 0 ∧ ov_ib x S.2.2.2.1 ∧ K (S.2.2.2.2 (ov_ix x))) := by
  unfold ov_iald at h
  split at h
  · rename_i hsh
    exact Or.inl ⟨_, _, _, hsh, h⟩
  · rename_i hsh
    exact Or.inr ⟨_, _, _, hsh, h⟩
  · exact h.elim
theorem ov_lald_e {S : ov_S} {r i : Nat} {x : Int32} {K : Int64 → Prop} (h : ov_lald S r i x K) : (∃ n q g, ov_sh r = .inr (2, n, q, g) ∧ ov_ib x n ∧ K (ov_gl S r i (ov_ix x))) ∨ (∃ n q g, ov_sh r = .inr (11, n, q, g) ∧ i = 0 ∧ ov_ib x 6 ∧ K (ov_sw (ov_ix x))) := by
  unfold ov_lald at h
  split at h
  · rename_i hsh
    exact Or.inl ⟨_, _, _, hsh, h⟩
  · rename_i hsh
    exact Or.inr ⟨_, _, _, hsh, h⟩
  · exact h.elim
theorem ov_aald_e {S : ov_S} {r i : Nat} {x : Int32} {K : ov_A → Prop} (h : ov_aald S r i x K) : ∃ t n q g, ov_sh r = .inr (t, n, q, g) ∧ (t = 3 ∨ t = 4) ∧ ov_ib x n ∧ K (.inr (.inr (ov_g S r i (ov_ix x) != 0, q, g i (ov_ix x)))) := by
  unfold ov_aald at h
  split at h
  · rename_i hsh
    exact ⟨_, _, _, _, hsh, Or.inl rfl, h⟩
  · rename_i hsh
    exact ⟨_, _, _, _, hsh, Or.inr rfl, h⟩
  · exact h.elim
theorem ov_aast_e {S : ov_S} {r i : Nat} {x : Int32} {q' j : Nat} {K : ov_S → Prop} (h : ov_aast S r i x q' j K) : ∃ t n q g, ov_sh r = .inr (t, n, q, g) ∧ (t = 3 ∨ t = 4) ∧ ov_ib x n ∧ q' = q ∧ j = g i (ov_ix x) ∧ K (ov_w S r i (ov_ix x) 1) := by
  unfold ov_aast at h
  split at h
  · rename_i hsh
    exact ⟨_, _, _, _, hsh, Or.inl rfl, h⟩
  · rename_i hsh
    exact ⟨_, _, _, _, hsh, Or.inr rfl, h⟩
  · exact h.elim
theorem ov_len_e {S : ov_S} {r : Nat} {K : Int32 → Prop} (h : ov_len S r K) : (∃ n q g, ov_sh r = .inr (10, n, q, g) ∧ K (Int32.ofNat S.2.2.2.1)) ∨ ∃ t n q g, ov_sh r = .inr (t, n, q, g) ∧ t ≤ 2 ∧ K (Int32.ofNat n) := by
  unfold ov_len at h
  split at h
  · rename_i hsh
    exact Or.inl ⟨_, _, _, hsh, h⟩
  · rename_i hsh
    exact Or.inr ⟨_, _, _, _, hsh, by omega, h⟩
  · rename_i hsh
    exact Or.inr ⟨_, _, _, _, hsh, by omega, h⟩
  · exact h.elim
theorem ov_copy_e {S : ov_S} {r i r1 i1 : Nat} {sp dp n : Int32} {K : ov_S → Prop} (h : ov_copy S r i r1 i1 sp dp n K) : ∃ n0 q g n1 q1 g1, ov_sh r = .inr (0, n0, q, g) ∧ ov_sh r1 = .inr (0, n1, q1, g1) ∧ (¬ sp < 0 ∧ ¬ dp < 0 ∧ ¬ n < 0 ∧ ov_ix sp + ov_ix n ≤ n0 ∧ ov_ix dp + ov_ix n ≤ n1) ∧ K (ov_wa S r1 i1 (va_cpy (S.1 r i) (S.1 r1 i1) (ov_ix sp) (ov_ix dp) (ov_ix n))) := by
  unfold ov_copy at h
  split at h
  · rename_i h1 h2
    exact ⟨_, _, _, _, _, _, h1, h2, h⟩
  · exact h.elim
theorem ov_swT_e {x : Int32} {k : Int → Prop} : ∀ {os : List Int} {lo : Int}, ov_swT x k lo os → ∀ (j : Nat) (off : Int), os[j]? = some off → x.toInt = lo + (j : Int) → k off
  | [], _, _, j, off, h, _ => by simp at h
  | o :: os, lo, g, 0, off, h, e => by
    simp at h
    subst h
    exact g.1 (by simpa using e)
  | o :: os, lo, g, j + 1, off, h, e => ov_swT_e g.2 j off (by simpa using h) (by rw [e]; push_cast; omega)
theorem ov_ret_e {mo0 mo : Bool} {P : Prop} (h : ov_ret mo0 mo P) : mo = mo0 ∧ P := by
  unfold ov_ret at h
  split at h
  · exact ⟨rfl, h⟩
  · exact ⟨rfl, h⟩
  · exact h.elim
theorem ov_rt_e {m : ov_M} {x : Int32} {P : Prop} (h : ov_rt m x P) : (m.2.2.2.2.1 = some .int ∨ m.2.2.2.2.1 = some .boolean ∧ (x = 0 ∨ x = 1)) ∧ P := by
  unfold ov_rt at h
  split at h
  · rename_i e
    exact ⟨Or.inl e, h⟩
  · rename_i e
    exact ⟨Or.inr ⟨e, h.1⟩, h.2⟩
  · exact h.elim
theorem ov_call_e {Xc X : ov_X} {mo0 mo : Bool} {d a b : Nat} {y : ov_M} {pc : Nat} {ls : List (Option ov_A)} {S : ov_S} {Q : ov_Q} {m : ov_M} {as t : List ov_A} (h : ov_call Xc X mo0 mo d a b y pc ls S Q m as t) : ov_rm m.2.2.2.1 as t = true ∧ 0 < d ∧ ∃ a' b', a' ≤ a ∧ b' ≤ b ∧ Xc mo mo (d - 1) a' b' m 0 (ov_en m.2.2.2.1 as) [] S (fun r S' => X mo0 mo d (a - a') (b - b') y (pc + 3) ls (r.toList ++ t) S' Q) := by
  unfold ov_call at h
  split at h
  · rename_i e
    refine ⟨e, h.1, ?_⟩
    cases mo
    · exact h.2
    · exact ⟨0, 0, by omega, by omega, h.2⟩
  · exact h.elim
theorem ov_swL_e {x : Int32} {k : Int → Prop} {dflt : Int} : ∀ {ps : List (Int × Int)}, ov_swL x k dflt ps → k (Op.lookupswitch.offset ps dflt x.toInt)
  | [], g => g
  | (v, o) :: ps, g => by
    unfold Op.lookupswitch.offset
    by_cases e : x.toInt = v
    · have := g.1 e
      split
      · exact this
      · rename_i h
        exact absurd e (by first | exact fun q => h q.symm | exact h | simpa using h | (intro q; simp [q] at h))
    · have := ov_swL_e (g.2 e)
      split
      · rename_i h
        exact absurd (by first | exact h | exact h.symm | simpa using h | (simp at h; exact h) | (simp at h; exact h.symm)) e
      · exact this
theorem ov_ra_e {m : ov_M} {mo0 mo : Bool} {P : Prop} (h : ov_ra m (ov_ret mo0 mo P)) : (∃ ty, m.2.2.2.2.1 = some ty ∧ ((∃ n, ty = .object n) ∨ ∃ t, ty = .array t)) ∧ mo = mo0 ∧ P := by
  unfold ov_ra at h
  split at h
  · rename_i e
    exact ⟨⟨_, e, Or.inl ⟨_, rfl⟩⟩, ov_ret_e h⟩
  · rename_i e
    exact ⟨⟨_, e, Or.inr ⟨_, rfl⟩⟩, ov_ret_e h⟩
  · exact h.elim
theorem ov_rn_e {m : ov_M} {mo0 mo : Bool} {P : Prop} (h : ov_rn m (ov_ret mo0 mo P)) : m.2.2.2.2.1 = none ∧ mo = mo0 ∧ P := by
  unfold ov_rn at h
  split at h
  · rename_i e
    exact ⟨e, ov_ret_e h⟩
  · exact h.elim
end
section
section OVM
variable {l : Launch} {D : va_G} {cA : Nat → ClassId} {z bS tS aS L : Nat} {xs : Nat → Int32} {ZS : State → Prop}
theorem ov_flag {S : ov_S} {r i k : Nat} : (ov_g S r i k != 0) = true ↔ S.1 r i k ≠ 0 := by simp [ov_g]
theorem ov_fv_ref {ad : Nat → Nat → Nat} {S : ov_S} {r i k kd q : Nat} {g : Nat → Nat} (h : 2 ≤ kd) : ov_fv ad S r i k (kd, q, g) = ov_rv ad (.inr (.inr (ov_g S r i k != 0, q, g i))) := by
  unfold ov_fv
  rw [if_pos h]
  by_cases e : S.1 r i k = 0
  · rw [if_pos e]
    have : (ov_g S r i k != 0) = false := by simpa [ov_g] using e
    rw [this]
    rfl
  · rw [if_neg e, (ov_flag.mpr e)]
    rfl
theorem ov_av_ref {S : ov_S} {r i k kd q : Nat} {g : Nat → Nat} {c : Nat} {fks : List (Nat × Nat × (Nat → Nat))} (hc : ov_clo S) (hlv : (r, i) ∈ S.2.2.1) (hsh : ov_sh r = .inl (c, fks)) (hk : fks[k]? = some (kd, q, g)) (h : 2 ≤ kd) : ov_av S (.inr (.inr (ov_g S r i k != 0, q, g i))) := by
  cases hb : (ov_g S r i k != 0)
  · exact trivial
  · exact Or.inl ((hc r i hlv).1 c fks k _ hsh hk h (ov_flag.mp hb))
/-- live cells of a shape that is ours -/
theorem ov_lv_o {S : ov_S} {r i c : Nat} {fks : List (Nat × Nat × (Nat → Nat))} (h : ov_lv S r i) (hsh : ov_sh r = .inl (c, fks)) : (r, i) ∈ S.2.2.1 := by
  rcases h with h | ⟨-, h⟩
  · exact h
  · rcases h with rfl | rfl | rfl <;> cases hsh
theorem ov_lv_a {S : ov_S} {r i t n q : Nat} {g : Nat → Nat → Nat} (h : ov_lv S r i) (hsh : ov_sh r = .inr (t, n, q, g)) (ht : t ≤ 4) : (r, i) ∈ S.2.2.1 := by
  rcases h with h | ⟨-, h⟩
  · exact h
  · rcases h with rfl | rfl | rfl
    · have : t = 10 := by cases hsh; rfl
      omega
    · have : t = 11 := by cases hsh; rfl
      omega
    · have : t = 99 := by cases hsh; rfl
      omega
theorem ov_full_w {S : ov_S} {r i k : Nat} {x : Int32} (h : ov_full S) (hk : ∀ c fks q g, ov_sh r = .inl (c, fks) → fks[k]? = some (2, q, g) → x ≠ 0) : ov_full (ov_w S r i k x) := by
  intro r' i' k' c fks q g h1 h2 h3
  show (ov_w S r i k x).1 r' i' k' ≠ 0
  by_cases e : r' = r ∧ i' = i
  · obtain ⟨rfl, rfl⟩ := e
    rw [ov_w_s]
    by_cases e2 : k' = k
    · subst e2
      rw [if_pos rfl]
      exact hk c fks q g h2 h3
    · rw [if_neg e2]
      exact h r' i' k' c fks q g h1 h2 h3
  · rw [(ov_w_o e).1]
    exact h r' i' k' c fks q g h1 h2 h3
theorem ov_full_arr {S S' : ov_S} {r i t n q : Nat} {g : Nat → Nat → Nat} (h : ov_full S) (hsh : ov_sh r = .inr (t, n, q, g)) (hl : S'.2.2.1 = S.2.2.1) (ho : ∀ r' i', ¬ (r' = r ∧ i' = i) → ∀ k, S'.1 r' i' k = S.1 r' i' k) : ov_full S' := by
  intro r' i' k' c fks q g h1 h2 h3
  rw [hl] at h1
  show S'.1 r' i' k' ≠ 0
  have e : ¬ (r' = r ∧ i' = i) := by
    rintro ⟨rfl, rfl⟩
    rw [hsh] at h2
    cases h2
  rw [ho r' i' e]
  exact h r' i' k' c fks q g h1 h2 h3
theorem ov_stk {ad : Nat → Nat → Nat} {r : Option ov_A} {t : List ov_A} : (r.toList ++ t).map (ov_rv ad) = (r.map (ov_rv ad)).toList ++ t.map (ov_rv ad) := by
  cases r <;> simp
theorem ov_rm_e {m : Nat} {as rest : List ov_A} (h : ov_rm m as rest = true) : (ov_ea as).length ≤ m ∧ (ov_ea rest).length ≤ 8 := by
  rw [ov_rm, Bool.and_eq_true] at h
  exact ⟨Nat.le_of_ble_eq_true h.1, Nat.le_of_ble_eq_true h.2⟩
theorem ov_goodT : ∀ w ∈ ov_T, (w.onTables && w.keeps) = true ∨ ∃ ty, w = .arrayClass ty := fun _ hw => good_of_word (List.mem_filter.mp hw).2
theorem ov_gin {m : ov_M} (hok : ov_okc m) : GoodIn ov_T (Cond.code m.2.1 m.2.2.1 m.2.2.2.1 m.2.2.2.2.1 :: ov_T) := by
  intro w hw
  rcases List.mem_cons.mp hw with rfl | hw
  · exact ⟨hok.2.1, ov_goodT _ hok.2.1⟩
  · exact ⟨hw, ov_goodT _ hw⟩
/-- the four ways of a call, by the callee's meaning: what 'va_Run' gives -/
theorem ov_s_call (hZ : ov_HZ z ZS) {mo : Bool} {d a' b' : Nat} {y k : ov_M} {pc i kd : Nat} {S : ov_S} {Q' : ov_Q} {as t : List ov_A}
    {p : Program} {e : Env} {s : State} {m : MethodId} {args : Array Value} {below : List Frame} {meth : Method} {c : Code} {R : Room} {mc ms : Nat} (hE : ov_E D cA z bS tS L xs ZS y p s m args meth c R d mc ms)
    {H : Heap} {locs : List Loc} {cells slots : Nat} {ad : Nat → Nat → Nat} {lsA : Array Slot} (hS : va_S (fun q => z ≤ q) s.heap H locs) (hR : ov_rep D cA z bS tS aS L xs ad S H) (hF : mo = true → ov_full S) (hsz : lsA.size = y.2.2.2.1) (hd : 0 < d) (hrm : ov_rm k.2.2.2.1 as t = true) (hav : ∀ v ∈ as, ov_av S v) (hc1 : cells + a' ≤ mc) (hs1 : slots + b' ≤ ms)
    (hlm : ov_lm y.1 i = some (kd, k)) (hsem : ov_sem l D cA z bS tS aS L xs ZS mo mo (d - 1) a' b' k 0 (ov_en k.2.2.2.1 as) [] S Q')
    (hkd : (kd = 0 ∨ kd = 3) ∧ decode y.2.2.1 pc = .ok (.invokestatic i, 3) ∧ as.length = ov_na k ∨ (∃ r j bs cc' fks, as = .inr (.inr (true, r, j)) :: bs ∧ bs.length = ov_na k ∧ ov_sh r = .inl (cc', fks) ∧ cc' = k.1 ∧ ((kd = 1 ∨ kd = 4) ∧ decode y.2.2.1 pc = .ok (.invokevirtual i, 3) ∨ (kd = 2 ∨ kd = 5) ∧ decode y.2.2.1 pc = .ok (.invokespecial i, 3)))) :
    va_Run p l e R s m args below meth c H locs cells slots a' b' (F0 m pc lsA ((as.reverse ++ t).map (ov_rv ad))) (t.map (ov_rv ad)) (ov_qc D cA z bS tS aS L xs ad S mo Q' (as.map (ov_rv ad)).toArray) (fun q => z ≤ q) := by
  obtain ⟨hok, hfix, hret, hlk, hnm, hwk, hd1, hd2, hmc, hms⟩ := id hE
  obtain ⟨hx, hb, hml, hown, hts⟩ := id hfix
  obtain ⟨hokc, pq, hchk⟩ := ov_lm_ok hlm
  obtain ⟨hea, hrs⟩ := ov_rm_e hrm
  have hM := ov_met (l := l) (D := D) (cA := cA) (bS := bS) (tS := tS) (aS := aS) (L := L) (xs := xs) (ad := ad) hZ hokc hea hsem hav hF
  have hbl := ov_blind (D := D) (cA := cA) (bS := bS) (tS := tS) (aS := aS) (L := L) (xs := xs) (av := as.map (ov_rv ad)) (ad := ad) (S := S) hZ
  have hpre : ∀ U : State, U.heap = H → s.WarmedH U.vm → va_Pc (as.map (ov_rv ad)) (fun U => ov_wk D cA z bS tS L xs ZS U ∧ ov_rep D cA z bS tS aS L xs ad S U.heap) (as.map (ov_rv ad)).toArray U := fun U hU hW => ⟨rfl, ov_wk_moved hZ hwk hW (by rw [hU]; exact hS), by rw [hU]; exact hR⟩
  have hw8 : 2 * (F0 m pc lsA ((as.reverse ++ t).map (ov_rv ad))).monitorRoom + ((t.map (ov_rv ad)).map fun v => v.category).sum ≤ 8 := lv_room (by rw [ov_words]; exact hrs)
  have hroom : d - 1 + 1 ≤ R.frames ∧ 8 + (k.2.2.2.1 + 11) + 64 * (d - 1) ≤ R.locals := by
    have := hokc.2.2.2.2.2
    omega
  have hini := hts _ hokc.2.2.2.2.1
  have hdd := hokc.2.2.2.1
  have hcr : cells + a' ≤ R.cells ∧ slots + b' ≤ R.slots := ⟨by omega, by omega⟩
  rcases hkd with ⟨hk, hdg, hn⟩ | ⟨r, j, bs, cc', fks, rfl, hn, hsh, hcc, hk⟩
  · have hst : (F0 m pc lsA ((as.reverse ++ t).map (ov_rv ad))).stack = (as.map (ov_rv ad)).reverse ++ t.map (ov_rv ad) := by simp
    rcases hk with rfl | rfl
    · have h2 : (_ ∧ _) := Bool.and_eq_true _ _ ▸ hchk
      exact va_runS (n := ov_na k) hfix hM ⟨callB_of (ov_na k) hts (ov_gin hokc) rfl rfl rfl hini (hts _ (ov_i1_e h2.1)) hdd hroom, hts _ (ov_i1_e h2.2)⟩ ⟨hbl, hpre⟩ rfl (by simpa using hn) hsz hst hw8 hdg hcr
    · have h2 : (_ ∧ _) := Bool.and_eq_true _ _ ▸ hchk
      exact va_runSN (n := ov_na k) (host := "OneEye") hfix hM ⟨va_cnB (ov_na k) hts (ov_gin hokc) rfl rfl rfl (hwk.2.1 _ (ov_i2_e h2.1)) hini hdd hroom, hts _ (ov_i1_e h2.2), trivial⟩ ⟨hbl, hpre⟩ rfl (by simpa using hn) hsz hst hw8 hdg hcr
  · have hlv : (r, j) ∈ S.2.2.1 := ov_lv_o (hav _ List.mem_cons_self) hsh
    have hst : (F0 m pc lsA (((.inr (.inr (true, r, j)) :: bs : List ov_A).reverse ++ t).map (ov_rv ad))).stack = (bs.map (ov_rv ad)).reverse ++ .ref (ad r j) :: t.map (ov_rv ad) := by simp [ov_rv]
    obtain ⟨C, T, N, ty, hct, -, -⟩ := ov_obj hsh
    obtain ⟨q0, hq, hw⟩ := ov_at_ws (cA := cA) (ad := ad) hlv
    rw [ov_ce_obj hsh] at hw
    have hrecv := va_recv hwk.1 hR.1 hct.1 hw
    have hC : C = k.2.1.cls := by rw [hct.2.1, hcc, hokc.1.2]
    subst hC
    have hpre' : ∀ U : State, U.heap = H → s.WarmedH U.vm → va_Pc (((.inr (.inr (true, r, j)) :: bs : List ov_A)).map (ov_rv ad)) (fun U => ov_wk D cA z bS tS L xs ZS U ∧ ov_rep D cA z bS tS aS L xs ad S U.heap) (Value.ref (ad r j) :: bs.map (ov_rv ad)).toArray U := fun U hU hW => ⟨rfl, (hpre U hU hW).2⟩
    rcases hk with ⟨hk, hdg⟩ | ⟨hk, hdg⟩
    · rcases hk with rfl | rfl
      · have h2 : (_ ∧ _) := Bool.and_eq_true _ _ ▸ hchk
        have h3 : (_ ∧ _) := Bool.and_eq_true _ _ ▸ h2.2
        exact va_runV (n := ov_na k) (C := k.2.1.cls) (b := ad r j) (As := bs.map (ov_rv ad)) hfix hM ⟨callB_of (ov_na k) hts (ov_gin hokc) rfl rfl rfl hini (hts _ (ov_i1_e h2.1)) hdd hroom, hts _ (ov_i1_e h3.1), hts _ (ov_i1_e h3.2)⟩ ⟨hbl, hrecv, hpre'⟩ rfl (by simpa using hn) hsz hst hw8 hdg hcr
      · have h2 : (_ ∧ _) := Bool.and_eq_true _ _ ▸ hchk
        have h3 : (_ ∧ _) := Bool.and_eq_true _ _ ▸ h2.2
        exact va_runVN (n := ov_na k) (C := k.2.1.cls) (host := "OneEye") (b := ad r j) (As := bs.map (ov_rv ad)) hfix hM ⟨va_cnB (ov_na k) hts (ov_gin hokc) rfl rfl rfl (hwk.2.1 _ (ov_i2_e h2.1)) hini hdd hroom, hts _ (ov_i1_e h3.1), hts _ (ov_i1_e h3.2)⟩ ⟨hbl, hrecv, hpre'⟩ rfl (by simpa using hn) hsz hst hw8 hdg hcr
    · rcases hk with rfl | rfl
      · have h2 : (_ ∧ _) := Bool.and_eq_true _ _ ▸ hchk
        have h3 : (_ ∧ _) := Bool.and_eq_true _ _ ▸ h2.2
        have h4 : (_ ∧ _) := Bool.and_eq_true _ _ ▸ h3.2
        have hrn : k.2.2.2.2.1 = none := of_decide_eq_true h4.2
        have hM' := hM
        rw [hrn] at hM'
        have hg' := ov_gin hokc
        rw [hrn] at hg'
        exact va_runI (n := ov_na k) (b := ad r j) (As := bs.map (ov_rv ad)) hfix hM' ⟨callB_of (ov_na k) hts hg' rfl rfl rfl hini (hts _ (ov_i1_e h2.1)) hdd hroom, of_decide_eq_true h4.1, hts _ (ov_i1_e h3.1)⟩ ⟨hbl, hpre'⟩ rfl (by simpa using hn) hsz hst hw8 hdg hcr
      · have h2 : (_ ∧ _) := Bool.and_eq_true _ _ ▸ hchk
        have h3 : (_ ∧ _) := Bool.and_eq_true _ _ ▸ h2.2
        have h4 : (_ ∧ _) := Bool.and_eq_true _ _ ▸ h3.2
        have hrn : k.2.2.2.2.1 = none := of_decide_eq_true h4.2
        have hM' := hM
        rw [hrn] at hM'
        have hg' := ov_gin hokc
        rw [hrn] at hg'
        exact va_runIN (n := ov_na k) (host := "OneEye") (b := ad r j) (As := bs.map (ov_rv ad)) hfix hM' ⟨va_cnB (ov_na k) hts hg' rfl rfl rfl (hwk.2.1 _ (ov_i2_e h2.1)) hini hdd hroom, of_decide_eq_true h4.1, hts _ (ov_i1_e h3.1)⟩ ⟨hbl, hpre'⟩ rfl (by simpa using hn) hsz hst hw8 hdg hcr
end OVM
end
section
section OVN
variable {l : Launch} {D : va_G} {cA : Nat → ClassId} {z bS tS aS L : Nat} {xs : Nat → Int32} {ZS : State → Prop}
set_option maxHeartbeats 8000000 in
theorem ov_sem_F (hZ : ov_HZ z ZS) (hHS : ov_HS l z aS ZS) {mo0 mo : Bool} {d a b : Nat} {y : ov_M} {pc : Nat} {ls : List (Option ov_A)} {st : List ov_A} {S : ov_S} {Q : ov_Q} (h : ov_F (ov_sem l D cA z bS tS aS L xs ZS) (ov_sem l D cA z bS tS aS L xs ZS) mo0 mo d a b y pc ls st S Q) : ov_sem l D cA z bS tS aS L xs ZS mo0 mo d a b y pc ls st S Q := by
  intro p e s m args below meth c R mc ms hE H locs cells slots ad lsA hS hR hF hls hal has hc1 hs1
  obtain ⟨hok, hfix, hret, hlk, hnm, hwk, hd1, hd2, hmc, hms⟩ := id hE
  obtain ⟨hx, hb, hml, hown, hts⟩ := id hfix
  have hsz : lsA.size = y.2.2.2.1 := hls.2.1
  have hmlA : c.maxLocals = lsA.size := hml.trans hsz.symm
  -- the next place, nothing changed but locals and stack
  have go : ∀ {pc' : Nat} {ls' : List (Option ov_A)} {st' : List ov_A} {lsA' : Array Slot}, ov_sem l D cA z bS tS aS L xs ZS mo0 mo d a b y pc' ls' st' S Q → ov_ls ad lsA' y.2.2.2.1 ls' → (∀ v, some v ∈ ls' → ov_av S v) → (∀ v ∈ st', ov_av S v) → W p l e R s m args below meth c H locs cells slots (MQ below (ov_qc D cA z bS tS aS L xs ad S mo0 Q) args s mc ms (fun q => z ≤ q)) (F0 m pc' lsA' (st'.map (ov_rv ad))) :=
    fun h h1 h2 h3 => h p e s m args below meth c R mc ms hE H locs cells slots ad _ hS hR hF h1 h2 h3 hc1 hs1
  -- the next place, another state
  have go2 : ∀ {pc' : Nat} {st' : List ov_A} {S' : ov_S} {H1 : Heap} {locs1 : List Loc} {ad' : Nat → Nat → Nat} {a' b' cells' slots' : Nat} {mo' : Bool}, ov_sem l D cA z bS tS aS L xs ZS mo0 mo' d a' b' y pc' ls st' S' Q → va_S (fun q => z ≤ q) s.heap H1 locs1 → ov_rep D cA z bS tS aS L xs ad' S' H1 → (mo' = true → ov_full S') → ov_ext ad S ad' S' → (∀ v ∈ st', ov_av S' v) → cells' + a' ≤ mc → slots' + b' ≤ ms → W p l e R s m args below meth c H1 locs1 cells' slots' (MQ below (ov_qc D cA z bS tS aS L xs ad S mo0 Q) args s mc ms (fun q => z ≤ q)) (F0 m pc' lsA (st'.map (ov_rv ad'))) := by
    intro pc' st' S' H1 locs1 ad' a' b' cells' slots' mo' h g1 g2 g3 g4 g5 g6 g7
    refine ov_Wm (ov_MQm ?_) (h p e s m args below meth c R mc ms hE H1 locs1 cells' slots' ad' _ g1 g2 g3 (g4.ls hal hls) (fun v hv => g4.av (hal v hv)) g5 g6 g7)
    rintro o t ⟨⟨r, S2, ad2, k1, k2, k3, k4⟩, k5⟩
    exact ⟨⟨r, S2, ad2, k1, k2, g4.trans k3, k4⟩, k5⟩
  unfold ov_F at h
  split at h
  · exact h.elim
  rename_i ins len hl
  obtain ⟨hdg, hlen, hiw⟩ := hok.1 pc ins len hl
  cases ins <;> dsimp only at h <;> first
    | exact h.elim
    | skip
  case iconst n =>
    obtain rfl := hlen 1 rfl
    exact lv_iconst hx hb hdg (of_decide_eq_true hiw) (go h hls hal (ov_av_c trivial has))
  case bipush n =>
    obtain rfl := hlen 2 rfl
    exact lv_bipush hx hb hdg (of_decide_eq_true hiw) (go h hls hal (ov_av_c trivial has))
  case sipush n =>
    obtain rfl := hlen 3 rfl
    exact lv_sipush hx hb hdg (of_decide_eq_true hiw) (go h hls hal (ov_av_c trivial has))
  case lconst n =>
    obtain rfl := hlen 1 rfl
    exact lv_lconst hx hb hdg rfl (go h hls hal (ov_av_c trivial has))
  case ldc i =>
    obtain rfl := hlen 2 rfl
    split at h
    · rename_i v hv
      exact lv_ldc hx hb hown (hts _ (ov_lc_ok hv)) hdg (go h hls hal (ov_av_c trivial has))
    · split at h
      · rename_i hb2
        have h2 : _ ∧ _ := Bool.and_eq_true _ _ ▸ hb2
        have e1 := Nat.eq_of_beq_eq_true h2.1
        have e2 := Nat.eq_of_beq_eq_true h2.2
        subst e2
        have hown5 : s.vm.findClass "OneEye$Reader" = some m.cls := by rw [e1] at hown; exact hown
        refine (hHS p e R s m args below meth c H locs cells slots _ _ _ pc lsA _ ⟨hx, hb, hml, hown5, hts⟩ hwk.2.2.2.2.2.2.2.2.2 hS hsz hwk.2.2.2.2.2.2.2.2.1).1 hdg ?_
        have := go h hls hal (ov_av_c (Or.inr ⟨rfl, Or.inr (Or.inr rfl)⟩) has)
        simpa [ov_rv, hR.2.2.2.2.2.1] using this
      · exact h.elim
  case ldc_w i =>
    obtain rfl := hlen 3 rfl
    split at h
    · rename_i v hv
      exact lv_ldcw hx hb hown (hts _ (ov_lc_ok hv)) hdg (go h hls hal (ov_av_c trivial has))
    · exact h.elim
  case ldc2_w i =>
    obtain rfl := hlen 3 rfl
    split at h
    · rename_i v hv
      exact lv_ldc2 hx hb hown (hts _ (ov_lL_ok hv)) hdg (go h hls hal (ov_av_c trivial has))
    · exact h.elim
  case aconst_null =>
    obtain rfl := hlen 1 rfl
    exact lv_null hx hb hdg (go h hls hal (ov_av_c trivial has))
  case iload_n k =>
    obtain rfl := hlen 1 rfl
    replace h := ov_ldI_e h
    obtain ⟨x, hxl, h⟩ := h
    exact lv_iload_n hx hb hdg rfl (hls.2.2.2 _ _ hxl) (go h hls hal (ov_av_c trivial has))
  case iload i =>
    obtain rfl := hlen 2 rfl
    replace h := ov_ldI_e h
    obtain ⟨x, hxl, h⟩ := h
    exact lv_iload hx hb hdg (hls.2.2.2 _ _ hxl) (go h hls hal (ov_av_c trivial has))
  case lload_n k =>
    obtain rfl := hlen 1 rfl
    replace h := ov_ldL_e h
    obtain ⟨x, hxl, h⟩ := h
    exact lv_lload_n hx hb hdg rfl (hls.2.2.2 _ _ hxl) (go h hls hal (ov_av_c trivial has))
  case aload_n k =>
    obtain rfl := hlen 1 rfl
    replace h := ov_ldR_e h
    obtain ⟨b', r, j, hxl, h⟩ := h
    have hv := hal _ (List.mem_of_getElem? hxl)
    cases b'
    · exact lv_aload_nN hx hb hdg rfl (hls.2.2.2 _ _ hxl) (go h hls hal (ov_av_c hv has))
    · exact lv_aload_n hx hb hdg rfl (hls.2.2.2 _ _ hxl) (go h hls hal (ov_av_c hv has))
  case aload i =>
    obtain rfl := hlen 2 rfl
    replace h := ov_ldR_e h
    obtain ⟨b', r, j, hxl, h⟩ := h
    have hv := hal _ (List.mem_of_getElem? hxl)
    cases b'
    · exact lv_aloadN hx hb hdg (hls.2.2.2 _ _ hxl) (go h hls hal (ov_av_c hv has))
    · exact lv_aload hx hb hdg (hls.2.2.2 _ _ hxl) (go h hls hal (ov_av_c hv has))
  case istore_n k =>
    obtain rfl := hlen 1 rfl
    replace h := ov_pI_e h
    obtain ⟨x, t, rfl, h⟩ := h
    replace h := ov_sto_e h
    obtain ⟨ho, h⟩ := h
    exact lv_istore_n hx hb hdg rfl (ov_ls_has hls) (by rw [← hls.1]; exact ov_so_lt ho) rfl (fun ls' hh => go h (ov_ls_set (v := .inl x) hls.1 ho hh) (ov_al_set hal trivial) (ov_av_t has))
  case istore i =>
    obtain rfl := hlen 2 rfl
    replace h := ov_pI_e h
    obtain ⟨x, t, rfl, h⟩ := h
    replace h := ov_sto_e h
    obtain ⟨ho, h⟩ := h
    exact lv_istore hx hb hdg (ov_ls_has hls) (by rw [← hls.1]; exact ov_so_lt ho) rfl (fun ls' hh => go h (ov_ls_set (v := .inl x) hls.1 ho hh) (ov_al_set hal trivial) (ov_av_t has))
  case astore_n k =>
    obtain rfl := hlen 1 rfl
    replace h := ov_pN_e h
    obtain ⟨b', r, j, t, rfl, h⟩ := h
    replace h := ov_sto_e h
    obtain ⟨ho, h⟩ := h
    have hv := has _ List.mem_cons_self
    cases b'
    · exact lv_astore_nN hx hb hdg rfl (ov_ls_has hls) (by rw [← hls.1]; exact ov_so_lt ho) rfl (fun ls' hh => go h (ov_ls_set (v := .inr (.inr (false, r, j))) hls.1 ho hh) (ov_al_set hal hv) (ov_av_t has))
    · exact lv_astore_n hx hb hdg rfl (ov_ls_has hls) (by rw [← hls.1]; exact ov_so_lt ho) rfl (fun ls' hh => go h (ov_ls_set (v := .inr (.inr (true, r, j))) hls.1 ho hh) (ov_al_set hal hv) (ov_av_t has))
  case astore i =>
    obtain rfl := hlen 2 rfl
    replace h := ov_pN_e h
    obtain ⟨b', r, j, t, rfl, h⟩ := h
    replace h := ov_sto_e h
    obtain ⟨ho, h⟩ := h
    have hv := has _ List.mem_cons_self
    cases b'
    · exact lv_astoreN hx hb hdg (ov_ls_has hls) (by rw [← hls.1]; exact ov_so_lt ho) rfl (fun ls' hh => go h (ov_ls_set (v := .inr (.inr (false, r, j))) hls.1 ho hh) (ov_al_set hal hv) (ov_av_t has))
    · exact lv_astore hx hb hdg (ov_ls_has hls) (by rw [← hls.1]; exact ov_so_lt ho) rfl (fun ls' hh => go h (ov_ls_set (v := .inr (.inr (true, r, j))) hls.1 ho hh) (ov_al_set hal hv) (ov_av_t has))
  case iinc i n =>
    obtain rfl := hlen 3 rfl
    replace h := ov_ldI_e h
    obtain ⟨x, hxl, h⟩ := h
    replace h := ov_sto_e h
    obtain ⟨ho, h⟩ := h
    obtain ⟨k, hk⟩ := List.getElem?_of_mem (ov_as_mem (ad := ad) (q := (i, .int x)).mpr ⟨.inl x, hxl, rfl⟩)
    exact lv_iinc hx hb hdg (ov_ls_has hls) hk (by rw [of_decide_eq_true hiw]) (by rw [← hls.1]; exact ov_so_lt ho) rfl (fun ls' hh => go h (ov_ls_set (v := .inl (x + ov_k n)) hls.1 ho hh) (ov_al_set hal trivial) has)
  case iadd =>
    obtain rfl := hlen 1 rfl
    replace h := ov_pI_e h
    obtain ⟨w, t, rfl, h⟩ := h
    replace h := ov_pI_e h
    obtain ⟨v, t, rfl, h⟩ := h
    exact lv_iadd hx hb hdg (go h hls hal (ov_av_c trivial (ov_av_t (ov_av_t has))))
  case isub =>
    obtain rfl := hlen 1 rfl
    replace h := ov_pI_e h
    obtain ⟨w, t, rfl, h⟩ := h
    replace h := ov_pI_e h
    obtain ⟨v, t, rfl, h⟩ := h
    exact lv_isub hx hb hdg (go h hls hal (ov_av_c trivial (ov_av_t (ov_av_t has))))
  case imul =>
    obtain rfl := hlen 1 rfl
    replace h := ov_pI_e h
    obtain ⟨w, t, rfl, h⟩ := h
    replace h := ov_pI_e h
    obtain ⟨v, t, rfl, h⟩ := h
    exact lv_imul hx hb hdg (go h hls hal (ov_av_c trivial (ov_av_t (ov_av_t has))))
  case idiv =>
    obtain rfl := hlen 1 rfl
    replace h := ov_pI_e h
    obtain ⟨w, t, rfl, h⟩ := h
    replace h := ov_pI_e h
    obtain ⟨v, t, rfl, h⟩ := h
    exact lv_idiv hx hb hdg h.1 (go h.2 hls hal (ov_av_c trivial (ov_av_t (ov_av_t has))))
  case irem =>
    obtain rfl := hlen 1 rfl
    replace h := ov_pI_e h
    obtain ⟨w, t, rfl, h⟩ := h
    replace h := ov_pI_e h
    obtain ⟨v, t, rfl, h⟩ := h
    exact lv_irem hx hb hdg h.1 (go h.2 hls hal (ov_av_c trivial (ov_av_t (ov_av_t has))))
  case iand =>
    obtain rfl := hlen 1 rfl
    replace h := ov_pI_e h
    obtain ⟨w, t, rfl, h⟩ := h
    replace h := ov_pI_e h
    obtain ⟨v, t, rfl, h⟩ := h
    exact lv_iand hx hb hdg (go h hls hal (ov_av_c trivial (ov_av_t (ov_av_t has))))
  case ior =>
    obtain rfl := hlen 1 rfl
    replace h := ov_pI_e h
    obtain ⟨w, t, rfl, h⟩ := h
    replace h := ov_pI_e h
    obtain ⟨v, t, rfl, h⟩ := h
    exact lv_ior hx hb hdg (go h hls hal (ov_av_c trivial (ov_av_t (ov_av_t has))))
  case ixor =>
    obtain rfl := hlen 1 rfl
    replace h := ov_pI_e h
    obtain ⟨w, t, rfl, h⟩ := h
    replace h := ov_pI_e h
    obtain ⟨v, t, rfl, h⟩ := h
    exact lv_ixor hx hb hdg (go h hls hal (ov_av_c trivial (ov_av_t (ov_av_t has))))
  case ishl =>
    obtain rfl := hlen 1 rfl
    replace h := ov_pI_e h
    obtain ⟨w, t, rfl, h⟩ := h
    replace h := ov_pI_e h
    obtain ⟨v, t, rfl, h⟩ := h
    exact lv_ishl hx hb hdg (go h hls hal (ov_av_c trivial (ov_av_t (ov_av_t has))))
  case ishr =>
    obtain rfl := hlen 1 rfl
    replace h := ov_pI_e h
    obtain ⟨w, t, rfl, h⟩ := h
    replace h := ov_pI_e h
    obtain ⟨v, t, rfl, h⟩ := h
    exact lv_ishr hx hb hdg (go h hls hal (ov_av_c trivial (ov_av_t (ov_av_t has))))
  case iushr =>
    obtain rfl := hlen 1 rfl
    replace h := ov_pI_e h
    obtain ⟨w, t, rfl, h⟩ := h
    replace h := ov_pI_e h
    obtain ⟨v, t, rfl, h⟩ := h
    exact lv_iushr hx hb hdg rfl (go h hls hal (ov_av_c trivial (ov_av_t (ov_av_t has))))
  case land =>
    obtain rfl := hlen 1 rfl
    replace h := ov_pL_e h
    obtain ⟨w, t, rfl, h⟩ := h
    replace h := ov_pL_e h
    obtain ⟨v, t, rfl, h⟩ := h
    exact lv_land hx hb hdg (go h hls hal (ov_av_c trivial (ov_av_t (ov_av_t has))))
  case lor =>
    obtain rfl := hlen 1 rfl
    replace h := ov_pL_e h
    obtain ⟨w, t, rfl, h⟩ := h
    replace h := ov_pL_e h
    obtain ⟨v, t, rfl, h⟩ := h
    exact lv_lor hx hb hdg (go h hls hal (ov_av_c trivial (ov_av_t (ov_av_t has))))
  case lxor =>
    obtain rfl := hlen 1 rfl
    replace h := ov_pL_e h
    obtain ⟨w, t, rfl, h⟩ := h
    replace h := ov_pL_e h
    obtain ⟨v, t, rfl, h⟩ := h
    exact lv_lxor hx hb hdg (go h hls hal (ov_av_c trivial (ov_av_t (ov_av_t has))))
  case lshl =>
    obtain rfl := hlen 1 rfl
    replace h := ov_pI_e h
    obtain ⟨w, t, rfl, h⟩ := h
    replace h := ov_pL_e h
    obtain ⟨v, t, rfl, h⟩ := h
    exact lv_lshl hx hb hdg rfl (go h hls hal (ov_av_c trivial (ov_av_t (ov_av_t has))))
  case lushr =>
    obtain rfl := hlen 1 rfl
    replace h := ov_pI_e h
    obtain ⟨w, t, rfl, h⟩ := h
    replace h := ov_pL_e h
    obtain ⟨v, t, rfl, h⟩ := h
    exact lv_lushr hx hb hdg rfl (go h hls hal (ov_av_c trivial (ov_av_t (ov_av_t has))))
  case lcmp =>
    obtain rfl := hlen 1 rfl
    replace h := ov_pL_e h
    obtain ⟨w, t, rfl, h⟩ := h
    replace h := ov_pL_e h
    obtain ⟨v, t, rfl, h⟩ := h
    exact W.lcmp hx hb hdg (go h hls hal (ov_av_c trivial (ov_av_t (ov_av_t has))))
  case pop =>
    obtain rfl := hlen 1 rfl
    replace h := ov_pI_e h
    obtain ⟨w, t, rfl, h⟩ := h
    exact lv_pop hx hb hdg rfl (go h hls hal (ov_av_t has))
  case dup =>
    obtain rfl := hlen 1 rfl
    split at h
    · exact lv_dup hx hb hdg rfl (go h hls hal (ov_av_c trivial has))
    · rename_i x t
      obtain ⟨b', r, j⟩ := x
      have hv := has _ List.mem_cons_self
      cases b'
      · exact lv_dup hx hb hdg rfl (go h hls hal (ov_av_c hv has))
      · exact lv_dup hx hb hdg rfl (go h hls hal (ov_av_c hv has))
    · exact h.elim
  case dup2 =>
    obtain rfl := hlen 1 rfl
    split at h
    · rename_i x v t
      obtain ⟨b', r, j⟩ := v
      have hv := has _ (List.mem_cons_of_mem _ List.mem_cons_self)
      cases b'
      · exact lv_dup2_11 hx hb hdg rfl rfl (go h hls hal (ov_av_c trivial (ov_av_c hv has)))
      · exact lv_dup2_11 hx hb hdg rfl rfl (go h hls hal (ov_av_c trivial (ov_av_c hv has)))
    · exact h.elim
  case ifCond cd off =>
    obtain rfl := hlen 3 rfl
    replace h := ov_pI_e h
    obtain ⟨x, t, rfl, h⟩ := h
    have at' := ov_av_t has
    cases cd <;> dsimp only at h <;> replace h := ov_jp_e h <;> obtain ⟨tg, htg, h⟩ := h
    · exact lv_if_eq hx hb hdg htg (fun c1 => go (h.1 c1) hls hal at') (fun c1 => go (h.2 c1) hls hal at')
    · exact lv_if_ne hx hb hdg htg (fun c1 => go (h.1 c1) hls hal at') (fun c1 => go (h.2 (fun q => q c1)) hls hal at')
    · exact lv_if_lt hx hb hdg htg (fun c1 => go (h.1 c1) hls hal at') (fun c1 => go (h.2 c1) hls hal at')
    · exact lv_if_ge hx hb hdg htg (fun c1 => go (h.1 c1) hls hal at') (fun c1 => go (h.2 c1) hls hal at')
    · exact lv_if_gt hx hb hdg htg (fun c1 => go (h.1 c1) hls hal at') (fun c1 => go (h.2 c1) hls hal at')
    · exact lv_if_le hx hb hdg htg (fun c1 => go (h.1 c1) hls hal at') (fun c1 => go (h.2 c1) hls hal at')
  case if_icmp cd off =>
    obtain rfl := hlen 3 rfl
    replace h := ov_pI_e h
    obtain ⟨w, t, rfl, h⟩ := h
    replace h := ov_pI_e h
    obtain ⟨x, t, rfl, h⟩ := h
    have at' := ov_av_t (ov_av_t has)
    cases cd <;> dsimp only at h <;> replace h := ov_jp_e h <;> obtain ⟨tg, htg, h⟩ := h
    · exact lv_icmp_eq hx hb hdg htg (fun c1 => go (h.1 c1) hls hal at') (fun c1 => go (h.2 c1) hls hal at')
    · exact lv_icmp_ne hx hb hdg htg (fun c1 => go (h.1 c1) hls hal at') (fun c1 => go (h.2 (fun q => q c1)) hls hal at')
    · exact lv_icmp_lt hx hb hdg htg (fun c1 => go (h.1 c1) hls hal at') (fun c1 => go (h.2 c1) hls hal at')
    · exact lv_icmp_ge hx hb hdg htg (fun c1 => go (h.1 c1) hls hal at') (fun c1 => go (h.2 c1) hls hal at')
    · exact lv_icmp_gt hx hb hdg htg (fun c1 => go (h.1 c1) hls hal at') (fun c1 => go (h.2 c1) hls hal at')
    · exact lv_icmp_le hx hb hdg htg (fun c1 => go (h.1 c1) hls hal at') (fun c1 => go (h.2 c1) hls hal at')
  case ifnull off =>
    obtain rfl := hlen 3 rfl
    replace h := ov_pN_e h
    obtain ⟨b', r, j, t, rfl, h⟩ := h
    cases b'
    · replace h := ov_jp_e h
      obtain ⟨tg, htg, h⟩ := h
      exact lv_ifnullN hx hb hdg htg (go h hls hal (ov_av_t has))
    · exact lv_ifnull hx hb hdg (go h hls hal (ov_av_t has))
  case ifnonnull off =>
    obtain rfl := hlen 3 rfl
    replace h := ov_pN_e h
    obtain ⟨b', r, j, t, rfl, h⟩ := h
    cases b'
    · exact lv_ifnonnullN hx hb hdg (go h hls hal (ov_av_t has))
    · replace h := ov_jp_e h
      obtain ⟨tg, htg, h⟩ := h
      exact lv_ifnonnull hx hb hdg htg (go h hls hal (ov_av_t has))
  case goto off =>
    obtain rfl := hlen 3 rfl
    replace h := ov_jp_e h
    obtain ⟨tg, htg, h⟩ := h
    exact lv_goto hx hb hdg htg (go h hls hal has)
  case tableswitch dflt lo hi offs =>
    replace h := ov_pI_e h
    obtain ⟨x, t, rfl, h⟩ := h
    by_cases hr : x.toInt < lo ∨ hi < x.toInt
    · obtain ⟨tg, htg, h⟩ := ov_jp_e (h.1 hr)
      exact lv_tableOut hx hb hdg hr htg (go h hls hal (ov_av_t has))
    · have h2 : _ ∧ _ := Bool.and_eq_true _ _ ▸ hiw
      have e1 : lo ≤ hi := of_decide_eq_true h2.1
      have e2 : offs.size = (hi - lo + 1).toNat := of_decide_eq_true h2.2
      have hj : (x.toInt - lo).toNat < offs.size := by omega
      have hg : offs[(x.toInt - lo).toNat]? = some offs[(x.toInt - lo).toNat] := Array.getElem?_eq_getElem hj
      obtain ⟨tg, htg, h⟩ := ov_jp_e (ov_swT_e h.2 (x.toInt - lo).toNat _ (by rw [Array.getElem?_toList]; exact hg) (by omega))
      exact lv_tableIn hx hb hdg (fun q => hr (Or.inl q)) (fun q => hr (Or.inr q)) hg htg (go h hls hal (ov_av_t has))
  case lookupswitch dflt ps =>
    replace h := ov_pI_e h
    obtain ⟨x, t, rfl, h⟩ := h
    obtain ⟨tg, htg, h⟩ := ov_jp_e (ov_swL_e h)
    exact lv_lookup hx hb hdg hiw rfl htg (go h hls hal (ov_av_t has))
  case getfield i =>
    obtain rfl := hlen 3 rfl
    split at h
    · rename_i ci k hlf
      replace h := ov_pR_e h
      obtain ⟨r, j, t, rfl, h⟩ := h
      replace h := ov_get_e h
      obtain ⟨fks, kd, q, g, hsh, hk, h⟩ := h
      have hlv : (r, j) ∈ S.2.2.1 := ov_lv_o (has _ List.mem_cons_self) hsh
      refine ov_s_get hx hb hts hown hwk.1 hR hlv hsh hk hlf hdg ?_
      rcases h with ⟨h1, h⟩ | ⟨rfl, rfl, h⟩ | ⟨h1, h⟩
      · have e1 : ov_fv ad S r j k (kd, q, g) = .int (ov_g S r j k) := by
          unfold ov_fv
          rw [if_neg (by omega)]
          rfl
        rw [e1]
        exact go h hls hal (ov_av_c trivial (ov_av_t has))
      · have hne : S.1 r j k ≠ 0 := hF rfl r j k _ fks q g hlv hsh hk
        have e1 : ov_fv ad S r j k (2, q, g) = .ref (ad q (g j)) := by
          unfold ov_fv
          rw [if_pos (by omega), if_neg hne]
        rw [e1]
        exact go h hls hal (ov_av_c (Or.inl ((hR.2.2.1 r j hlv).1 _ fks k _ hsh hk (by omega) hne)) (ov_av_t has))
      · rw [ov_fv_ref h1]
        exact go h hls hal (ov_av_c (ov_av_ref hR.2.2.1 hlv hsh hk h1) (ov_av_t has))
    · exact h.elim
  case putfield i =>
    obtain rfl := hlen 3 rfl
    split at h
    · rename_i ci k v t hlf
      replace h := ov_pR_e h
      obtain ⟨r, j, t, rfl, h⟩ := h
      replace h := ov_put_e h
      obtain ⟨fks, kd, q, g, x, hsh, hk, h, hv⟩ := h
      have hlv : (r, j) ∈ S.2.2.1 := ov_lv_o (has _ (List.mem_cons_of_mem _ List.mem_cons_self)) hsh
      have hvx : (ov_w S r j k x).1 r j k = x := by rw [ov_w_s, if_pos rfl]
      have e1 : ov_rv ad v = ov_fv ad (ov_w S r j k x) r j k (kd, q, g) := by
        unfold ov_fv
        rw [hvx]
        rcases hv with ⟨h1, rfl, h3⟩ | ⟨h1, rfl, rfl⟩ | ⟨rfl, ⟨q', j', rfl⟩, rfl⟩
        · rw [if_neg (by omega)]
          rfl
        · rw [if_pos (by rcases h1 with h1 | h1 <;> omega), if_neg (by decide)]
          rfl
        · rw [if_pos (by omega), if_pos rfl]
          rfl
      show W p l e R s m args below meth c H locs cells slots _ (F0 m pc lsA (ov_rv ad v :: .ref (ad r j) :: t.map (ov_rv ad)))
      rw [e1]
      refine ov_s_put hx hb hts hown hwk.1 hR hS hlv hsh hk hlf ?_ ?_ ?_ hdg ?_
      · intro h2 hne
        rcases hv with ⟨h1, rfl, h3⟩ | ⟨h1, rfl, rfl⟩ | ⟨rfl, -, rfl⟩
        · dsimp only at h2; omega
        · have h5 : ov_lv S q (g j) := has _ List.mem_cons_self
          rcases h5 with h5 | ⟨h5, h6⟩
          · exact h5
          · exfalso
            obtain ⟨C, T, N, ty, hct, hN, hkd⟩ := ov_obj hsh
            exact ov_tgt hsh hk (by rcases h1 with h1 | h1 <;> omega) h6
        · exact absurd rfl hne
      · intro h2
        dsimp only at h2
        rcases hv with ⟨h1, rfl, h3⟩ | ⟨h1, rfl, rfl⟩ | ⟨rfl, -, rfl⟩
        · omega
        · rcases h1 with ⟨-, h4, h5, h6⟩ | h1
          · exact ⟨by rw [hnm]; exact h5, h6.symm⟩
          · omega
        · omega
      · intro h2
        dsimp only at h2
        rcases hv with ⟨h1, rfl, h3⟩ | ⟨h1, rfl, rfl⟩ | ⟨rfl, -, rfl⟩
        · exact h3 h2
        · exact Or.inr rfl
        · exact Or.inl rfl
      · intro H1 locs1 hR1 hS1
        refine go2 h hS1 hR1 (fun hm => ov_full_w (hF hm) ?_) (ov_ext_rf rfl) (fun v' hv' => (ov_ext_rf (ad := ad) (S' := ov_w S r j k x) rfl).av (ov_av_t (ov_av_t has) v' hv')) hc1 hs1
        intro c2 fks2 q2 g2 e2 e3
        rw [hsh] at e2
        cases e2
        rw [hk] at e3
        cases e3
        rcases hv with ⟨h1, rfl, h3⟩ | ⟨h1, rfl, rfl⟩ | ⟨h1, -, rfl⟩
        · omega
        · decide
        · omega
    · exact h.elim
  case getstatic i =>
    obtain rfl := hlen 3 rfl
    split at h
    · rename_i hb2
      have h2 : _ ∧ _ := Bool.and_eq_true _ _ ▸ hb2
      have e1 := Nat.eq_of_beq_eq_true h2.1
      have e2 := Nat.eq_of_beq_eq_true h2.2
      subst e2
      have hown7 : s.vm.findClass "OneEye$Talk" = some m.cls := by rw [e1] at hown; exact hown
      refine va_gets hx hb hwk.2.2.2.2.1 hS hown7 (hts _ ov_w_sw) (fun _ h => h) hdg ?_
      have := go h hls hal (ov_av_c (Or.inr ⟨rfl, Or.inr (Or.inl rfl)⟩) has)
      simpa [ov_rv, hR.2.2.2.2.1] using this
    · exact h.elim
  case iaload =>
    obtain rfl := hlen 1 rfl
    replace h := ov_pI_e h
    obtain ⟨x, t, rfl, h⟩ := h
    replace h := ov_pR_e h
    obtain ⟨r, j, t, rfl, h⟩ := h
    have hl1 : ov_lv S r j := has _ (List.mem_cons_of_mem _ List.mem_cons_self)
    replace h := ov_iald_e h
    rcases h with ⟨n, q, g, hsh, hin, h⟩ | ⟨n, q, g, hsh, rfl, hin, h⟩
    · exact ov_s_iald hx hb hwk.1 hR (ov_lv_a hl1 hsh (by omega)) hsh hin hdg (go h hls hal (ov_av_c trivial (ov_av_t (ov_av_t has))))
    · have hr16 : r = 16 := by
        rcases hl1 with h5 | ⟨-, h5⟩
        · have := (hR.2.2.1 r 0 h5).2.2 _ _ _ _ hsh
          omega
        · rcases h5 with rfl | rfl | rfl
          · rfl
          · cases hsh
          · cases hsh
      subst hr16
      have hX := hwk.2.2.2.2.2.2.1
      have hsc := hR.2.2.2.2.2.2
      have e1 : S.2.2.2.1 = L := by rw [hsc]
      have e2 : S.2.2.2.2 = xs := by rw [hsc]
      rw [e1] at hin
      rw [e2] at h
      show W p l e R s m args below meth c H locs cells slots _ (F0 m pc lsA (.int x :: .ref (ad 16 0) :: t.map (ov_rv ad)))
      rw [hR.2.2.2.1]
      exact va_sld hx hb hX (Nat.lt_of_lt_of_le hwk.2.2.2.2.2.2.2.1 hwk.2.2.2.2.2.2.2.2.1) (fun q => absurd hwk.2.2.2.2.2.2.2.1 (Nat.not_lt.mpr q)) hS (ov_ib_in hin) hdg (go h hls hal (ov_av_c trivial (ov_av_t (ov_av_t has))))
  case caload =>
    obtain rfl := hlen 1 rfl
    replace h := ov_pI_e h
    obtain ⟨x, t, rfl, h⟩ := h
    replace h := ov_pR_e h
    obtain ⟨r, j, t, rfl, h⟩ := h
    replace h := ov_arI_e h
    obtain ⟨n, q, g, hsh, hin, h⟩ := h
    have hl1 : ov_lv S r j := has _ (List.mem_cons_of_mem _ List.mem_cons_self)
    exact ov_s_cald hx hb hwk.1 hR (ov_lv_a hl1 hsh (by omega)) hsh hin hdg (go h hls hal (ov_av_c trivial (ov_av_t (ov_av_t has))))
  case laload =>
    obtain rfl := hlen 1 rfl
    replace h := ov_pI_e h
    obtain ⟨x, t, rfl, h⟩ := h
    replace h := ov_pR_e h
    obtain ⟨r, j, t, rfl, h⟩ := h
    have hl1 : ov_lv S r j := has _ (List.mem_cons_of_mem _ List.mem_cons_self)
    replace h := ov_lald_e h
    rcases h with ⟨n, q, g, hsh, hin, h⟩ | ⟨n, q, g, hsh, rfl, hin, h⟩
    · exact ov_s_lald hx hb hwk.1 hR (ov_lv_a hl1 hsh (by omega)) hsh hin hdg (go h hls hal (ov_av_c trivial (ov_av_t (ov_av_t has))))
    · have hr17 : r = 17 := by
        rcases hl1 with h5 | ⟨-, h5⟩
        · have := (hR.2.2.1 r 0 h5).2.2 _ _ _ _ hsh
          omega
        · rcases h5 with rfl | rfl | rfl
          · cases hsh
          · rfl
          · cases hsh
      subst hr17
      show W p l e R s m args below meth c H locs cells slots _ (F0 m pc lsA (.int x :: .ref (ad 17 0) :: t.map (ov_rv ad)))
      rw [hR.2.2.2.2.1]
      exact va_tl hx hb hwk.2.2.2.2.2.1 hS (ov_ib_in hin) rfl hdg (go h hls hal (ov_av_c trivial (ov_av_t (ov_av_t has))))
  case aaload =>
    obtain rfl := hlen 1 rfl
    replace h := ov_pI_e h
    obtain ⟨x, t, rfl, h⟩ := h
    replace h := ov_pR_e h
    obtain ⟨r, j, t, rfl, h⟩ := h
    have hl1 : ov_lv S r j := has _ (List.mem_cons_of_mem _ List.mem_cons_self)
    replace h := ov_aald_e h
    obtain ⟨tt, n, q, g, hsh, ht, hin, h⟩ := h
    have hlv := ov_lv_a hl1 hsh (by omega)
    refine ov_s_aald hx hb hwk.1 hR hlv hsh ht hin hdg (go h hls hal (ov_av_c ?_ (ov_av_t (ov_av_t has))))
    cases hb3 : (ov_g S r j (ov_ix x) != 0)
    · exact trivial
    · refine Or.inl ((hR.2.2.1 r j hlv).2.1 tt n q g (ov_ix x) hsh (by omega) ?_ (ov_flag.mp hb3))
      have h1 := hin.1
      have h2 := hin.2
      show x.toInt.toNat < n
      omega
  case iastore =>
    obtain rfl := hlen 1 rfl
    replace h := ov_pI_e h
    obtain ⟨v, t, rfl, h⟩ := h
    replace h := ov_pI_e h
    obtain ⟨x, t, rfl, h⟩ := h
    replace h := ov_pR_e h
    obtain ⟨r, j, t, rfl, h⟩ := h
    replace h := ov_arI_e h
    obtain ⟨n, q, g, hsh, hin, h⟩ := h
    have hl1 : ov_lv S r j := has _ (List.mem_cons_of_mem _ (List.mem_cons_of_mem _ List.mem_cons_self))
    exact ov_s_iast hx hb hwk.1 hR hS (ov_lv_a hl1 hsh (by omega)) hsh hin hdg (fun H1 locs1 hR1 hS1 => go2 h hS1 hR1 (fun hm => ov_full_arr (hF hm) hsh rfl (fun r' i' h => (ov_w_o h).1)) (ov_ext_rf rfl) (fun v' hv' => (ov_ext_rf (ad := ad) (S' := ov_w S r j (ov_ix x) v) rfl).av (ov_av_t (ov_av_t (ov_av_t has)) v' hv')) hc1 hs1)
  case castore =>
    obtain rfl := hlen 1 rfl
    replace h := ov_pI_e h
    obtain ⟨v, t, rfl, h⟩ := h
    replace h := ov_pI_e h
    obtain ⟨x, t, rfl, h⟩ := h
    replace h := ov_pR_e h
    obtain ⟨r, j, t, rfl, h⟩ := h
    replace h := ov_arI_e h
    obtain ⟨n, q, g, hsh, hin, h⟩ := h
    have hl1 : ov_lv S r j := has _ (List.mem_cons_of_mem _ (List.mem_cons_of_mem _ List.mem_cons_self))
    exact ov_s_cast hx hb hwk.1 hR hS (ov_lv_a hl1 hsh (by omega)) hsh hin hdg (fun H1 locs1 hR1 hS1 => go2 h hS1 hR1 (fun hm => ov_full_arr (hF hm) hsh rfl (fun r' i' h => (ov_w_o h).1)) (ov_ext_rf rfl) (fun v' hv' => (ov_ext_rf (ad := ad) (S' := ov_w S r j (ov_ix x) (vp_nar .char v)) rfl).av (ov_av_t (ov_av_t (ov_av_t has)) v' hv')) hc1 hs1)
  case lastore =>
    obtain rfl := hlen 1 rfl
    replace h := ov_pL_e h
    obtain ⟨v, t, rfl, h⟩ := h
    replace h := ov_pI_e h
    obtain ⟨x, t, rfl, h⟩ := h
    replace h := ov_pR_e h
    obtain ⟨r, j, t, rfl, h⟩ := h
    replace h := ov_arI_e h
    obtain ⟨n, q, g, hsh, hin, h⟩ := h
    have hl1 : ov_lv S r j := has _ (List.mem_cons_of_mem _ (List.mem_cons_of_mem _ List.mem_cons_self))
    exact ov_s_last hx hb hwk.1 hR hS (ov_lv_a hl1 hsh (by omega)) hsh hin hdg (fun H1 locs1 hR1 hS1 => go2 h hS1 hR1 (fun hm => ov_full_arr (hF hm) hsh rfl (fun r' i' h => (ov_wl_o h).1)) (ov_ext_rf rfl) (fun v' hv' => (ov_ext_rf (ad := ad) (S' := ov_wl S r j (ov_ix x) v) rfl).av (ov_av_t (ov_av_t (ov_av_t has)) v' hv')) hc1 hs1)
  case aastore =>
    obtain rfl := hlen 1 rfl
    replace h := ov_pR_e h
    obtain ⟨q1, j1, t, rfl, h⟩ := h
    replace h := ov_pI_e h
    obtain ⟨x, t, rfl, h⟩ := h
    replace h := ov_pR_e h
    obtain ⟨r, j, t, rfl, h⟩ := h
    replace h := ov_aast_e h
    obtain ⟨tt, n, q, g, hsh, ht, hin, rfl, rfl, h⟩ := h
    have hl1 : ov_lv S r j := has _ (List.mem_cons_of_mem _ (List.mem_cons_of_mem _ List.mem_cons_self))
    have hl2 : ov_lv S q1 (g j (ov_ix x)) := has _ List.mem_cons_self
    have hl3 : (q1, g j (ov_ix x)) ∈ S.2.2.1 := by
      rcases ht with rfl | rfl
      · obtain ⟨f8, h8⟩ := (ov_arr hsh).2.1 rfl
        exact ov_lv_o hl2 h8
      · obtain ⟨f8, h8⟩ := (ov_arr hsh).2.2 rfl
        exact ov_lv_o hl2 h8
    exact ov_s_aast hx hb hwk.1 hR hS (ov_lv_a hl1 hsh (by omega)) hsh ht hin hl3 hdg (fun H1 locs1 hR1 hS1 => go2 h hS1 hR1 (fun hm => ov_full_arr (hF hm) hsh rfl (fun r' i' h => (ov_w_o h).1)) (ov_ext_rf rfl) (fun v' hv' => (ov_ext_rf (ad := ad) (S' := ov_w S r j (ov_ix x) 1) rfl).av (ov_av_t (ov_av_t (ov_av_t has)) v' hv')) hc1 hs1)
  case arraylength =>
    obtain rfl := hlen 1 rfl
    replace h := ov_pR_e h
    obtain ⟨r, j, t, rfl, h⟩ := h
    obtain ⟨rfl, h⟩ := h
    have hl1 : ov_lv S r 0 := has _ List.mem_cons_self
    replace h := ov_len_e h
    rcases h with ⟨n, q, g, hsh, h⟩ | ⟨tt, n, q, g, hsh, ht, h⟩
    · have hr16 : r = 16 := by
        rcases hl1 with h5 | ⟨-, h5⟩
        · have := (hR.2.2.1 r 0 h5).2.2 _ _ _ _ hsh
          omega
        · rcases h5 with rfl | rfl | rfl
          · rfl
          · cases hsh
          · cases hsh
      subst hr16
      have hX := hwk.2.2.2.2.2.2.1
      have hsc := hR.2.2.2.2.2.2
      have e1 : S.2.2.2.1 = L := by rw [hsc]
      rw [e1] at h
      show W p l e R s m args below meth c H locs cells slots _ (F0 m pc lsA (.ref (ad 16 0) :: t.map (ov_rv ad)))
      rw [hR.2.2.2.1]
      exact va_slen hx hb hX (Nat.lt_of_lt_of_le hwk.2.2.2.2.2.2.2.1 hwk.2.2.2.2.2.2.2.2.1) (fun q => absurd hwk.2.2.2.2.2.2.2.1 (Nat.not_lt.mpr q)) hS hdg (go h hls hal (ov_av_c trivial (ov_av_t has)))
    · obtain ⟨q0, hq, hw⟩ := ov_at_ws (cA := cA) (ad := ad) (ov_lv_a hl1 hsh (by omega))
      rw [ov_ce_arr hsh] at hw
      have hty : ∃ ty, (ov_tys cA)[tt]? = some (cA tt, ty) := by
        rcases (show tt = 0 ∨ tt = 1 ∨ tt = 2 by omega) with rfl | rfl | rfl <;> exact ⟨_, rfl⟩
      obtain ⟨ty, hty⟩ := hty
      exact va_alen hx hb hwk.1 hR.1 q0 tt hw hty rfl hdg (go h hls hal (ov_av_c trivial (ov_av_t has)))
  case invokestatic i =>
    obtain rfl := hlen 3 rfl
    split at h
    · rename_i k hlm
      replace h := ov_pk_e _ _ _ h
      obtain ⟨bs, t, hbn, rfl, h⟩ := h
      rw [List.append_nil] at h
      replace h := ov_call_e h
      obtain ⟨hrm, hd0, a', b', ha', hb', h⟩ := h
      refine ov_s_run (ov_s_call hZ hE hS hR hF hsz hd0 hrm (fun v hv => has v (by simp [hv])) (by omega) (by omega) hlm h (Or.inl ⟨Or.inl rfl, hdg, hbn⟩)) hS ?_
      intro r S' ad' H1 locs1 k1 k2 k3 k4 k5 k6
      have h9 := k2.avs (st := t) (fun v hv => has v (by simp [hv]))
      rw [← h9.2, ← ov_stk]
      refine go2 k5 k6 k1 k4 k2 ?_ (by omega) (by omega)
      intro v hv
      rcases List.mem_append.mp hv with hv | hv
      · exact k3 v (by simpa using hv)
      · exact h9.1 v hv
    · rename_i k hlm
      replace h := ov_pk_e _ _ _ h
      obtain ⟨bs, t, hbn, rfl, h⟩ := h
      rw [List.append_nil] at h
      replace h := ov_call_e h
      obtain ⟨hrm, hd0, a', b', ha', hb', h⟩ := h
      refine ov_s_run (ov_s_call hZ hE hS hR hF hsz hd0 hrm (fun v hv => has v (by simp [hv])) (by omega) (by omega) hlm h (Or.inl ⟨Or.inr rfl, hdg, hbn⟩)) hS ?_
      intro r S' ad' H1 locs1 k1 k2 k3 k4 k5 k6
      have h9 := k2.avs (st := t) (fun v hv => has v (by simp [hv]))
      rw [← h9.2, ← ov_stk]
      refine go2 k5 k6 k1 k4 k2 ?_ (by omega) (by omega)
      intro v hv
      rcases List.mem_append.mp hv with hv | hv
      · exact k3 v (by simpa using hv)
      · exact h9.1 v hv
    · rename_i k hlm
      replace h := ov_pI_e h
      obtain ⟨n, t, rfl, h⟩ := h
      replace h := ov_pI_e h
      obtain ⟨dp, t, rfl, h⟩ := h
      replace h := ov_pR_e h
      obtain ⟨r1, j1, t, rfl, h⟩ := h
      replace h := ov_pI_e h
      obtain ⟨sp, t, rfl, h⟩ := h
      replace h := ov_pR_e h
      obtain ⟨r, j, t, rfl, h⟩ := h
      replace h := ov_rs_e h
      obtain ⟨hrs, hd0, h⟩ := h
      replace h := ov_copy_e h
      obtain ⟨n0, q, g, n1, q1, g1, hsh, hsh1, hh, h⟩ := h
      obtain ⟨-, pq, hchk⟩ := ov_lm_ok hlm
      have hl1 : ov_lv S r1 j1 := has (.inr (.inr (true, r1, j1))) (by simp)
      have hl2 : ov_lv S r j := has (.inr (.inr (true, r, j))) (by simp)
      exact ov_s_copy hx hb hmlA hts hown hwk.1 hR hS (ov_i1_e hchk) (ov_lv_a hl2 hsh (by omega)) hsh (ov_lv_a hl1 hsh1 (by omega)) hsh1 hh (by omega) (by rw [ov_words]; omega) hdg (fun H1 locs1 hR1 hS1 => go2 h hS1 hR1 (fun hm => ov_full_arr (hF hm) hsh1 rfl (fun r' i' h => (ov_wa_o h).1)) (ov_ext_rf rfl) (fun v' hv' => (ov_ext_rf (ad := ad) (S' := ov_wa S r1 j1 (va_cpy (S.1 r j) (S.1 r1 j1) (ov_ix sp) (ov_ix dp) (ov_ix n))) rfl).av (has v' (by simp [hv']))) hc1 hs1)
    · rename_i k hlm
      replace h := ov_pI_e h
      obtain ⟨w, t, rfl, h⟩ := h
      replace h := ov_pI_e h
      obtain ⟨v, t, rfl, h⟩ := h
      replace h := ov_rs_e h
      obtain ⟨hrs, hd0, h⟩ := h
      obtain ⟨-, pq, hchk⟩ := ov_lm_ok hlm
      exact va_mmax hx hb hmlA hown (hts _ (ov_i1_e hchk)) (hts _ ov_w_m1) (hts _ ov_w_m0) (hts _ ov_w_m3) (by omega) (by rw [ov_words]; omega) (by omega) (by omega) hdg (go h hls hal (ov_av_c trivial (ov_av_t (ov_av_t has))))
    · rename_i k hlm
      replace h := ov_pI_e h
      obtain ⟨w, t, rfl, h⟩ := h
      replace h := ov_pI_e h
      obtain ⟨v, t, rfl, h⟩ := h
      replace h := ov_rs_e h
      obtain ⟨hrs, hd0, h⟩ := h
      obtain ⟨-, pq, hchk⟩ := ov_lm_ok hlm
      exact va_mmin hx hb hmlA hown (hts _ (ov_i1_e hchk)) (hts _ ov_w_m2) (hts _ ov_w_m0) (hts _ ov_w_m4) (by omega) (by rw [ov_words]; omega) (by omega) (by omega) hdg (go h hls hal (ov_av_c trivial (ov_av_t (ov_av_t has))))
    · exact h.elim
  case invokevirtual i =>
    obtain rfl := hlen 3 rfl
    split at h
    · rename_i k hlm
      replace h := ov_pk_e _ _ _ h
      obtain ⟨bs, t, hbn, rfl, h⟩ := h
      rw [List.append_nil] at h
      replace h := ov_pR_e h
      obtain ⟨r, j, t, rfl, h⟩ := h
      split at h
      · rename_i c2 f2 hsh
        split at h
        · rename_i e2
          have e2 := Nat.eq_of_beq_eq_true e2
          replace h := ov_call_e h
          obtain ⟨hrm, hd0, a', b', ha', hb', h⟩ := h
          have hrv : ((bs.reverse ++ .inr (.inr (true, r, j)) :: t : List ov_A)).map (ov_rv ad) = (((.inr (.inr (true, r, j)) :: bs : List ov_A)).reverse ++ t).map (ov_rv ad) := by simp
          rw [hrv]
          refine ov_s_run (ov_s_call hZ hE hS hR hF hsz hd0 hrm (fun v hv => has v (by rcases List.mem_cons.mp hv with rfl | hv <;> simp [*])) (by omega) (by omega) hlm h (Or.inr ⟨r, j, bs, c2, f2, rfl, hbn, hsh, e2, Or.inl ⟨Or.inl rfl, hdg⟩⟩)) hS ?_
          intro r2 S' ad' H1 locs1 k1 k2 k3 k4 k5 k6
          have h9 := k2.avs (st := t) (fun v hv => has v (by simp [hv]))
          rw [← h9.2, ← ov_stk]
          refine go2 k5 k6 k1 k4 k2 ?_ (by omega) (by omega)
          intro v hv
          rcases List.mem_append.mp hv with hv | hv
          · exact k3 v (by simpa using hv)
          · exact h9.1 v hv
        · exact h.elim
      · exact h.elim
    · rename_i k hlm
      replace h := ov_pk_e _ _ _ h
      obtain ⟨bs, t, hbn, rfl, h⟩ := h
      rw [List.append_nil] at h
      replace h := ov_pR_e h
      obtain ⟨r, j, t, rfl, h⟩ := h
      split at h
      · rename_i c2 f2 hsh
        split at h
        · rename_i e2
          have e2 := Nat.eq_of_beq_eq_true e2
          replace h := ov_call_e h
          obtain ⟨hrm, hd0, a', b', ha', hb', h⟩ := h
          have hrv : ((bs.reverse ++ .inr (.inr (true, r, j)) :: t : List ov_A)).map (ov_rv ad) = (((.inr (.inr (true, r, j)) :: bs : List ov_A)).reverse ++ t).map (ov_rv ad) := by simp
          rw [hrv]
          refine ov_s_run (ov_s_call hZ hE hS hR hF hsz hd0 hrm (fun v hv => has v (by rcases List.mem_cons.mp hv with rfl | hv <;> simp [*])) (by omega) (by omega) hlm h (Or.inr ⟨r, j, bs, c2, f2, rfl, hbn, hsh, e2, Or.inl ⟨Or.inr rfl, hdg⟩⟩)) hS ?_
          intro r2 S' ad' H1 locs1 k1 k2 k3 k4 k5 k6
          have h9 := k2.avs (st := t) (fun v hv => has v (by simp [hv]))
          rw [← h9.2, ← ov_stk]
          refine go2 k5 k6 k1 k4 k2 ?_ (by omega) (by omega)
          intro v hv
          rcases List.mem_append.mp hv with hv | hv
          · exact k3 v (by simpa using hv)
          · exact h9.1 v hv
        · exact h.elim
      · exact h.elim
    · rename_i k hlm
      replace h := ov_pR_e h
      obtain ⟨r, j, t, rfl, h⟩ := h
      replace h := ov_rs_e h
      obtain ⟨hrs, rfl, rfl, hd0, h⟩ := h
      obtain ⟨-, pq, hchk⟩ := ov_lm_ok hlm
      have h2 : _ ∧ _ := Bool.and_eq_true _ _ ▸ hchk
      have e1 : y.1 = 5 := of_decide_eq_true h2.1
      have hown5 : s.vm.findClass "OneEye$Reader" = some m.cls := by rw [e1] at hown; exact hown
      have hlk5 : (Cond.methodLink "OneEye$Reader" i ⟨"java/lang/String", "length", "()I"⟩).before args s = true := by
        have := hts _ (ov_i1_e h2.2)
        rw [e1] at this
        exact this
      show W p l e R s m args below meth c H locs cells slots _ (F0 m pc lsA (.ref (ad 18 0) :: t.map (ov_rv ad)))
      rw [hR.2.2.2.2.2.1]
      refine (hHS p e R s m args below meth c H locs cells slots _ _ _ pc lsA _ ⟨hx, hb, hml, hown5, hts⟩ hwk.2.2.2.2.2.2.2.2.2 hS hsz hwk.2.2.2.2.2.2.2.2.1).2.1 i hlk5 (by rw [ov_words]; omega) (by omega) (by omega) (by omega) (by omega) hdg ?_
      intro H1 locs1 hq hz hS1
      have hR1 : ov_rep D cA z bS tS aS L xs ad S H1 := ⟨hR.1.kept (fun k q hk => hq _ (hR.1 k q hk).lt), hR.2⟩
      exact go2 (st' := .inl 50 :: t) h hS1 hR1 hF (ov_ext_rf rfl) (ov_av_c trivial (ov_av_t has)) hc1 hs1
    · rename_i k hlm
      replace h := ov_pI_e h
      obtain ⟨x, t, rfl, h⟩ := h
      replace h := ov_pR_e h
      obtain ⟨r, j, t, rfl, h⟩ := h
      replace h := ov_rs_e h
      obtain ⟨hrs, rfl, rfl, hd0, hin, h⟩ := h
      obtain ⟨-, pq, hchk⟩ := ov_lm_ok hlm
      have h2 : _ ∧ _ := Bool.and_eq_true _ _ ▸ hchk
      have e1 : y.1 = 5 := of_decide_eq_true h2.1
      have hown5 : s.vm.findClass "OneEye$Reader" = some m.cls := by rw [e1] at hown; exact hown
      have hlk5 : (Cond.methodLink "OneEye$Reader" i ⟨"java/lang/String", "charAt", "(I)C"⟩).before args s = true := by
        have := hts _ (ov_i1_e h2.2)
        rw [e1] at this
        exact this
      show W p l e R s m args below meth c H locs cells slots _ (F0 m pc lsA (.int x :: .ref (ad 18 0) :: t.map (ov_rv ad)))
      rw [hR.2.2.2.2.2.1]
      refine (hHS p e R s m args below meth c H locs cells slots _ _ _ pc lsA _ ⟨hx, hb, hml, hown5, hts⟩ hwk.2.2.2.2.2.2.2.2.2 hS hsz hwk.2.2.2.2.2.2.2.2.1).2.2 i x hlk5 (by rw [ov_words]; omega) (by omega) (by omega) (by omega) (by omega) hin hdg ?_
      intro H1 locs1 hq hz hS1
      have hR1 : ov_rep D cA z bS tS aS L xs ad S H1 := ⟨hR.1.kept (fun k q hk => hq _ (hR.1 k q hk).lt), hR.2⟩
      exact go2 (st' := .inl (ov_wd (ov_ix x)) :: t) h hS1 hR1 hF (ov_ext_rf rfl) (ov_av_c trivial (ov_av_t (ov_av_t has))) hc1 hs1
    · exact h.elim
  case invokespecial i =>
    obtain rfl := hlen 3 rfl
    split at h
    · rename_i k hlm
      replace h := ov_pk_e _ _ _ h
      obtain ⟨bs, t, hbn, rfl, h⟩ := h
      rw [List.append_nil] at h
      replace h := ov_pR_e h
      obtain ⟨r, j, t, rfl, h⟩ := h
      split at h
      · rename_i c2 f2 hsh
        split at h
        · rename_i e2
          have e2 := Nat.eq_of_beq_eq_true e2
          replace h := ov_call_e h
          obtain ⟨hrm, hd0, a', b', ha', hb', h⟩ := h
          have hrv : ((bs.reverse ++ .inr (.inr (true, r, j)) :: t : List ov_A)).map (ov_rv ad) = (((.inr (.inr (true, r, j)) :: bs : List ov_A)).reverse ++ t).map (ov_rv ad) := by simp
          rw [hrv]
          refine ov_s_run (ov_s_call hZ hE hS hR hF hsz hd0 hrm (fun v hv => has v (by rcases List.mem_cons.mp hv with rfl | hv <;> simp [*])) (by omega) (by omega) hlm h (Or.inr ⟨r, j, bs, c2, f2, rfl, hbn, hsh, e2, Or.inr ⟨Or.inl rfl, hdg⟩⟩)) hS ?_
          intro r2 S' ad' H1 locs1 k1 k2 k3 k4 k5 k6
          have h9 := k2.avs (st := t) (fun v hv => has v (by simp [hv]))
          rw [← h9.2, ← ov_stk]
          refine go2 k5 k6 k1 k4 k2 ?_ (by omega) (by omega)
          intro v hv
          rcases List.mem_append.mp hv with hv | hv
          · exact k3 v (by simpa using hv)
          · exact h9.1 v hv
        · exact h.elim
      · exact h.elim
    · rename_i k hlm
      replace h := ov_pk_e _ _ _ h
      obtain ⟨bs, t, hbn, rfl, h⟩ := h
      rw [List.append_nil] at h
      replace h := ov_pR_e h
      obtain ⟨r, j, t, rfl, h⟩ := h
      split at h
      · rename_i c2 f2 hsh
        split at h
        · rename_i e2
          have e2 := Nat.eq_of_beq_eq_true e2
          replace h := ov_call_e h
          obtain ⟨hrm, hd0, a', b', ha', hb', h⟩ := h
          have hrv : ((bs.reverse ++ .inr (.inr (true, r, j)) :: t : List ov_A)).map (ov_rv ad) = (((.inr (.inr (true, r, j)) :: bs : List ov_A)).reverse ++ t).map (ov_rv ad) := by simp
          rw [hrv]
          refine ov_s_run (ov_s_call hZ hE hS hR hF hsz hd0 hrm (fun v hv => has v (by rcases List.mem_cons.mp hv with rfl | hv <;> simp [*])) (by omega) (by omega) hlm h (Or.inr ⟨r, j, bs, c2, f2, rfl, hbn, hsh, e2, Or.inr ⟨Or.inr rfl, hdg⟩⟩)) hS ?_
          intro r2 S' ad' H1 locs1 k1 k2 k3 k4 k5 k6
          have h9 := k2.avs (st := t) (fun v hv => has v (by simp [hv]))
          rw [← h9.2, ← ov_stk]
          refine go2 k5 k6 k1 k4 k2 ?_ (by omega) (by omega)
          intro v hv
          rcases List.mem_append.mp hv with hv | hv
          · exact k3 v (by simpa using hv)
          · exact h9.1 v hv
        · exact h.elim
      · exact h.elim
    · rename_i k hlm
      replace h := ov_pR_e h
      obtain ⟨r, j, t, rfl, h⟩ := h
      replace h := ov_rs_e h
      obtain ⟨hrs, hd0, h⟩ := h
      obtain ⟨-, pq, hchk⟩ := ov_lm_ok hlm
      refine W.objInit hx hb hown (hts _ (ov_i1_e hchk)) (hts _ ov_w_oi) (hts _ ov_w_oc) rfl (by rw [hml]; exact hsz) rfl hdg (by omega) ?_ (go h hls hal (ov_av_t has))
      have h8 : ((t.map (ov_rv ad)).map fun v => v.category).sum ≤ 8 := by rw [ov_words]; exact hrs
      show 2 * 0 + _ + 12 ≤ _
      omega
    · exact h.elim
  case ireturn =>
    obtain rfl := hlen 1 rfl
    replace h := ov_pI_e h
    obtain ⟨x, t, rfl, h⟩ := h
    split at h
    · replace h := ov_rt_e h
      obtain ⟨hr, h⟩ := h
      replace h := ov_ret_e h
      obtain ⟨rfl, h⟩ := h
      refine W.widen (k := mc) (n := ms) (by omega) (by omega) ?_
      rcases hr with hr | ⟨hr, hx01⟩
      · exact W.iret hx hb (hret.trans hr) (fun t ht hW => ⟨⟨some (.inl x), S, ad, rfl, by rw [ht]; exact hR, ov_ext_rf rfl, fun v hv => by cases hv; trivial, hF, h⟩, hS.F ht⟩) hS.2.2 hdg hlk
      · exact W.zret hx hb (hret.trans hr) (by rcases hx01 with rfl | rfl <;> rfl) (fun t ht hW => ⟨⟨some (.inl x), S, ad, rfl, by rw [ht]; exact hR, ov_ext_rf rfl, fun v hv => by cases hv; trivial, hF, h⟩, hS.F ht⟩) hS.2.2 hdg hlk
    · exact h.elim
  case areturn =>
    obtain rfl := hlen 1 rfl
    replace h := ov_pN_e h
    obtain ⟨b', r, j, t, rfl, h⟩ := h
    split at h
    · replace h := ov_ra_e h
      obtain ⟨hro, rfl, h⟩ := h
      refine W.widen (k := mc) (n := ms) (by omega) (by omega) ?_
      obtain ⟨ty, hty, hobj⟩ := hro
      have hvv : ov_rv ad (.inr (.inr (b', r, j))) = .null ∨ ∃ a, ov_rv ad (.inr (.inr (b', r, j))) = .ref a := by
        cases b'
        · exact Or.inl rfl
        · exact Or.inr ⟨_, rfl⟩
      exact W.aret hx hb (hret.trans hty) hobj hvv (fun t ht hW => ⟨⟨some (.inr (.inr (b', r, j))), S, ad, rfl, by rw [ht]; exact hR, ov_ext_rf rfl, fun v hv => by cases hv; exact has _ List.mem_cons_self, hF, h⟩, hS.F ht⟩) hS.2.2 hdg hlk
    · exact h.elim
  case return_ =>
    obtain rfl := hlen 1 rfl
    split at h
    · replace h := ov_rn_e h
      obtain ⟨hr, rfl, h⟩ := h
      refine W.widen (k := mc) (n := ms) (by omega) (by omega) ?_
      exact W.vret hx hb (hret.trans hr) (fun t ht hW => ⟨⟨none, S, ad, rfl, by rw [ht]; exact hR, ov_ext_rf rfl, (fun v hv => by cases hv), hF, h⟩, hS.F ht⟩) hS.2.2 hdg hlk
    · exact h.elim
  case new i =>
    obtain rfl := hlen 3 rfl
    split at h
    · rename_i ci hln
      obtain ⟨r, j, fks, hsh, hn, ha1, hb1, h⟩ := h
      exact ov_s_new hx hb hts hown hwk.1 hR hS (fun q hq => Nat.le_trans hwk.2.2.2.2.2.2.2.2.1 hq) hsh hn hln (by omega) (by omega) hdg (fun q H1 hR1 hS1 he => by
        have h9 := he.avs has
        rw [← h9.2]
        have e9 : Value.ref q = ov_rv (ov_ua ad r j q) (.inr (.inr (true, r, j))) := by show Value.ref q = Value.ref (ov_ua ad r j q r j); rw [ov_ua_s]
        rw [e9]
        exact go2 (st' := .inr (.inr (true, r, j)) :: st) h hS1 hR1 (fun hm => by cases hm) he (ov_av_c (Or.inl (List.mem_append_right _ List.mem_cons_self)) h9.1) (by omega) (by omega))
    · exact h.elim
  case newarray t0 =>
    obtain rfl := hlen 2 rfl
    split at h
    · replace h := ov_pI_e h
      obtain ⟨x, u, rfl, h⟩ := h
      obtain ⟨r, j, n, q, g, hsh, rfl, hn, ha1, hb1, h⟩ := h
      exact ov_s_newI hx hb hts hwk.1 hR hS (fun q hq => Nat.le_trans hwk.2.2.2.2.2.2.2.2.1 hq) hsh hn (by omega) (by omega) hdg (fun q H1 hR1 hS1 he => by
        have h9 := he.avs (ov_av_t has)
        rw [← h9.2]
        have e9 : Value.ref q = ov_rv (ov_ua ad r j q) (.inr (.inr (true, r, j))) := by show Value.ref q = Value.ref (ov_ua ad r j q r j); rw [ov_ua_s]
        rw [e9]
        exact go2 (st' := .inr (.inr (true, r, j)) :: u) h hS1 hR1 (fun hm => by cases hm) he (ov_av_c (Or.inl (List.mem_append_right _ List.mem_cons_self)) h9.1) (by omega) (by omega))
    · replace h := ov_pI_e h
      obtain ⟨x, u, rfl, h⟩ := h
      obtain ⟨r, j, n, q, g, hsh, rfl, hn, ha1, hb1, h⟩ := h
      exact ov_s_newC hx hb hts hwk.1 hR hS (fun q hq => Nat.le_trans hwk.2.2.2.2.2.2.2.2.1 hq) hsh hn (by omega) (by omega) hdg (fun q H1 hR1 hS1 he => by
        have h9 := he.avs (ov_av_t has)
        rw [← h9.2]
        have e9 : Value.ref q = ov_rv (ov_ua ad r j q) (.inr (.inr (true, r, j))) := by show Value.ref q = Value.ref (ov_ua ad r j q r j); rw [ov_ua_s]
        rw [e9]
        exact go2 (st' := .inr (.inr (true, r, j)) :: u) h hS1 hR1 (fun hm => by cases hm) he (ov_av_c (Or.inl (List.mem_append_right _ List.mem_cons_self)) h9.1) (by omega) (by omega))
    · replace h := ov_pI_e h
      obtain ⟨x, u, rfl, h⟩ := h
      obtain ⟨r, j, n, q, g, hsh, rfl, hn, ha1, hb1, h⟩ := h
      exact ov_s_newL hx hb hts hwk.1 hR hS (fun q hq => Nat.le_trans hwk.2.2.2.2.2.2.2.2.1 hq) hsh hn (by omega) (by omega) hdg (fun q H1 hR1 hS1 he => by
        have h9 := he.avs (ov_av_t has)
        rw [← h9.2]
        have e9 : Value.ref q = ov_rv (ov_ua ad r j q) (.inr (.inr (true, r, j))) := by show Value.ref q = Value.ref (ov_ua ad r j q r j); rw [ov_ua_s]
        rw [e9]
        exact go2 (st' := .inr (.inr (true, r, j)) :: u) h hS1 hR1 (fun hm => by cases hm) he (ov_av_c (Or.inl (List.mem_append_right _ List.mem_cons_self)) h9.1) (by omega) (by omega))
    · exact h.elim
  case anewarray i =>
    obtain rfl := hlen 3 rfl
    split at h
    · rename_i hln
      replace h := ov_pI_e h
      obtain ⟨x, u, rfl, h⟩ := h
      obtain ⟨r, j, n, q, g, hsh, rfl, hn, ha1, hb1, h⟩ := h
      exact ov_s_newQ (t := 3) (C := "OneEye$Three") rfl (Or.inl rfl) hx hb hts hown hwk.2.2.1 hwk.1 hR hS (fun q hq => Nat.le_trans hwk.2.2.2.2.2.2.2.2.1 hq) hsh hn (hts _ (ov_ln_ok hln)) (by omega) (by omega) hdg (fun q H1 hR1 hS1 he => by
        have h9 := he.avs (ov_av_t has)
        rw [← h9.2]
        have e9 : Value.ref q = ov_rv (ov_ua ad r j q) (.inr (.inr (true, r, j))) := by show Value.ref q = Value.ref (ov_ua ad r j q r j); rw [ov_ua_s]
        rw [e9]
        exact go2 (st' := .inr (.inr (true, r, j)) :: u) h hS1 hR1 (fun hm => by cases hm) he (ov_av_c (Or.inl (List.mem_append_right _ List.mem_cons_self)) h9.1) (by omega) (by omega))
    · rename_i hln
      replace h := ov_pI_e h
      obtain ⟨x, u, rfl, h⟩ := h
      obtain ⟨r, j, n, q, g, hsh, rfl, hn, ha1, hb1, h⟩ := h
      exact ov_s_newQ (t := 4) (C := "OneEye$Person") rfl (Or.inr rfl) hx hb hts hown hwk.2.2.2.1 hwk.1 hR hS (fun q hq => Nat.le_trans hwk.2.2.2.2.2.2.2.2.1 hq) hsh hn (hts _ (ov_ln_ok hln)) (by omega) (by omega) hdg (fun q H1 hR1 hS1 he => by
        have h9 := he.avs (ov_av_t has)
        rw [← h9.2]
        have e9 : Value.ref q = ov_rv (ov_ua ad r j q) (.inr (.inr (true, r, j))) := by show Value.ref q = Value.ref (ov_ua ad r j q r j); rw [ov_ua_s]
        rw [e9]
        exact go2 (st' := .inr (.inr (true, r, j)) :: u) h hS1 hR1 (fun hm => by cases hm) he (ov_av_c (Or.inl (List.mem_append_right _ List.mem_cons_self)) h9.1) (by omega) (by omega))
    · exact h.elim
theorem ov_sem_cl (hZ : ov_HZ z ZS) (hHS : ov_HS l z aS ZS) : ov_closed (ov_sem l D cA z bS tS aS L xs ZS) := by
  refine ⟨?_, ?_, ?_, ?_, ?_⟩
  · intro mo0 mo d a b y pc ls st S Q Q' hq h p e s m args below meth c R mc ms hE H locs cells slots ad lsA g1 g2 g3 g4 g5 g6 g7 g8
    refine ov_Wm (ov_MQm ?_) (h p e s m args below meth c R mc ms hE H locs cells slots ad lsA g1 g2 g3 g4 g5 g6 g7 g8)
    rintro o t ⟨⟨r, S2, ad2, k1, k2, k3, k4, k5, k6⟩, k7⟩
    exact ⟨⟨r, S2, ad2, k1, k2, k3, k4, k5, hq _ _ k6⟩, k7⟩
  · intro mo0 mo d a b y pc ls st S Q h
    exact ov_sem_F hZ hHS h
  · intro mo0 d a b y pc ls st S Q h p e s m args below meth c R mc ms hE H locs cells slots ad lsA g1 g2 g3 g4 g5 g6 g7 g8
    exact h (g3 rfl) p e s m args below meth c R mc ms hE H locs cells slots ad lsA g1 g2 (fun q => by cases q) g4 g5 g6 g7 g8
  · intro mo0 d a b y pc ls st S Q hf h p e s m args below meth c R mc ms hE H locs cells slots ad lsA g1 g2 g3 g4 g5 g6 g7 g8
    exact h p e s m args below meth c R mc ms hE H locs cells slots ad lsA g1 g2 (fun _ => hf) g4 g5 g6 g7 g8
  · intro mo0 mo d a b y pc ls st S Q mk h p e s m args below meth c R mc ms hE H locs cells slots ad lsA g1 g2 g3 g4 g5 g6 g7 g8
    obtain ⟨q1, q2⟩ := ov_mk_ls (ad := ad) (lsA := lsA) (nL := 0) mk ls
    refine h p e s m args below meth c R mc ms hE H locs cells slots ad lsA g1 g2 g3 ⟨q1.trans g4.1, g4.2.1, g4.2.2.1, fun i v hv => g4.2.2.2 i v (q2 i v hv)⟩ (fun v hv => ?_) g6 g7 g8
    obtain ⟨i, hi⟩ := List.getElem?_of_mem hv
    exact g5 v (List.mem_of_getElem? (q2 i v hi))
end OVN
end
section
/-- a truth as an int -/
noncomputable def ov_b (P : Prop) : Int32 := @ite _ P (Classical.propDecidable P) 1 0
theorem ov_bt {P : Prop} (h : P) : ov_b P = 1 := if_pos h
theorem ov_bf {P : Prop} (h : ¬ P) : ov_b P = 0 := if_neg h
theorem ov_b01 (P : Prop) : ov_b P = 0 ∨ ov_b P = 1 := (Classical.em P).elim (fun h => Or.inr (ov_bt h)) (fun h => Or.inl (ov_bf h))
theorem ov_b0 {P : Prop} (h : ov_b P = 0) : ¬ P := fun q => by rw [ov_bt q] at h; exact absurd h (by decide)
theorem ov_b1 {P : Prop} (h : ¬ ov_b P = 0) : P := Classical.byContradiction fun q => h (ov_bf q)
theorem ov_b2 {P : Prop} (h : ¬ ov_b P ≠ 0) : ¬ P := ov_b0 (Decidable.not_not.mp h)
theorem ov_bc {P Q : Prop} (h : P ↔ Q) : ov_b P = ov_b Q := by rw [propext h]
theorem ov_ibd {x : Int32} {n : Nat} (h : 0 ≤ x.toInt ∧ x.toInt < (n : Int)) : ov_ib x n := h
theorem ov_ib_le {x k : Int32} {n : Nat} (h0 : 0 ≤ x) (h : x ≤ k) (hk : k.toInt < n) : ov_ib x n := by
  have h1 := Int32.le_iff_toInt_le.mp h0
  have h2 := Int32.le_iff_toInt_le.mp h
  have h3 : (0 : Int32).toInt = 0 := rfl
  exact ⟨by omega, by omega⟩
theorem ov_ib_lt {x k : Int32} {n : Nat} (h0 : ¬ x < 0) (h : ¬ k ≤ x) (hk : k.toInt ≤ n) : ov_ib x n := by
  have h1 := Int32.le_iff_toInt_le.mp (Int32.not_lt.mp h0)
  have h2 := Int32.lt_iff_toInt_lt.mp (Int32.not_le.mp h)
  have h3 : (0 : Int32).toInt = 0 := rfl
  exact ⟨by omega, by omega⟩
def ov_bit (x i : Int32) : Prop := ¬ ((x >>> (i &&& 31)) &&& 1) = 0
def ov_wb (x i s : Int32) : Int32 := if s = 0 then x &&& ((1 <<< (i &&& 31)) ^^^ (-1)) else x ||| (1 <<< (i &&& 31))
def ov_mem (p x : Int32) : Int32 := if x = 0 then p / 9 else if x = 1 then (p / 3) - (p / 3) / 3 * 3 else p - p / 3 * 3
def ov_mov (p x m : Int32) : Int32 := p + (m - ov_mem p x) * (if x = 0 then 9 else if x = 1 then 3 else 1)
def ov_hol (S : ov_S) (t x : Int32) : Int32 := if ov_g S 62 0 (ov_ix (3 * t + x)) < 3 then 3 * t + ov_g S 62 0 (ov_ix (3 * t + x)) else -1
def ov_raw (S : ov_S) (k : Int32) : Int32 := if k < ov_g S 14 0 34 then ov_g S 84 0 (ov_ix k) else -1
noncomputable def ov_sort (c : Int32) : Int32 := @ite _ (c = 32 ∨ c = 10) (Classical.propDecidable _) 0 (@ite _ ((97 ≤ c ∧ c ≤ 122) ∨ (65 ≤ c ∧ c ≤ 90)) (Classical.propDecidable _) 1 (@ite _ (48 ≤ c ∧ c ≤ 57) (Classical.propDecidable _) 2 3))
noncomputable def ov_sign (S : ov_S) (k : Int32) : Int32 := @ite _ (0 ≤ k ∧ k < ov_g S 9 0 1 ∧ k < 400) (Classical.propDecidable _) (ov_g S 45 0 (ov_ix k)) (-1)
def ov_most (k : Int32) : Int32 := if k = 0 then 2 else if k = 4 then 99 else if k = 5 then 8 else 9
noncomputable def ov_tok (S : ov_S) : Int32 := @ite _ (0 ≤ ov_g S 9 0 9 ∧ ov_g S 9 0 9 ≤ ov_g S 9 0 8 - 1) (Classical.propDecidable _) (ov_g S 46 0 (ov_ix (ov_g S 9 0 9))) 12
noncomputable def ov_plc (S : ov_S) (i : Nat) (x : Int32) : Int32 := @ite _ (0 ≤ x ∧ x ≤ 2) (Classical.propDecidable _) (ov_g S 34 i (ov_ix x)) (-1)
noncomputable def ov_hof (S : ov_S) (i : Nat) (x : Int32) : Int32 := @ite _ ((0 ≤ x ∧ x ≤ 2) ∧ (0 ≤ ov_g S 34 i (ov_ix x) ∧ ov_g S 34 i (ov_ix x) ≤ 2)) (Classical.propDecidable _) (ov_g S 34 i (ov_ix x)) (-1)
noncomputable def ov_st2 (v : Int32) : Int32 := @ite _ (0 ≤ v ∧ v ≤ 2) (Classical.propDecidable _) v 0
noncomputable def ov_stp (S : ov_S) (i : Nat) (x : Int32) : Int32 := ov_st2 (if ov_plc S i x = 3 then ov_g S 6 i 11 else ov_plc S i x)
noncomputable def ov_kno (S : ov_S) (i : Nat) (f : Int32) : Int32 := @ite _ (0 ≤ f ∧ f ≤ 9) (Classical.propDecidable _) (ov_g S 35 i (ov_ix f)) (-1)
def sp_mq_Eye_within : List (Nat × List Bool) := []
theorem r_Eye_within_0 {d a b : Nat} {S : ov_S} {Q : ov_Q} {v0 : Int32} {v1 : Int32} {v2 : Int32} (h : (v0 < v1 → Q (some (.inl 0)) S) ∧ (¬ v0 < v1 → (v2 < v0 → Q (some (.inl 0)) S) ∧ (¬ v2 < v0 → Q (some (.inl 1)) S))) : ov_V true true d a b mq_Eye_within 0 [some (.inl v0), some (.inl v1), some (.inl v2)] [] S Q := ov_run sp_mq_Eye_within 400 ⟨fun c1 => ⟨Or.inl rfl, (h.1 c1)⟩, fun c1 => ⟨fun c2 => ⟨Or.inl rfl, ((h.2 c1).1 c2)⟩, fun c2 => ⟨Or.inr rfl, ((h.2 c1).2 c2)⟩⟩⟩
theorem pu_mq_Eye_within {d : Nat} {S : ov_S} {Q : ov_Q} {v l h : Int32} (hd : 0 ≤ d) (g : Q (some (.inl (ov_b (l ≤ v ∧ v ≤ h)))) S) : ov_V true true d 0 0 mq_Eye_within 0 [some (.inl v), some (.inl l), some (.inl h)] [] S Q := by
  refine r_Eye_within_0 ⟨fun c => ?_, fun c => ⟨fun c2 => ?_, fun c2 => ?_⟩⟩
  · rwa [ov_bf (fun q => absurd c (Int32.not_lt.mpr q.1))] at g
  · rwa [ov_bf (fun q => absurd c2 (Int32.not_lt.mpr q.2))] at g
  · rwa [ov_bt ⟨Int32.not_lt.mp c, Int32.not_lt.mp c2⟩] at g
def sp_mq_Eye_holdsBit : List (Nat × List Bool) := []
theorem r_Eye_holdsBit_0 {d a b : Nat} {S : ov_S} {Q : ov_Q} {v0 : Int32} {v1 : Int32} (h : (((v0 >>> (v1 &&& 31)) &&& 1) = 0 → Q (some (.inl 0)) S) ∧ (¬ ((v0 >>> (v1 &&& 31)) &&& 1) = 0 → Q (some (.inl 1)) S)) : ov_V true true d a b mq_Eye_holdsBit 0 [some (.inl v0), some (.inl v1)] [] S Q := ov_run sp_mq_Eye_holdsBit 400 ⟨fun c1 => ⟨Or.inl rfl, (h.1 c1)⟩, fun c1 => ⟨Or.inr rfl, (h.2 c1)⟩⟩
theorem pu_mq_Eye_holdsBit {d : Nat} {S : ov_S} {Q : ov_Q} {v l : Int32} (hd : 0 ≤ d) (g : Q (some (.inl (ov_b (ov_bit v l)))) S) : ov_V true true d 0 0 mq_Eye_holdsBit 0 [some (.inl v), some (.inl l)] [] S Q := by
  refine r_Eye_holdsBit_0 ⟨fun c => ?_, fun c => ?_⟩
  · rwa [ov_bf (fun q => q c)] at g
  · rwa [ov_bt (show ov_bit v l from c)] at g
def sp_mq_Eye_withBit : List (Nat × List Bool) := []
theorem r_Eye_withBit_0 {d a b : Nat} {S : ov_S} {Q : ov_Q} {v0 : Int32} {v1 : Int32} {v2 : Int32} (h : (v2 = 0 → Q (some (.inl (v0 &&& ((1 <<< (v1 &&& 31)) ^^^ (-1))))) S) ∧ (¬ v2 = 0 → Q (some (.inl (v0 ||| (1 <<< (v1 &&& 31))))) S)) : ov_V true true d a b mq_Eye_withBit 0 [some (.inl v0), some (.inl v1), some (.inl v2)] [] S Q := ov_run sp_mq_Eye_withBit 400 ⟨fun c1 => (h.1 c1), fun c1 => (h.2 c1)⟩
theorem pu_mq_Eye_withBit {d : Nat} {S : ov_S} {Q : ov_Q} {v l s : Int32} (hd : 0 ≤ d) (g : Q (some (.inl (ov_wb v l s))) S) : ov_V true true d 0 0 mq_Eye_withBit 0 [some (.inl v), some (.inl l), some (.inl s)] [] S Q := by
  refine r_Eye_withBit_0 ⟨fun c => ?_, fun c => ?_⟩
  · rwa [ov_wb, if_pos c] at g
  · rwa [ov_wb, if_neg c] at g
def sp_mq_Eye_dangerAt : List (Nat × List Bool) := []
theorem r_Eye_dangerAt_0 {d a b : Nat} {S : ov_S} {Q : ov_Q} {v0 : Int32} {v1 : Int32} {v2 : Int32} (h : Q (some (.inl ((((v0 * 3) + v1) * 3) + v2))) S) : ov_V true true d a b mq_Eye_dangerAt 0 [some (.inl v0), some (.inl v1), some (.inl v2)] [] S Q := ov_run sp_mq_Eye_dangerAt 400 h
theorem pu_mq_Eye_dangerAt {d : Nat} {S : ov_S} {Q : ov_Q} {v l s : Int32} (hd : 0 ≤ d) (g : Q (some (.inl ((v * 3 + l) * 3 + s))) S) : ov_V true true d 0 0 mq_Eye_dangerAt 0 [some (.inl v), some (.inl l), some (.inl s)] [] S Q := by
  exact r_Eye_dangerAt_0 g
def sp_mq_Mod_isIn : List (Nat × List Bool) := []
theorem r_Mod_isIn_0 {d a b : Nat} {S : ov_S} {Q : ov_Q} {v1 : Int32} {v2 : Int32} {v3 : Int32} (h : (v1 < v2 → Q (some (.inl 0)) S) ∧ (¬ v1 < v2 → (v3 < v1 → Q (some (.inl 0)) S) ∧ (¬ v3 < v1 → Q (some (.inl 1)) S))) : ov_V true true d a b mq_Mod_isIn 0 [some (.inr (.inr (true, 14, 0))), some (.inl v1), some (.inl v2), some (.inl v3)] [] S Q := ov_run sp_mq_Mod_isIn 400 ⟨fun c1 => ⟨Or.inl rfl, (h.1 c1)⟩, fun c1 => ⟨fun c2 => ⟨Or.inl rfl, ((h.2 c1).1 c2)⟩, fun c2 => ⟨Or.inr rfl, ((h.2 c1).2 c2)⟩⟩⟩
theorem pu_mq_Mod_isIn {d : Nat} {S : ov_S} {Q : ov_Q} {v l h : Int32} (hd : 0 ≤ d) (g : Q (some (.inl (ov_b (l ≤ v ∧ v ≤ h)))) S) : ov_V true true d 0 0 mq_Mod_isIn 0 [some (.inr (.inr (true, 14, 0))), some (.inl v), some (.inl l), some (.inl h)] [] S Q := by
  refine r_Mod_isIn_0 ⟨fun c => ?_, fun c => ⟨fun c2 => ?_, fun c2 => ?_⟩⟩
  · rwa [ov_bf (fun q => absurd c (Int32.not_lt.mpr q.1))] at g
  · rwa [ov_bf (fun q => absurd c2 (Int32.not_lt.mpr q.2))] at g
  · rwa [ov_bt ⟨Int32.not_lt.mp c, Int32.not_lt.mp c2⟩] at g
def sp_mq_Mod_isThree : List (Nat × List Bool) := []
theorem r_Mod_isThree_0 {d a b : Nat} {S : ov_S} {Q : ov_Q} {v1 : Int32} (h : (v1 < 0 → Q (some (.inl 0)) S) ∧ (¬ v1 < 0 → ((ov_g S 14 0 2) ≤ v1 → Q (some (.inl 0)) S) ∧ (¬ (ov_g S 14 0 2) ≤ v1 → Q (some (.inl 1)) S))) : ov_V true true d a b mq_Mod_isThree 0 [some (.inr (.inr (true, 14, 0))), some (.inl v1)] [] S Q := ov_run sp_mq_Mod_isThree 400 ⟨fun c1 => ⟨Or.inl rfl, (h.1 c1)⟩, fun c1 => ⟨fun c2 => ⟨Or.inl rfl, ((h.2 c1).1 c2)⟩, fun c2 => ⟨Or.inr rfl, ((h.2 c1).2 c2)⟩⟩⟩
theorem pu_mq_Mod_isThree {d : Nat} {S : ov_S} {Q : ov_Q} {v : Int32} (hd : 0 ≤ d) (g : Q (some (.inl (ov_b (0 ≤ v ∧ v < ov_g S 14 0 2)))) S) : ov_V true true d 0 0 mq_Mod_isThree 0 [some (.inr (.inr (true, 14, 0))), some (.inl v)] [] S Q := by
  refine r_Mod_isThree_0 ⟨fun c => ?_, fun c => ⟨fun c2 => ?_, fun c2 => ?_⟩⟩
  · rwa [ov_bf (fun q => absurd c (Int32.not_lt.mpr q.1))] at g
  · rwa [ov_bf (fun q => absurd q.2 (Int32.not_lt.mpr c2))] at g
  · rwa [ov_bt ⟨Int32.not_lt.mp c, Int32.not_le.mp c2⟩] at g
def sp_mq_Mod_isPerson : List (Nat × List Bool) := []
theorem r_Mod_isPerson_0 {d a b : Nat} {S : ov_S} {Q : ov_Q} {v1 : Int32} (h : (v1 < 0 → Q (some (.inl 0)) S) ∧ (¬ v1 < 0 → ((3 * (ov_g S 14 0 2)) ≤ v1 → Q (some (.inl 0)) S) ∧ (¬ (3 * (ov_g S 14 0 2)) ≤ v1 → Q (some (.inl 1)) S))) : ov_V true true d a b mq_Mod_isPerson 0 [some (.inr (.inr (true, 14, 0))), some (.inl v1)] [] S Q := ov_run sp_mq_Mod_isPerson 400 ⟨fun c1 => ⟨Or.inl rfl, (h.1 c1)⟩, fun c1 => ⟨fun c2 => ⟨Or.inl rfl, ((h.2 c1).1 c2)⟩, fun c2 => ⟨Or.inr rfl, ((h.2 c1).2 c2)⟩⟩⟩
theorem pu_mq_Mod_isPerson {d : Nat} {S : ov_S} {Q : ov_Q} {v : Int32} (hd : 0 ≤ d) (g : Q (some (.inl (ov_b (0 ≤ v ∧ v < 3 * ov_g S 14 0 2)))) S) : ov_V true true d 0 0 mq_Mod_isPerson 0 [some (.inr (.inr (true, 14, 0))), some (.inl v)] [] S Q := by
  refine r_Mod_isPerson_0 ⟨fun c => ?_, fun c => ⟨fun c2 => ?_, fun c2 => ?_⟩⟩
  · rwa [ov_bf (fun q => absurd c (Int32.not_lt.mpr q.1))] at g
  · rwa [ov_bf (fun q => absurd q.2 (Int32.not_lt.mpr c2))] at g
  · rwa [ov_bt ⟨Int32.not_lt.mp c, Int32.not_le.mp c2⟩] at g
def sp_mq_Mod_isThing : List (Nat × List Bool) := []
theorem r_Mod_isThing_0 {d a b : Nat} {S : ov_S} {Q : ov_Q} {v1 : Int32} (h : (v1 < 0 → Q (some (.inl 0)) S) ∧ (¬ v1 < 0 → (3 ≤ v1 → Q (some (.inl 0)) S) ∧ (¬ 3 ≤ v1 → Q (some (.inl 1)) S))) : ov_V true true d a b mq_Mod_isThing 0 [some (.inr (.inr (true, 14, 0))), some (.inl v1)] [] S Q := ov_run sp_mq_Mod_isThing 400 ⟨fun c1 => ⟨Or.inl rfl, (h.1 c1)⟩, fun c1 => ⟨fun c2 => ⟨Or.inl rfl, ((h.2 c1).1 c2)⟩, fun c2 => ⟨Or.inr rfl, ((h.2 c1).2 c2)⟩⟩⟩
theorem pu_mq_Mod_isThing {d : Nat} {S : ov_S} {Q : ov_Q} {v : Int32} (hd : 0 ≤ d) (g : Q (some (.inl (ov_b (0 ≤ v ∧ v < 3)))) S) : ov_V true true d 0 0 mq_Mod_isThing 0 [some (.inr (.inr (true, 14, 0))), some (.inl v)] [] S Q := by
  refine r_Mod_isThing_0 ⟨fun c => ?_, fun c => ⟨fun c2 => ?_, fun c2 => ?_⟩⟩
  · rwa [ov_bf (fun q => absurd c (Int32.not_lt.mpr q.1))] at g
  · rwa [ov_bf (fun q => absurd q.2 (Int32.not_lt.mpr c2))] at g
  · rwa [ov_bt ⟨Int32.not_lt.mp c, Int32.not_le.mp c2⟩] at g
def sp_mq_Mod_isFact : List (Nat × List Bool) := []
theorem r_Mod_isFact_0 {d a b : Nat} {S : ov_S} {Q : ov_Q} {v1 : Int32} (h : (v1 < 0 → Q (some (.inl 0)) S) ∧ (¬ v1 < 0 → (10 ≤ v1 → Q (some (.inl 0)) S) ∧ (¬ 10 ≤ v1 → Q (some (.inl 1)) S))) : ov_V true true d a b mq_Mod_isFact 0 [some (.inr (.inr (true, 14, 0))), some (.inl v1)] [] S Q := ov_run sp_mq_Mod_isFact 400 ⟨fun c1 => ⟨Or.inl rfl, (h.1 c1)⟩, fun c1 => ⟨fun c2 => ⟨Or.inl rfl, ((h.2 c1).1 c2)⟩, fun c2 => ⟨Or.inr rfl, ((h.2 c1).2 c2)⟩⟩⟩
theorem pu_mq_Mod_isFact {d : Nat} {S : ov_S} {Q : ov_Q} {v : Int32} (hd : 0 ≤ d) (g : Q (some (.inl (ov_b (0 ≤ v ∧ v < 10)))) S) : ov_V true true d 0 0 mq_Mod_isFact 0 [some (.inr (.inr (true, 14, 0))), some (.inl v)] [] S Q := by
  refine r_Mod_isFact_0 ⟨fun c => ?_, fun c => ⟨fun c2 => ?_, fun c2 => ?_⟩⟩
  · rwa [ov_bf (fun q => absurd c (Int32.not_lt.mpr q.1))] at g
  · rwa [ov_bf (fun q => absurd q.2 (Int32.not_lt.mpr c2))] at g
  · rwa [ov_bt ⟨Int32.not_lt.mp c, Int32.not_le.mp c2⟩] at g
def sp_mq_Mod_isLetter : List (Nat × List Bool) := [(9, [true, true]), (21, [false, false])]
theorem r_Mod_isLetter_0 {d a b : Nat} {S : ov_S} {Q : ov_Q} {v1 : Int32} (hd : 1 ≤ d) (h : ((97 ≤ v1 ∧ v1 ≤ 122) → Q (some (.inl 1)) S) ∧ (¬ (97 ≤ v1 ∧ v1 ≤ 122) → (¬ (65 ≤ v1 ∧ v1 ≤ 90) → Q (some (.inl 0)) S) ∧ ((65 ≤ v1 ∧ v1 ≤ 90) → Q (some (.inl 1)) S))) : ov_V true true d a b mq_Mod_isLetter 0 [some (.inr (.inr (true, 14, 0))), some (.inl v1)] [] S Q := ov_run sp_mq_Mod_isLetter 400 ⟨by omega, pu_mq_Mod_isIn (by omega) (ov_run sp_mq_Mod_isLetter 400 ⟨fun c1 => ⟨Or.inr rfl, (h.1 (ov_b1 c1))⟩, fun c1 => ⟨by omega, pu_mq_Mod_isIn (by omega) (ov_run sp_mq_Mod_isLetter 400 ⟨fun c2 => ⟨Or.inl rfl, ((h.2 (ov_b2 c1)).1 (ov_b0 c2))⟩, fun c2 => ⟨Or.inr rfl, ((h.2 (ov_b2 c1)).2 (ov_b1 c2))⟩⟩)⟩⟩)⟩
theorem pu_mq_Mod_isLetter {d : Nat} {S : ov_S} {Q : ov_Q} {v : Int32} (hd : 1 ≤ d) (g : Q (some (.inl (ov_b ((97 ≤ v ∧ v ≤ 122) ∨ (65 ≤ v ∧ v ≤ 90))))) S) : ov_V true true d 0 0 mq_Mod_isLetter 0 [some (.inr (.inr (true, 14, 0))), some (.inl v)] [] S Q := by
  refine r_Mod_isLetter_0 hd ⟨fun c => ?_, fun c => ⟨fun c2 => ?_, fun c2 => ?_⟩⟩
  · rwa [ov_bt (Or.inl c)] at g
  · rwa [ov_bf (fun q => q.elim c c2)] at g
  · rwa [ov_bt (Or.inr c2)] at g
def sp_mq_Mod_isDigit : List (Nat × List Bool) := [(9, [false, false])]
theorem r_Mod_isDigit_0 {d a b : Nat} {S : ov_S} {Q : ov_Q} {v1 : Int32} (hd : 1 ≤ d) (h : Q (some (.inl (ov_b (48 ≤ v1 ∧ v1 ≤ 57)))) S) : ov_V true true d a b mq_Mod_isDigit 0 [some (.inr (.inr (true, 14, 0))), some (.inl v1)] [] S Q := ov_run sp_mq_Mod_isDigit 400 ⟨by omega, pu_mq_Mod_isIn (by omega) (ov_run sp_mq_Mod_isDigit 400 ⟨ov_b01 _, h⟩)⟩
theorem pu_mq_Mod_isDigit {d : Nat} {S : ov_S} {Q : ov_Q} {v : Int32} (hd : 1 ≤ d) (g : Q (some (.inl (ov_b (48 ≤ v ∧ v ≤ 57)))) S) : ov_V true true d 0 0 mq_Mod_isDigit 0 [some (.inr (.inr (true, 14, 0))), some (.inl v)] [] S Q := by
  exact r_Mod_isDigit_0 hd g
def sp_mq_Mod_memberOf : List (Nat × List Bool) := []
theorem r_Mod_memberOf_0 {d a b : Nat} {S : ov_S} {Q : ov_Q} {v1 : Int32} {v2 : Int32} (h : (¬ v2 = 0 → (¬ v2 = 1 → Q (some (.inl (v1 - v1 / 3 * 3))) S) ∧ (v2 = 1 → Q (some (.inl ((v1 / 3) - (v1 / 3) / 3 * 3))) S)) ∧ (v2 = 0 → Q (some (.inl (v1 / 9))) S)) : ov_V true true d a b mq_Mod_memberOf 0 [some (.inr (.inr (true, 14, 0))), some (.inl v1), some (.inl v2)] [] S Q := ov_run sp_mq_Mod_memberOf 400 ⟨fun c1 => ⟨fun c2 => ⟨by decide, ((h.1 c1).1 c2)⟩, fun c2 => ⟨by decide, ⟨by decide, ((h.1 c1).2 (Decidable.not_not.mp c2))⟩⟩⟩, fun c1 => ⟨by decide, (h.2 (Decidable.not_not.mp c1))⟩⟩
theorem pu_mq_Mod_memberOf {d : Nat} {S : ov_S} {Q : ov_Q} {v x : Int32} (hd : 0 ≤ d) (g : Q (some (.inl (ov_mem v x))) S) : ov_V true true d 0 0 mq_Mod_memberOf 0 [some (.inr (.inr (true, 14, 0))), some (.inl v), some (.inl x)] [] S Q := by
  refine r_Mod_memberOf_0 ⟨fun c => ⟨fun c2 => ?_, fun c2 => ?_⟩, fun c => ?_⟩
  · rwa [ov_mem, if_neg c, if_neg c2] at g
  · rwa [ov_mem, if_neg c, if_pos c2] at g
  · rwa [ov_mem, if_pos c] at g
def sp_mq_Mod_movedTo : List (Nat × List Bool) := [(8, [false, false, true, false])]
theorem r_Mod_movedTo_0 {d a b : Nat} {S : ov_S} {Q : ov_Q} {v1 : Int32} {v2 : Int32} {v3 : Int32} (hd : 1 ≤ d) (h : (¬ v2 = 0 → (¬ v2 = 1 → Q (some (.inl (v1 + ((v3 - (ov_mem v1 v2)) * 1)))) S) ∧ (v2 = 1 → Q (some (.inl (v1 + ((v3 - (ov_mem v1 v2)) * 3)))) S)) ∧ (v2 = 0 → Q (some (.inl (v1 + ((v3 - (ov_mem v1 v2)) * 9)))) S)) : ov_V true true d a b mq_Mod_movedTo 0 [some (.inr (.inr (true, 14, 0))), some (.inl v1), some (.inl v2), some (.inl v3)] [] S Q := ov_run sp_mq_Mod_movedTo 400 ⟨by omega, pu_mq_Mod_memberOf (by omega) (ov_run sp_mq_Mod_movedTo 400 ⟨fun c1 => ⟨fun c2 => ((h.1 c1).1 c2), fun c2 => ((h.1 c1).2 (Decidable.not_not.mp c2))⟩, fun c1 => (h.2 (Decidable.not_not.mp c1))⟩)⟩
theorem pu_mq_Mod_movedTo {d : Nat} {S : ov_S} {Q : ov_Q} {v x m : Int32} (hd : 1 ≤ d) (g : Q (some (.inl (ov_mov v x m))) S) : ov_V true true d 0 0 mq_Mod_movedTo 0 [some (.inr (.inr (true, 14, 0))), some (.inl v), some (.inl x), some (.inl m)] [] S Q := by
  refine r_Mod_movedTo_0 hd ⟨fun c => ⟨fun c2 => ?_, fun c2 => ?_⟩, fun c => ?_⟩
  · rwa [ov_mov, if_neg c, if_neg c2] at g
  · rwa [ov_mov, if_neg c, if_pos c2] at g
  · rwa [ov_mov, if_pos c] at g
def sp_mq_Mod_stateOf : List (Nat × List Bool) := []
theorem r_Mod_stateOf_0 {d a b : Nat} {S : ov_S} {Q : ov_Q} {v1 : Int32} {v2 : Int32} {v3 : Int32} (h : Q (some (.inl (((729 * v3) + (27 * v1)) + v2))) S) : ov_V true true d a b mq_Mod_stateOf 0 [some (.inr (.inr (true, 14, 0))), some (.inl v1), some (.inl v2), some (.inl v3)] [] S Q := ov_run sp_mq_Mod_stateOf 400 h
theorem pu_mq_Mod_stateOf {d : Nat} {S : ov_S} {Q : ov_Q} {v x m : Int32} (hd : 0 ≤ d) (g : Q (some (.inl (729 * m + 27 * v + x))) S) : ov_V true true d 0 0 mq_Mod_stateOf 0 [some (.inr (.inr (true, 14, 0))), some (.inl v), some (.inl x), some (.inl m)] [] S Q := by
  exact r_Mod_stateOf_0 g
def sp_mq_Mod_thing : List (Nat × List Bool) := []
theorem r_Mod_thing_0 {d a b : Nat} {S : ov_S} {Q : ov_Q} {v1 : Int32} {v2 : Int32} (h : ov_ib ((3 * v1) + v2) 12 ∧ (Q (some (.inl (ov_g S 62 0 (ov_ix ((3 * v1) + v2))))) S)) : ov_V true true d a b mq_Mod_thing 0 [some (.inr (.inr (true, 14, 0))), some (.inl v1), some (.inl v2)] [] S Q := ov_run sp_mq_Mod_thing 400 ⟨h.1, h.2⟩
theorem pu_mq_Mod_thing {d : Nat} {S : ov_S} {Q : ov_Q} {v x : Int32} (hd : 0 ≤ d) (hp : ov_ib (3 * v + x) 12) (g : Q (some (.inl (ov_g S 62 0 (ov_ix (3 * v + x))))) S) : ov_V true true d 0 0 mq_Mod_thing 0 [some (.inr (.inr (true, 14, 0))), some (.inl v), some (.inl x)] [] S Q := by
  exact r_Mod_thing_0 ⟨hp, g⟩
def sp_mq_Mod_holder : List (Nat × List Bool) := [(6, [true, true, true]), (19, [false, false, false])]
theorem r_Mod_holder_0 {d a b : Nat} {S : ov_S} {Q : ov_Q} {v1 : Int32} {v2 : Int32} (hd : 1 ≤ d) (h : ov_ib (3 * v1 + v2) 12 ∧ ((3 ≤ (ov_g S 62 0 (ov_ix (3 * v1 + v2))) → Q (some (.inl (-1))) S) ∧ (¬ 3 ≤ (ov_g S 62 0 (ov_ix (3 * v1 + v2))) → ov_ib (3 * v1 + v2) 12 ∧ (Q (some (.inl ((3 * v1) + (ov_g S 62 0 (ov_ix (3 * v1 + v2)))))) S)))) : ov_V true true d a b mq_Mod_holder 0 [some (.inr (.inr (true, 14, 0))), some (.inl v1), some (.inl v2)] [] S Q := ov_run sp_mq_Mod_holder 400 ⟨by omega, pu_mq_Mod_thing (by omega) h.1 (ov_run sp_mq_Mod_holder 400 ⟨fun c1 => (h.2.1 c1), fun c1 => ⟨by omega, pu_mq_Mod_thing (by omega) (h.2.2 c1).1 (ov_run sp_mq_Mod_holder 400 (h.2.2 c1).2)⟩⟩)⟩
theorem pu_mq_Mod_holder {d : Nat} {S : ov_S} {Q : ov_Q} {v x : Int32} (hd : 1 ≤ d) (hp : ov_ib (3 * v + x) 12) (g : Q (some (.inl (ov_hol S v x))) S) : ov_V true true d 0 0 mq_Mod_holder 0 [some (.inr (.inr (true, 14, 0))), some (.inl v), some (.inl x)] [] S Q := by
  refine r_Mod_holder_0 hd ⟨hp, fun c => ?_, fun c => ⟨hp, ?_⟩⟩
  · rwa [ov_hol, if_neg (Int32.not_lt.mpr c)] at g
  · rwa [ov_hol, if_pos (Int32.not_le.mp c)] at g
def sp_mq_Mod_raw : List (Nat × List Bool) := []
theorem r_Mod_raw_0 {d a b : Nat} {S : ov_S} {Q : ov_Q} {v1 : Int32} (h : ((ov_g S 14 0 34) ≤ v1 → Q (some (.inl (-1))) S) ∧ (¬ (ov_g S 14 0 34) ≤ v1 → ov_ib v1 400 ∧ (Q (some (.inl (ov_g S 84 0 (ov_ix v1)))) S))) : ov_V true true d a b mq_Mod_raw 0 [some (.inr (.inr (true, 14, 0))), some (.inl v1)] [] S Q := ov_run sp_mq_Mod_raw 400 ⟨fun c1 => (h.1 c1), fun c1 => ⟨(h.2 c1).1, (h.2 c1).2⟩⟩
theorem pu_mq_Mod_raw {d : Nat} {S : ov_S} {Q : ov_Q} {v : Int32} (hd : 0 ≤ d) (hp : v < ov_g S 14 0 34 → ov_ib v 400) (g : Q (some (.inl (ov_raw S v))) S) : ov_V true true d 0 0 mq_Mod_raw 0 [some (.inr (.inr (true, 14, 0))), some (.inl v)] [] S Q := by
  refine r_Mod_raw_0 ⟨fun c => ?_, fun c => ⟨hp (Int32.not_le.mp c), ?_⟩⟩
  · rwa [ov_raw, if_neg (Int32.not_lt.mpr c)] at g
  · rwa [ov_raw, if_pos (Int32.not_le.mp c)] at g
def sp_mq_Reader_sortOf : List (Nat × List Bool) := [(22, [true]), (33, [true]), (46, [false])]
theorem r_Reader_sortOf_0 {d a b : Nat} {S : ov_S} {Q : ov_Q} {v0 : Int32} (hd : 1 ≤ d) (h : (v0 = 32 → Q (some (.inl 0)) S) ∧ (¬ v0 = 32 → (¬ v0 = 10 → ((97 ≤ v0 ∧ v0 ≤ 122) → Q (some (.inl 1)) S) ∧ (¬ (97 ≤ v0 ∧ v0 ≤ 122) → (¬ (65 ≤ v0 ∧ v0 ≤ 90) → (¬ (48 ≤ v0 ∧ v0 ≤ 57) → Q (some (.inl 3)) S) ∧ ((48 ≤ v0 ∧ v0 ≤ 57) → Q (some (.inl 2)) S)) ∧ ((65 ≤ v0 ∧ v0 ≤ 90) → Q (some (.inl 1)) S))) ∧ (v0 = 10 → Q (some (.inl 0)) S))) : ov_V true true d a b mq_Reader_sortOf 0 [some (.inl v0)] [] S Q := ov_run sp_mq_Reader_sortOf 400 ⟨fun c1 => (h.1 c1), fun c1 => ⟨fun c2 => ⟨by omega, pu_mq_Eye_within (by omega) (ov_run sp_mq_Reader_sortOf 400 ⟨fun c3 => (((h.2 c1).1 c2).1 (ov_b1 c3)), fun c3 => ⟨by omega, pu_mq_Eye_within (by omega) (ov_run sp_mq_Reader_sortOf 400 ⟨fun c4 => ⟨by omega, pu_mq_Eye_within (by omega) (ov_run sp_mq_Reader_sortOf 400 ⟨fun c5 => (((((h.2 c1).1 c2).2 (ov_b2 c3)).1 (ov_b0 c4)).1 (ov_b0 c5)), fun c5 => (((((h.2 c1).1 c2).2 (ov_b2 c3)).1 (ov_b0 c4)).2 (ov_b1 c5))⟩)⟩, fun c4 => ((((h.2 c1).1 c2).2 (ov_b2 c3)).2 (ov_b1 c4))⟩)⟩⟩)⟩, fun c2 => ((h.2 c1).2 (Decidable.not_not.mp c2))⟩⟩
theorem pu_mq_Reader_sortOf {d : Nat} {S : ov_S} {Q : ov_Q} {v : Int32} (hd : 1 ≤ d) (g : Q (some (.inl (ov_sort v))) S) : ov_V true true d 0 0 mq_Reader_sortOf 0 [some (.inl v)] [] S Q := by
  refine r_Reader_sortOf_0 hd ⟨fun c => ?_, fun c => ⟨fun c2 => ⟨fun c3 => ?_, fun c3 => ⟨fun c4 => ⟨fun c5 => ?_, fun c5 => ?_⟩, fun c4 => ?_⟩⟩, fun c2 => ?_⟩⟩
  · rwa [ov_sort, if_pos (Or.inl c)] at g
  · rwa [ov_sort, if_neg (fun q => q.elim c c2), if_pos (Or.inl c3)] at g
  · rwa [ov_sort, if_neg (fun q => q.elim c c2), if_neg (fun q => q.elim c3 c4), if_neg c5] at g
  · rwa [ov_sort, if_neg (fun q => q.elim c c2), if_neg (fun q => q.elim c3 c4), if_pos c5] at g
  · rwa [ov_sort, if_neg (fun q => q.elim c c2), if_pos (Or.inr c4)] at g
  · rwa [ov_sort, if_pos (Or.inr c2)] at g
def sp_mq_Reader_signAt : List (Nat × List Bool) := []
theorem r_Reader_signAt_0 {d a b : Nat} {S : ov_S} {Q : ov_Q} {v1 : Int32} (h : (v1 < 0 → Q (some (.inl (-1))) S) ∧ (¬ v1 < 0 → ((ov_g S 9 0 1) ≤ v1 → Q (some (.inl (-1))) S) ∧ (¬ (ov_g S 9 0 1) ≤ v1 → (400 ≤ v1 → Q (some (.inl (-1))) S) ∧ (¬ 400 ≤ v1 → ov_ib v1 400 ∧ (Q (some (.inl (ov_g S 45 0 (ov_ix v1)))) S))))) : ov_V true true d a b mq_Reader_signAt 0 [some (.inr (.inr (true, 9, 0))), some (.inl v1)] [] S Q := ov_run sp_mq_Reader_signAt 400 ⟨fun c1 => (h.1 c1), fun c1 => ⟨fun c2 => ((h.2 c1).1 c2), fun c2 => ⟨fun c3 => (((h.2 c1).2 c2).1 c3), fun c3 => ⟨(((h.2 c1).2 c2).2 c3).1, (((h.2 c1).2 c2).2 c3).2⟩⟩⟩⟩
theorem pu_mq_Reader_signAt {d : Nat} {S : ov_S} {Q : ov_Q} {v : Int32} (hd : 0 ≤ d) (g : Q (some (.inl (ov_sign S v))) S) : ov_V true true d 0 0 mq_Reader_signAt 0 [some (.inr (.inr (true, 9, 0))), some (.inl v)] [] S Q := by
  refine r_Reader_signAt_0 ⟨fun c => ?_, fun c => ⟨fun c2 => ?_, fun c2 => ⟨fun c3 => ?_, fun c3 => ⟨ov_ib_lt c c3 (by decide), ?_⟩⟩⟩⟩
  · rwa [ov_sign, if_neg (fun q => absurd c (Int32.not_lt.mpr q.1))] at g
  · rwa [ov_sign, if_neg (fun q => absurd q.2.1 (Int32.not_lt.mpr c2))] at g
  · rwa [ov_sign, if_neg (fun q => absurd q.2.2 (Int32.not_lt.mpr c3))] at g
  · rwa [ov_sign, if_pos ⟨Int32.not_lt.mp c, Int32.not_le.mp c2, Int32.not_le.mp c3⟩] at g
def sp_mq_Reader_mostOf : List (Nat × List Bool) := []
theorem r_Reader_mostOf_0 {d a b : Nat} {S : ov_S} {Q : ov_Q} {v0 : Int32} (h : (Int32.toInt v0 = 0 → Q (some (.inl 2)) S) ∧ (¬ Int32.toInt v0 = 0 → (Int32.toInt v0 = 4 → Q (some (.inl 99)) S) ∧ (¬ Int32.toInt v0 = 4 → (Int32.toInt v0 = 5 → Q (some (.inl 8)) S) ∧ (¬ Int32.toInt v0 = 5 → Q (some (.inl 9)) S)))) : ov_V true true d a b mq_Reader_mostOf 0 [some (.inl v0)] [] S Q := ov_run sp_mq_Reader_mostOf 400 ⟨fun c3 => (h.1 c3), fun c3 => ⟨fun c2 => ((h.2 c3).1 c2), fun c2 => ⟨fun c1 => (((h.2 c3).2 c2).1 c1), fun c1 => (((h.2 c3).2 c2).2 c1)⟩⟩⟩
theorem pu_mq_Reader_mostOf {d : Nat} {S : ov_S} {Q : ov_Q} {v : Int32} (hd : 0 ≤ d) (g : Q (some (.inl (ov_most v))) S) : ov_V true true d 0 0 mq_Reader_mostOf 0 [some (.inl v)] [] S Q := by
  have e : ∀ k : Int32, Int32.toInt v = Int32.toInt k ↔ v = k := fun k => Int32.toInt_inj
  have e0 := e 0
  have e4 := e 4
  have e5 := e 5
  refine r_Reader_mostOf_0 ⟨fun c => ?_, fun c => ⟨fun c2 => ?_, fun c2 => ⟨fun c3 => ?_, fun c3 => ?_⟩⟩⟩
  · rwa [ov_most, if_pos (e0.mp c)] at g
  · rwa [ov_most, if_neg (fun q => c (e0.mpr q)), if_pos (e4.mp c2)] at g
  · rwa [ov_most, if_neg (fun q => c (e0.mpr q)), if_neg (fun q => c2 (e4.mpr q)), if_pos (e5.mp c3)] at g
  · rwa [ov_most, if_neg (fun q => c (e0.mpr q)), if_neg (fun q => c2 (e4.mpr q)), if_neg (fun q => c3 (e5.mpr q))] at g
def sp_mq_Reader_token : List (Nat × List Bool) := [(14, [true])]
theorem r_Reader_token_0 {d a b : Nat} {S : ov_S} {Q : ov_Q}  (hd : 1 ≤ d) (h : (¬ (0 ≤ (ov_g S 9 0 9) ∧ (ov_g S 9 0 9) ≤ ((ov_g S 9 0 8) - 1)) → Q (some (.inl 12)) S) ∧ ((0 ≤ (ov_g S 9 0 9) ∧ (ov_g S 9 0 9) ≤ ((ov_g S 9 0 8) - 1)) → ov_ib (ov_g S 9 0 9) 401 ∧ (Q (some (.inl (ov_g S 46 0 (ov_ix (ov_g S 9 0 9))))) S))) : ov_V true true d a b mq_Reader_token 0 [some (.inr (.inr (true, 9, 0)))] [] S Q := ov_run sp_mq_Reader_token 400 ⟨by omega, pu_mq_Eye_within (by omega) (ov_run sp_mq_Reader_token 400 ⟨fun c1 => (h.1 (ov_b0 c1)), fun c1 => ⟨(h.2 (ov_b1 c1)).1, (h.2 (ov_b1 c1)).2⟩⟩)⟩
theorem pu_mq_Reader_token {d : Nat} {S : ov_S} {Q : ov_Q}  (hd : 1 ≤ d) (hp : 0 ≤ ov_g S 9 0 9 ∧ ov_g S 9 0 9 ≤ ov_g S 9 0 8 - 1 → ov_ib (ov_g S 9 0 9) 401) (g : Q (some (.inl (ov_tok S))) S) : ov_V true true d 0 0 mq_Reader_token 0 [some (.inr (.inr (true, 9, 0)))] [] S Q := by
  refine r_Reader_token_0 hd ⟨fun c => ?_, fun c => ⟨hp c, ?_⟩⟩
  · rwa [ov_tok, if_neg c] at g
  · rwa [ov_tok, if_pos c] at g
def sp_mq_Three_placeOf : List (Nat × List Bool) := [(6, [true, true])]
theorem r_Three_placeOf_0 {d a b : Nat} {S : ov_S} {Q : ov_Q} {nv0 : Nat} {v1 : Int32} (hd : 1 ≤ d) (h : (¬ (0 ≤ v1 ∧ v1 ≤ 2) → Q (some (.inl (-1))) S) ∧ ((0 ≤ v1 ∧ v1 ≤ 2) → ov_ib v1 3 ∧ (Q (some (.inl (ov_g S 34 nv0 (ov_ix v1)))) S))) : ov_V true true d a b mq_Three_placeOf 0 [some (.inr (.inr (true, 6, nv0))), some (.inl v1)] [] S Q := ov_run sp_mq_Three_placeOf 400 ⟨by omega, pu_mq_Eye_within (by omega) (ov_run sp_mq_Three_placeOf 400 ⟨fun c1 => (h.1 (ov_b0 c1)), fun c1 => ⟨(h.2 (ov_b1 c1)).1, (h.2 (ov_b1 c1)).2⟩⟩)⟩
theorem pu_mq_Three_placeOf {d : Nat} {S : ov_S} {Q : ov_Q} {i : Nat} {v : Int32} (hd : 1 ≤ d) (g : Q (some (.inl (ov_plc S i v))) S) : ov_V true true d 0 0 mq_Three_placeOf 0 [some (.inr (.inr (true, 6, i))), some (.inl v)] [] S Q := by
  refine r_Three_placeOf_0 hd ⟨fun c => ?_, fun c => ⟨ov_ib_le c.1 c.2 (by decide), ?_⟩⟩
  · rwa [ov_plc, if_neg c] at g
  · rwa [ov_plc, if_pos c] at g
def sp_mq_Three_holderOf : List (Nat × List Bool) := [(6, [true, true, false]), (20, [true, true, false]), (27, [true, true, false]), (28, [true, true, false])]
theorem r_Three_holderOf_0 {d a b : Nat} {S : ov_S} {Q : ov_Q} {nv0 : Nat} {v1 : Int32} (hd : 1 ≤ d) (h : (¬ (0 ≤ v1 ∧ v1 ≤ 2) → ov_V true true d a b mq_Three_holderOf 27 [some (.inr (.inr (true, 6, nv0))), some (.inl v1), none] [] S Q) ∧ ((0 ≤ v1 ∧ v1 ≤ 2) → ov_ib v1 3 ∧ ((¬ (0 ≤ (ov_g S 34 nv0 (ov_ix v1)) ∧ (ov_g S 34 nv0 (ov_ix v1)) ≤ 2) → ov_V true true d a b mq_Three_holderOf 27 [some (.inr (.inr (true, 6, nv0))), some (.inl v1), none] [] S Q) ∧ ((0 ≤ (ov_g S 34 nv0 (ov_ix v1)) ∧ (ov_g S 34 nv0 (ov_ix v1)) ≤ 2) → ov_V true true d a b mq_Three_holderOf 28 [some (.inr (.inr (true, 6, nv0))), some (.inl v1), none] [.inl 1] S Q)))) : ov_V true true d a b mq_Three_holderOf 0 [some (.inr (.inr (true, 6, nv0))), some (.inl v1), none] [] S Q := ov_run sp_mq_Three_holderOf 400 ⟨by omega, pu_mq_Eye_within (by omega) (ov_run sp_mq_Three_holderOf 400 ⟨fun c1 => (h.1 (ov_b0 c1)), fun c1 => ⟨(h.2 (ov_b1 c1)).1, ⟨by omega, pu_mq_Eye_within (by omega) (ov_run sp_mq_Three_holderOf 400 ⟨fun c2 => ((h.2 (ov_b1 c1)).2.1 (ov_b0 c2)), fun c2 => ((h.2 (ov_b1 c1)).2.2 (ov_b1 c2))⟩)⟩⟩⟩)⟩
theorem r_Three_holderOf_27 {d a b : Nat} {S : ov_S} {Q : ov_Q} {nv0 : Nat} {v1 : Int32} (h : ov_V true true d a b mq_Three_holderOf 28 [some (.inr (.inr (true, 6, nv0))), some (.inl v1), none] [.inl 0] S Q) : ov_V true true d a b mq_Three_holderOf 27 [some (.inr (.inr (true, 6, nv0))), some (.inl v1), none] [] S Q := ov_run sp_mq_Three_holderOf 400 h
theorem r_Three_holderOf_28 {d a b : Nat} {S : ov_S} {Q : ov_Q} {nv0 : Nat} {v1 : Int32} (h : ov_ib v1 3 ∧ (Q (some (.inl (ov_g S 34 nv0 (ov_ix v1)))) S)) : ov_V true true d a b mq_Three_holderOf 28 [some (.inr (.inr (true, 6, nv0))), some (.inl v1), none] [.inl 1] S Q := ov_run sp_mq_Three_holderOf 400 ⟨fun c3 => absurd c3 (by decide), fun _ => ⟨h.1, h.2⟩⟩
theorem r_Three_holderOf_28_2 {d a b : Nat} {S : ov_S} {Q : ov_Q} {nv0 : Nat} {v1 : Int32} (h : Q (some (.inl (-1))) S) : ov_V true true d a b mq_Three_holderOf 28 [some (.inr (.inr (true, 6, nv0))), some (.inl v1), none] [.inl 0] S Q := ov_run sp_mq_Three_holderOf 400 ⟨fun _ => h, fun c4 => absurd (by decide) c4⟩
theorem pu_mq_Three_holderOf {d : Nat} {S : ov_S} {Q : ov_Q} {i : Nat} {v : Int32} (hd : 1 ≤ d) (g : Q (some (.inl (ov_hof S i v))) S) : ov_V true true d 0 0 mq_Three_holderOf 0 [some (.inr (.inr (true, 6, i))), some (.inl v), none] [] S Q := by
  refine r_Three_holderOf_0 hd ⟨fun c => r_Three_holderOf_27 (r_Three_holderOf_28_2 ?_), fun c => ⟨ov_ib_le c.1 c.2 (by decide), fun c2 => r_Three_holderOf_27 (r_Three_holderOf_28_2 ?_), fun c2 => r_Three_holderOf_28 ⟨ov_ib_le c.1 c.2 (by decide), ?_⟩⟩⟩
  · rwa [ov_hof, if_neg (fun q => c q.1)] at g
  · rwa [ov_hof, if_neg (fun q => c2 q.2)] at g
  · rwa [ov_hof, if_pos ⟨c, c2⟩] at g
def sp_mq_Three_settledPlaceOf : List (Nat × List Bool) := [(5, [true, true, false]), (21, [false, false, false]), (28, [false, false, true])]
theorem r_Three_settledPlaceOf_0 {d a b : Nat} {S : ov_S} {Q : ov_Q} {nv0 : Nat} {v1 : Int32} (hd : 2 ≤ d) (h : (¬ (ov_plc S nv0 v1) = 3 → (¬ (0 ≤ (ov_plc S nv0 v1) ∧ (ov_plc S nv0 v1) ≤ 2) → Q (some (.inl 0)) S) ∧ ((0 ≤ (ov_plc S nv0 v1) ∧ (ov_plc S nv0 v1) ≤ 2) → Q (some (.inl (ov_plc S nv0 v1))) S)) ∧ ((ov_plc S nv0 v1) = 3 → ov_V true true d a b mq_Three_settledPlaceOf 21 [none, none, none] [.inl (ov_g S 6 nv0 11)] S Q)) : ov_V true true d a b mq_Three_settledPlaceOf 0 [some (.inr (.inr (true, 6, nv0))), some (.inl v1), none] [] S Q := ov_run sp_mq_Three_settledPlaceOf 400 ⟨by omega, pu_mq_Three_placeOf (by omega) (ov_run sp_mq_Three_settledPlaceOf 400 ⟨fun c1 => ⟨by omega, pu_mq_Three_placeOf (by omega) (ov_run sp_mq_Three_settledPlaceOf 400 ⟨by omega, pu_mq_Eye_within (by omega) (ov_run sp_mq_Three_settledPlaceOf 400 ⟨fun c2 => ((h.1 c1).1 (ov_b0 c2)), fun c2 => ((h.1 c1).2 (ov_b1 c2))⟩)⟩)⟩, fun c1 => (h.2 (Decidable.not_not.mp c1))⟩)⟩
theorem r_Three_settledPlaceOf_21 {d a b : Nat} {S : ov_S} {Q : ov_Q} {s0 : Int32} (hd : 1 ≤ d) (h : (¬ (0 ≤ s0 ∧ s0 ≤ 2) → Q (some (.inl 0)) S) ∧ ((0 ≤ s0 ∧ s0 ≤ 2) → Q (some (.inl s0)) S)) : ov_V true true d a b mq_Three_settledPlaceOf 21 [none, none, none] [.inl s0] S Q := ov_run sp_mq_Three_settledPlaceOf 400 ⟨by omega, pu_mq_Eye_within (by omega) (ov_run sp_mq_Three_settledPlaceOf 400 ⟨fun c3 => (h.1 (ov_b0 c3)), fun c3 => (h.2 (ov_b1 c3))⟩)⟩
theorem pu_mq_Three_settledPlaceOf {d : Nat} {S : ov_S} {Q : ov_Q} {i : Nat} {v : Int32} (hd : 2 ≤ d) (g : Q (some (.inl (ov_stp S i v))) S) : ov_V true true d 0 0 mq_Three_settledPlaceOf 0 [some (.inr (.inr (true, 6, i))), some (.inl v), none] [] S Q := by
  refine r_Three_settledPlaceOf_0 hd ⟨fun c => ⟨fun c2 => ?_, fun c2 => ?_⟩, fun c => r_Three_settledPlaceOf_21 (by omega) ⟨fun c2 => ?_, fun c2 => ?_⟩⟩
  · rwa [ov_stp, if_neg c, ov_st2, if_neg c2] at g
  · rwa [ov_stp, if_neg c, ov_st2, if_pos c2] at g
  · rwa [ov_stp, if_pos c, ov_st2, if_neg c2] at g
  · rwa [ov_stp, if_pos c, ov_st2, if_pos c2] at g
def sp_mq_Three_mouthAndEar : List (Nat × List Bool) := [(6, [true]), (12, [false])]
theorem r_Three_mouthAndEar_0 {d a b : Nat} {S : ov_S} {Q : ov_Q} {nv0 : Nat} (hd : 3 ≤ d) (h : Q (some (.inl ((3 * (ov_stp S nv0 2)) + (ov_stp S nv0 1)))) S) : ov_V true true d a b mq_Three_mouthAndEar 0 [some (.inr (.inr (true, 6, nv0)))] [] S Q := ov_run sp_mq_Three_mouthAndEar 400 ⟨by omega, pu_mq_Three_settledPlaceOf (by omega) (ov_run sp_mq_Three_mouthAndEar 400 ⟨by omega, pu_mq_Three_settledPlaceOf (by omega) (ov_run sp_mq_Three_mouthAndEar 400 h)⟩)⟩
theorem pu_mq_Three_mouthAndEar {d : Nat} {S : ov_S} {Q : ov_Q} {i : Nat} (hd : 3 ≤ d) (g : Q (some (.inl (3 * ov_stp S i 2 + ov_stp S i 1))) S) : ov_V true true d 0 0 mq_Three_mouthAndEar 0 [some (.inr (.inr (true, 6, i)))] [] S Q := by
  exact r_Three_mouthAndEar_0 hd g
def sp_mq_Person_knowledgeOf : List (Nat × List Bool) := [(7, [true, true])]
theorem r_Person_knowledgeOf_0 {d a b : Nat} {S : ov_S} {Q : ov_Q} {nv0 : Nat} {v1 : Int32} (hd : 1 ≤ d) (h : (¬ (0 ≤ v1 ∧ v1 ≤ 9) → Q (some (.inl (-1))) S) ∧ ((0 ≤ v1 ∧ v1 ≤ 9) → ov_ib v1 10 ∧ (Q (some (.inl (ov_g S 35 nv0 (ov_ix v1)))) S))) : ov_V true true d a b mq_Person_knowledgeOf 0 [some (.inr (.inr (true, 7, nv0))), some (.inl v1)] [] S Q := ov_run sp_mq_Person_knowledgeOf 400 ⟨by omega, pu_mq_Eye_within (by omega) (ov_run sp_mq_Person_knowledgeOf 400 ⟨fun c1 => (h.1 (ov_b0 c1)), fun c1 => ⟨(h.2 (ov_b1 c1)).1, (h.2 (ov_b1 c1)).2⟩⟩)⟩
theorem pu_mq_Person_knowledgeOf {d : Nat} {S : ov_S} {Q : ov_Q} {i : Nat} {v : Int32} (hd : 1 ≤ d) (g : Q (some (.inl (ov_kno S i v))) S) : ov_V true true d 0 0 mq_Person_knowledgeOf 0 [some (.inr (.inr (true, 7, i))), some (.inl v)] [] S Q := by
  refine r_Person_knowledgeOf_0 hd ⟨fun c => ?_, fun c => ⟨ov_ib_le c.1 c.2 (by decide), ?_⟩⟩
  · rwa [ov_kno, if_neg c] at g
  · rwa [ov_kno, if_pos c] at g
def sp_mq_World_threeAt : List (Nat × List Bool) := [(11, [true, true]), (25, [false, false])]
theorem r_World_threeAt_0 {d a b : Nat} {S : ov_S} {Q : ov_Q} {nv0 : Nat} {v1 : Int32} (hd : 1 ≤ d) (h : (¬ (0 ≤ v1 ∧ v1 ≤ ((ov_g S 1 nv0 2) - 1)) → Q (some (.inr (.inr (false, 0, 0)))) S) ∧ ((0 ≤ v1 ∧ v1 ≤ ((ov_g S 1 nv0 2) - 1)) → (4 ≤ v1 → Q (some (.inr (.inr (false, 0, 0)))) S) ∧ (¬ 4 ≤ v1 → ov_ib v1 4 ∧ (ov_V true true d a b mq_World_threeAt 25 [none, none] [.inr (.inr ((ov_g S 2 nv0 (ov_ix v1) != 0), 6, (4 * nv0 + (ov_ix v1))))] S Q)))) : ov_V true true d a b mq_World_threeAt 0 [some (.inr (.inr (true, 1, nv0))), some (.inl v1)] [] S Q := ov_run sp_mq_World_threeAt 400 ⟨by omega, pu_mq_Eye_within (by omega) (ov_run sp_mq_World_threeAt 400 ⟨fun c1 => (h.1 (ov_b0 c1)), fun c1 => ⟨fun c2 => ((h.2 (ov_b1 c1)).1 c2), fun c2 => ⟨((h.2 (ov_b1 c1)).2 c2).1, ((h.2 (ov_b1 c1)).2 c2).2⟩⟩⟩)⟩
theorem r_World_threeAt_25 {d a b : Nat} {S : ov_S} {Q : ov_Q} {ns0 : Nat} (h : Q (some (.inr (.inr (true, 6, ns0)))) S) : ov_V true true d a b mq_World_threeAt 25 [none, none] [.inr (.inr (true, 6, ns0))] S Q := ov_run sp_mq_World_threeAt 400 h
theorem pu_mq_World_threeAt {d : Nat} {S : ov_S} {Q : ov_Q} {w : Nat} {t : Int32} (hd : 1 ≤ d) (hp : ((0 ≤ t ∧ t ≤ ov_g S 1 w 2 - 1) ∧ t < 4) → ov_g S 2 w (ov_ix t) ≠ 0) (g1 : ((0 ≤ t ∧ t ≤ ov_g S 1 w 2 - 1) ∧ t < 4) → Q (some (.inr (.inr (true, 6, 4 * w + ov_ix t)))) S) (g2 : ¬ ((0 ≤ t ∧ t ≤ ov_g S 1 w 2 - 1) ∧ t < 4) → Q (some (.inr (.inr (false, 0, 0)))) S) : ov_V true true d 0 0 mq_World_threeAt 0 [some (.inr (.inr (true, 1, w))), some (.inl t)] [] S Q := by
  refine r_World_threeAt_0 hd ⟨fun c => g2 (fun q => c q.1), fun c => ⟨fun c2 => g2 (fun q => absurd q.2 (Int32.not_lt.mpr c2)), fun c2 => ⟨ov_ib_lt (Int32.not_lt.mpr c.1) c2 (by decide), ?_⟩⟩⟩
  have h := hp ⟨c, Int32.not_le.mp c2⟩
  rw [show (ov_g S 2 w (ov_ix t) != 0) = true from by simpa using h]
  exact r_World_threeAt_25 (g1 ⟨c, Int32.not_le.mp c2⟩)
def sp_mq_World_personAt : List (Nat × List Bool) := [(13, [true, true]), (28, [false, false])]
theorem r_World_personAt_0 {d a b : Nat} {S : ov_S} {Q : ov_Q} {nv0 : Nat} {v1 : Int32} (hd : 1 ≤ d) (h : (¬ (0 ≤ v1 ∧ v1 ≤ ((3 * (ov_g S 1 nv0 2)) - 1)) → Q (some (.inr (.inr (false, 0, 0)))) S) ∧ ((0 ≤ v1 ∧ v1 ≤ ((3 * (ov_g S 1 nv0 2)) - 1)) → (12 ≤ v1 → Q (some (.inr (.inr (false, 0, 0)))) S) ∧ (¬ 12 ≤ v1 → ov_ib v1 12 ∧ (ov_V true true d a b mq_World_personAt 28 [none, none] [.inr (.inr ((ov_g S 3 nv0 (ov_ix v1) != 0), 7, (12 * nv0 + (ov_ix v1))))] S Q)))) : ov_V true true d a b mq_World_personAt 0 [some (.inr (.inr (true, 1, nv0))), some (.inl v1)] [] S Q := ov_run sp_mq_World_personAt 400 ⟨by omega, pu_mq_Eye_within (by omega) (ov_run sp_mq_World_personAt 400 ⟨fun c1 => (h.1 (ov_b0 c1)), fun c1 => ⟨fun c2 => ((h.2 (ov_b1 c1)).1 c2), fun c2 => ⟨((h.2 (ov_b1 c1)).2 c2).1, ((h.2 (ov_b1 c1)).2 c2).2⟩⟩⟩)⟩
theorem r_World_personAt_28 {d a b : Nat} {S : ov_S} {Q : ov_Q} {ns0 : Nat} (h : Q (some (.inr (.inr (true, 7, ns0)))) S) : ov_V true true d a b mq_World_personAt 28 [none, none] [.inr (.inr (true, 7, ns0))] S Q := ov_run sp_mq_World_personAt 400 h
theorem pu_mq_World_personAt {d : Nat} {S : ov_S} {Q : ov_Q} {w : Nat} {t : Int32} (hd : 1 ≤ d) (hp : ((0 ≤ t ∧ t ≤ 3 * ov_g S 1 w 2 - 1) ∧ t < 12) → ov_g S 3 w (ov_ix t) ≠ 0) (g1 : ((0 ≤ t ∧ t ≤ 3 * ov_g S 1 w 2 - 1) ∧ t < 12) → Q (some (.inr (.inr (true, 7, 12 * w + ov_ix t)))) S) (g2 : ¬ ((0 ≤ t ∧ t ≤ 3 * ov_g S 1 w 2 - 1) ∧ t < 12) → Q (some (.inr (.inr (false, 0, 0)))) S) : ov_V true true d 0 0 mq_World_personAt 0 [some (.inr (.inr (true, 1, w))), some (.inl t)] [] S Q := by
  refine r_World_personAt_0 hd ⟨fun c => g2 (fun q => c q.1), fun c => ⟨fun c2 => g2 (fun q => absurd q.2 (Int32.not_lt.mpr c2)), fun c2 => ⟨ov_ib_lt (Int32.not_lt.mpr c.1) c2 (by decide), ?_⟩⟩⟩
  have h := hp ⟨c, Int32.not_le.mp c2⟩
  rw [show (ov_g S 3 w (ov_ix t) != 0) = true from by simpa using h]
  exact r_World_personAt_28 (g1 ⟨c, Int32.not_le.mp c2⟩)
def sp_mq_World_personOf : List (Nat × List Bool) := [(11, [true, true, true, false]), (25, [true, true, true, false]), (32, [true, true, true, false]), (33, [true, true, true, false]), (48, [false, false, false, false])]
theorem r_World_personOf_0 {d a b : Nat} {S : ov_S} {Q : ov_Q} {nv0 : Nat} {v1 : Int32} {v2 : Int32} (hd : 1 ≤ d) (h : (¬ (0 ≤ v1 ∧ v1 ≤ ((ov_g S 1 nv0 2) - 1)) → ov_V true true d a b mq_World_personOf 32 [some (.inr (.inr (true, 1, nv0))), some (.inl v1), some (.inl v2), none] [] S Q) ∧ ((0 ≤ v1 ∧ v1 ≤ ((ov_g S 1 nv0 2) - 1)) → (4 ≤ v1 → ov_V true true d a b mq_World_personOf 32 [some (.inr (.inr (true, 1, nv0))), some (.inl v1), some (.inl v2), none] [] S Q) ∧ (¬ 4 ≤ v1 → (¬ (0 ≤ v2 ∧ v2 ≤ 2) → ov_V true true d a b mq_World_personOf 32 [some (.inr (.inr (true, 1, nv0))), some (.inl v1), some (.inl v2), none] [] S Q) ∧ ((0 ≤ v2 ∧ v2 ≤ 2) → ov_V true true d a b mq_World_personOf 33 [some (.inr (.inr (true, 1, nv0))), some (.inl v1), some (.inl v2), none] [.inl 1] S Q)))) : ov_V true true d a b mq_World_personOf 0 [some (.inr (.inr (true, 1, nv0))), some (.inl v1), some (.inl v2), none] [] S Q := ov_run sp_mq_World_personOf 400 ⟨by omega, pu_mq_Eye_within (by omega) (ov_run sp_mq_World_personOf 400 ⟨fun c1 => (h.1 (ov_b0 c1)), fun c1 => ⟨fun c2 => ((h.2 (ov_b1 c1)).1 c2), fun c2 => ⟨by omega, pu_mq_Eye_within (by omega) (ov_run sp_mq_World_personOf 400 ⟨fun c3 => (((h.2 (ov_b1 c1)).2 c2).1 (ov_b0 c3)), fun c3 => (((h.2 (ov_b1 c1)).2 c2).2 (ov_b1 c3))⟩)⟩⟩⟩)⟩
theorem r_World_personOf_32 {d a b : Nat} {S : ov_S} {Q : ov_Q} {nv0 : Nat} {v1 : Int32} {v2 : Int32} (h : ov_V true true d a b mq_World_personOf 33 [some (.inr (.inr (true, 1, nv0))), some (.inl v1), some (.inl v2), none] [.inl 0] S Q) : ov_V true true d a b mq_World_personOf 32 [some (.inr (.inr (true, 1, nv0))), some (.inl v1), some (.inl v2), none] [] S Q := ov_run sp_mq_World_personOf 400 h
theorem r_World_personOf_33 {d a b : Nat} {S : ov_S} {Q : ov_Q} {nv0 : Nat} {v1 : Int32} {v2 : Int32} (h : ov_ib ((3 * v1) + v2) 12 ∧ (ov_V true true d a b mq_World_personOf 48 [none, none, none, none] [.inr (.inr ((ov_g S 3 nv0 (ov_ix ((3 * v1) + v2)) != 0), 7, (12 * nv0 + (ov_ix ((3 * v1) + v2)))))] S Q)) : ov_V true true d a b mq_World_personOf 33 [some (.inr (.inr (true, 1, nv0))), some (.inl v1), some (.inl v2), none] [.inl 1] S Q := ov_run sp_mq_World_personOf 400 ⟨fun c4 => absurd c4 (by decide), fun _ => ⟨h.1, h.2⟩⟩
theorem r_World_personOf_33_2 {d a b : Nat} {S : ov_S} {Q : ov_Q} {nv0 : Nat} {v1 : Int32} {v2 : Int32} (h : Q (some (.inr (.inr (false, 0, 0)))) S) : ov_V true true d a b mq_World_personOf 33 [some (.inr (.inr (true, 1, nv0))), some (.inl v1), some (.inl v2), none] [.inl 0] S Q := ov_run sp_mq_World_personOf 400 ⟨fun _ => h, fun c5 => absurd (by decide) c5⟩
theorem r_World_personOf_48 {d a b : Nat} {S : ov_S} {Q : ov_Q} {ns0 : Nat} (h : Q (some (.inr (.inr (true, 7, ns0)))) S) : ov_V true true d a b mq_World_personOf 48 [none, none, none, none] [.inr (.inr (true, 7, ns0))] S Q := ov_run sp_mq_World_personOf 400 h
theorem ov_tm {t m : Int32} (h0 : 0 ≤ t) (h1 : t < 4) (h2 : 0 ≤ m) (h3 : m ≤ 2) : (3 * t + m).toInt = 3 * t.toInt + m.toInt ∧ 0 ≤ t.toInt ∧ t.toInt < 4 ∧ 0 ≤ m.toInt ∧ m.toInt ≤ 2 := by
  have a0 := Int32.le_iff_toInt_le.mp h0
  have a1 := Int32.lt_iff_toInt_lt.mp h1
  have a2 := Int32.le_iff_toInt_le.mp h2
  have a3 := Int32.le_iff_toInt_le.mp h3
  have e0 : (0 : Int32).toInt = 0 := rfl
  have e4 : (4 : Int32).toInt = 4 := rfl
  have e2 : (2 : Int32).toInt = 2 := rfl
  have e3 : (3 : Int32).toInt = 3 := rfl
  rw [e0] at a0 a2
  rw [e4] at a1
  rw [e2] at a3
  refine ⟨?_, a0, a1, a2, a3⟩
  rw [Int32.toInt_add, Int32.toInt_mul, e3, Int.bmod_eq_of_le (n := 3 * t.toInt) (by omega) (by omega), Int.bmod_eq_of_le (by omega) (by omega)]
theorem pu_mq_World_personOf {d : Nat} {S : ov_S} {Q : ov_Q} {w : Nat} {t m : Int32} (hd : 1 ≤ d) (hp : ((0 ≤ t ∧ t ≤ ov_g S 1 w 2 - 1) ∧ t < 4 ∧ (0 ≤ m ∧ m ≤ 2)) → ov_g S 3 w (ov_ix (3 * t + m)) ≠ 0) (g1 : ((0 ≤ t ∧ t ≤ ov_g S 1 w 2 - 1) ∧ t < 4 ∧ (0 ≤ m ∧ m ≤ 2)) → Q (some (.inr (.inr (true, 7, 12 * w + ov_ix (3 * t + m))))) S) (g2 : ¬ ((0 ≤ t ∧ t ≤ ov_g S 1 w 2 - 1) ∧ t < 4 ∧ (0 ≤ m ∧ m ≤ 2)) → Q (some (.inr (.inr (false, 0, 0)))) S) : ov_V true true d 0 0 mq_World_personOf 0 [some (.inr (.inr (true, 1, w))), some (.inl t), some (.inl m), none] [] S Q := by
  refine r_World_personOf_0 hd ⟨fun c => r_World_personOf_32 (r_World_personOf_33_2 (g2 (fun q => c q.1))), fun c => ⟨fun c2 => r_World_personOf_32 (r_World_personOf_33_2 (g2 (fun q => absurd q.2.1 (Int32.not_lt.mpr c2)))), fun c2 => ⟨fun c3 => r_World_personOf_32 (r_World_personOf_33_2 (g2 (fun q => c3 q.2.2))), fun c3 => r_World_personOf_33 ⟨?_, ?_⟩⟩⟩⟩
  · obtain ⟨e, h1, h2, h3, h4⟩ := ov_tm c.1 (Int32.not_le.mp c2) c3.1 c3.2
    exact ⟨by rw [e]; omega, by rw [e]; omega⟩
  · have h := hp ⟨c, Int32.not_le.mp c2, c3⟩
    rw [show (ov_g S 3 w (ov_ix (3 * t + m)) != 0) = true from by simpa using h]
    exact r_World_personOf_48 (g1 ⟨c, Int32.not_le.mp c2, c3⟩)
end
