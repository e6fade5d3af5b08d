section
-- ===== PART A: goes FIRST, ahead of the names: the tables' words, and 'selects' of the private methods out of them =====
/-- a private method of a class that the tables say can be made, by its rows of tables_1 -/
def lw_okq (q : MethodName × Nat) : Prop := (q.1.cls ≠ "java/lang/invoke/MethodHandle" ∧ q.1.cls ≠ "java/lang/invoke/VarHandle") ∧ Cond.instantiable q.1.cls q.2 ∈ tables_1 ∧ Cond.privateMethod q.1 ∈ tables_1 ∧ Cond.instanceMethod q.1 ∈ tables_1
theorem lw_p0 : lw_okq (⟨"GlowDebts", "rowOf", "(I)LGlowDebts$Strip;"⟩, 11) := ⟨⟨by decide +kernel, by decide +kernel⟩, List.mem_of_getElem? (i := 15) (by decide +kernel), List.mem_of_getElem? (i := 140) (by decide +kernel), List.mem_of_getElem? (i := 141) (by decide +kernel)⟩
theorem lw_p1 : lw_okq (⟨"GlowDebts", "makeAnew", "(LGlowDebts$Strip;II)I"⟩, 11) := ⟨⟨by decide +kernel, by decide +kernel⟩, List.mem_of_getElem? (i := 15) (by decide +kernel), List.mem_of_getElem? (i := 144) (by decide +kernel), List.mem_of_getElem? (i := 145) (by decide +kernel)⟩
theorem lw_p2 : lw_okq (⟨"GlowDebts", "refuse", "(I)I"⟩, 11) := ⟨⟨by decide +kernel, by decide +kernel⟩, List.mem_of_getElem? (i := 15) (by decide +kernel), List.mem_of_getElem? (i := 152) (by decide +kernel), List.mem_of_getElem? (i := 153) (by decide +kernel)⟩
theorem lw_p3 : lw_okq (⟨"GlowDebts", "refusedAt", "(LGlowDebts$Strip;I)I"⟩, 11) := ⟨⟨by decide +kernel, by decide +kernel⟩, List.mem_of_getElem? (i := 15) (by decide +kernel), List.mem_of_getElem? (i := 167) (by decide +kernel), List.mem_of_getElem? (i := 168) (by decide +kernel)⟩
theorem lw_p4 : lw_okq (⟨"GlowDebts", "refusedMissing", "(LGlowDebts$Strip;)I"⟩, 11) := ⟨⟨by decide +kernel, by decide +kernel⟩, List.mem_of_getElem? (i := 15) (by decide +kernel), List.mem_of_getElem? (i := 171) (by decide +kernel), List.mem_of_getElem? (i := 172) (by decide +kernel)⟩
theorem lw_p5 : lw_okq (⟨"GlowDebts", "textOf", "(I)LGlowDebts$Strip;"⟩, 11) := ⟨⟨by decide +kernel, by decide +kernel⟩, List.mem_of_getElem? (i := 15) (by decide +kernel), List.mem_of_getElem? (i := 236) (by decide +kernel), List.mem_of_getElem? (i := 237) (by decide +kernel)⟩
theorem lw_p6 : lw_okq (⟨"GlowDebts", "keepOf", "(I)LGlowDebts$Bank;"⟩, 11) := ⟨⟨by decide +kernel, by decide +kernel⟩, List.mem_of_getElem? (i := 15) (by decide +kernel), List.mem_of_getElem? (i := 282) (by decide +kernel), List.mem_of_getElem? (i := 283) (by decide +kernel)⟩
theorem lw_p7 : lw_okq (⟨"GlowDebts$Bank", "write", "(III)V"⟩, 10) := ⟨⟨by decide +kernel, by decide +kernel⟩, List.mem_of_getElem? (i := 25) (by decide +kernel), List.mem_of_getElem? (i := 374) (by decide +kernel), List.mem_of_getElem? (i := 375) (by decide +kernel)⟩
theorem lw_p8 : lw_okq (⟨"GlowDebts$Bank", "takeBack", "(I)V"⟩, 10) := ⟨⟨by decide +kernel, by decide +kernel⟩, List.mem_of_getElem? (i := 25) (by decide +kernel), List.mem_of_getElem? (i := 419) (by decide +kernel), List.mem_of_getElem? (i := 420) (by decide +kernel)⟩
theorem lw_p9 : lw_okq (⟨"GlowDebts$Sets", "sumDebts", "(LGlowDebts$Bank;)I"⟩, 2) := ⟨⟨by decide +kernel, by decide +kernel⟩, List.mem_of_getElem? (i := 64) (by decide +kernel), List.mem_of_getElem? (i := 523) (by decide +kernel), List.mem_of_getElem? (i := 524) (by decide +kernel)⟩
theorem lw_p10 : lw_okq (⟨"GlowDebts$Sets", "sumUp", "()V"⟩, 2) := ⟨⟨by decide +kernel, by decide +kernel⟩, List.mem_of_getElem? (i := 64) (by decide +kernel), List.mem_of_getElem? (i := 530) (by decide +kernel), List.mem_of_getElem? (i := 531) (by decide +kernel)⟩
theorem lw_p11 : lw_okq (⟨"GlowDebts$Chains", "stepsOf", "(I)I"⟩, 1) := ⟨⟨by decide +kernel, by decide +kernel⟩, List.mem_of_getElem? (i := 77) (by decide +kernel), List.mem_of_getElem? (i := 578) (by decide +kernel), List.mem_of_getElem? (i := 579) (by decide +kernel)⟩
theorem lw_p12 : lw_okq (⟨"GlowDebts$Chains", "lowestNearer", "(LGlowDebts$Bank;I)I"⟩, 1) := ⟨⟨by decide +kernel, by decide +kernel⟩, List.mem_of_getElem? (i := 77) (by decide +kernel), List.mem_of_getElem? (i := 588) (by decide +kernel), List.mem_of_getElem? (i := 589) (by decide +kernel)⟩
theorem lw_p13 : lw_okq (⟨"GlowDebts$Sets", "sumGlow", "(LGlowDebts$Bank;I)V"⟩, 2) := ⟨⟨by decide +kernel, by decide +kernel⟩, List.mem_of_getElem? (i := 64) (by decide +kernel), List.mem_of_getElem? (i := 601) (by decide +kernel), List.mem_of_getElem? (i := 602) (by decide +kernel)⟩
theorem lw_p14 : lw_okq (⟨"GlowDebts", "refusedLooks", "(ILGlowDebts$Strip;)I"⟩, 11) := ⟨⟨by decide +kernel, by decide +kernel⟩, List.mem_of_getElem? (i := 15) (by decide +kernel), List.mem_of_getElem? (i := 617) (by decide +kernel), List.mem_of_getElem? (i := 618) (by decide +kernel)⟩
theorem lw_p15 : lw_okq (⟨"GlowDebts$Sets", "letOneAnswer", "(III)V"⟩, 2) := ⟨⟨by decide +kernel, by decide +kernel⟩, List.mem_of_getElem? (i := 64) (by decide +kernel), List.mem_of_getElem? (i := 680) (by decide +kernel), List.mem_of_getElem? (i := 681) (by decide +kernel)⟩
def lw_privs_1 : List (MethodName × Nat) := [(⟨"GlowDebts", "rowOf", "(I)LGlowDebts$Strip;"⟩, 11), (⟨"GlowDebts", "makeAnew", "(LGlowDebts$Strip;II)I"⟩, 11), (⟨"GlowDebts", "refuse", "(I)I"⟩, 11), (⟨"GlowDebts", "refusedAt", "(LGlowDebts$Strip;I)I"⟩, 11), (⟨"GlowDebts", "refusedMissing", "(LGlowDebts$Strip;)I"⟩, 11), (⟨"GlowDebts", "textOf", "(I)LGlowDebts$Strip;"⟩, 11), (⟨"GlowDebts", "keepOf", "(I)LGlowDebts$Bank;"⟩, 11), (⟨"GlowDebts$Bank", "write", "(III)V"⟩, 10), (⟨"GlowDebts$Bank", "takeBack", "(I)V"⟩, 10), (⟨"GlowDebts$Sets", "sumDebts", "(LGlowDebts$Bank;)I"⟩, 2), (⟨"GlowDebts$Sets", "sumUp", "()V"⟩, 2), (⟨"GlowDebts$Chains", "stepsOf", "(I)I"⟩, 1), (⟨"GlowDebts$Chains", "lowestNearer", "(LGlowDebts$Bank;I)I"⟩, 1), (⟨"GlowDebts$Sets", "sumGlow", "(LGlowDebts$Bank;I)V"⟩, 2), (⟨"GlowDebts", "refusedLooks", "(ILGlowDebts$Strip;)I"⟩, 11), (⟨"GlowDebts$Sets", "letOneAnswer", "(III)V"⟩, 2)]
theorem lw_r1 : ∀ q ∈ lw_privs_1, lw_okq q := List.forall_mem_cons.mpr ⟨lw_p0, List.forall_mem_cons.mpr ⟨lw_p1, List.forall_mem_cons.mpr ⟨lw_p2, List.forall_mem_cons.mpr ⟨lw_p3, List.forall_mem_cons.mpr ⟨lw_p4, List.forall_mem_cons.mpr ⟨lw_p5, List.forall_mem_cons.mpr ⟨lw_p6, List.forall_mem_cons.mpr ⟨lw_p7, List.forall_mem_cons.mpr ⟨lw_p8, List.forall_mem_cons.mpr ⟨lw_p9, List.forall_mem_cons.mpr ⟨lw_p10, List.forall_mem_cons.mpr ⟨lw_p11, List.forall_mem_cons.mpr ⟨lw_p12, List.forall_mem_cons.mpr ⟨lw_p13, List.forall_mem_cons.mpr ⟨lw_p14, List.forall_mem_cons.mpr ⟨lw_p15, fun _ h => absurd h List.not_mem_nil⟩⟩⟩⟩⟩⟩⟩⟩⟩⟩⟩⟩⟩⟩⟩⟩
theorem lw_p16 : lw_okq (⟨"GlowDebts$Sets", "letOneLight", "(III)V"⟩, 2) := ⟨⟨by decide +kernel, by decide +kernel⟩, List.mem_of_getElem? (i := 64) (by decide +kernel), List.mem_of_getElem? (i := 684) (by decide +kernel), List.mem_of_getElem? (i := 685) (by decide +kernel)⟩
theorem lw_p17 : lw_okq (⟨"GlowDebts", "tellInLowestTerms", "(JJ)V"⟩, 11) := ⟨⟨by decide +kernel, by decide +kernel⟩, List.mem_of_getElem? (i := 15) (by decide +kernel), List.mem_of_getElem? (i := 702) (by decide +kernel), List.mem_of_getElem? (i := 703) (by decide +kernel)⟩
theorem lw_p18 : lw_okq (⟨"GlowDebts", "howManyKept", "()I"⟩, 11) := ⟨⟨by decide +kernel, by decide +kernel⟩, List.mem_of_getElem? (i := 15) (by decide +kernel), List.mem_of_getElem? (i := 756) (by decide +kernel), List.mem_of_getElem? (i := 757) (by decide +kernel)⟩
theorem lw_p19 : lw_okq (⟨"GlowDebtsModel", "finds", "(I)I"⟩, 23) := ⟨⟨by decide +kernel, by decide +kernel⟩, List.mem_of_getElem? (i := 778) (by decide +kernel), List.mem_of_getElem? (i := 865) (by decide +kernel), List.mem_of_getElem? (i := 866) (by decide +kernel)⟩
theorem lw_p20 : lw_okq (⟨"GlowDebtsModel", "tells", "(I)I"⟩, 23) := ⟨⟨by decide +kernel, by decide +kernel⟩, List.mem_of_getElem? (i := 778) (by decide +kernel), List.mem_of_getElem? (i := 873) (by decide +kernel), List.mem_of_getElem? (i := 874) (by decide +kernel)⟩
theorem lw_p21 : lw_okq (⟨"GlowDebtsModel", "faultOf", "(I)I"⟩, 23) := ⟨⟨by decide +kernel, by decide +kernel⟩, List.mem_of_getElem? (i := 778) (by decide +kernel), List.mem_of_getElem? (i := 909) (by decide +kernel), List.mem_of_getElem? (i := 910) (by decide +kernel)⟩
theorem lw_p22 : lw_okq (⟨"GlowDebtsModel", "here", "()I"⟩, 23) := ⟨⟨by decide +kernel, by decide +kernel⟩, List.mem_of_getElem? (i := 778) (by decide +kernel), List.mem_of_getElem? (i := 913) (by decide +kernel), List.mem_of_getElem? (i := 914) (by decide +kernel)⟩
theorem lw_p23 : lw_okq (⟨"GlowDebtsModel", "takesLight", "()Z"⟩, 23) := ⟨⟨by decide +kernel, by decide +kernel⟩, List.mem_of_getElem? (i := 778) (by decide +kernel), List.mem_of_getElem? (i := 917) (by decide +kernel), List.mem_of_getElem? (i := 918) (by decide +kernel)⟩
theorem lw_p24 : lw_okq (⟨"GlowDebtsModel", "takes", "(II)Z"⟩, 23) := ⟨⟨by decide +kernel, by decide +kernel⟩, List.mem_of_getElem? (i := 778) (by decide +kernel), List.mem_of_getElem? (i := 924) (by decide +kernel), List.mem_of_getElem? (i := 925) (by decide +kernel)⟩
theorem lw_p25 : lw_okq (⟨"GlowDebtsModel", "isLight", "(I)Z"⟩, 23) := ⟨⟨by decide +kernel, by decide +kernel⟩, List.mem_of_getElem? (i := 778) (by decide +kernel), List.mem_of_getElem? (i := 936) (by decide +kernel), List.mem_of_getElem? (i := 937) (by decide +kernel)⟩
theorem lw_p26 : lw_okq (⟨"GlowDebtsModel", "lightOf", "(II)I"⟩, 23) := ⟨⟨by decide +kernel, by decide +kernel⟩, List.mem_of_getElem? (i := 778) (by decide +kernel), List.mem_of_getElem? (i := 941) (by decide +kernel), List.mem_of_getElem? (i := 942) (by decide +kernel)⟩
theorem lw_p27 : lw_okq (⟨"GlowDebtsModel", "glowOf", "(II)I"⟩, 23) := ⟨⟨by decide +kernel, by decide +kernel⟩, List.mem_of_getElem? (i := 778) (by decide +kernel), List.mem_of_getElem? (i := 945) (by decide +kernel), List.mem_of_getElem? (i := 946) (by decide +kernel)⟩
theorem lw_p28 : lw_okq (⟨"GlowDebtsModel", "minds", "()V"⟩, 23) := ⟨⟨by decide +kernel, by decide +kernel⟩, List.mem_of_getElem? (i := 778) (by decide +kernel), List.mem_of_getElem? (i := 974) (by decide +kernel), List.mem_of_getElem? (i := 975) (by decide +kernel)⟩
theorem lw_p29 : lw_okq (⟨"GlowDebtsModel", "glowAll", "()I"⟩, 23) := ⟨⟨by decide +kernel, by decide +kernel⟩, List.mem_of_getElem? (i := 778) (by decide +kernel), List.mem_of_getElem? (i := 978) (by decide +kernel), List.mem_of_getElem? (i := 979) (by decide +kernel)⟩
theorem lw_p30 : lw_okq (⟨"GlowDebtsModel", "lights", "(IZ)I"⟩, 23) := ⟨⟨by decide +kernel, by decide +kernel⟩, List.mem_of_getElem? (i := 778) (by decide +kernel), List.mem_of_getElem? (i := 989) (by decide +kernel), List.mem_of_getElem? (i := 990) (by decide +kernel)⟩
theorem lw_p31 : lw_okq (⟨"GlowDebtsModel", "bring", "(II)V"⟩, 23) := ⟨⟨by decide +kernel, by decide +kernel⟩, List.mem_of_getElem? (i := 778) (by decide +kernel), List.mem_of_getElem? (i := 1014) (by decide +kernel), List.mem_of_getElem? (i := 1015) (by decide +kernel)⟩
def lw_privs_2 : List (MethodName × Nat) := [(⟨"GlowDebts$Sets", "letOneLight", "(III)V"⟩, 2), (⟨"GlowDebts", "tellInLowestTerms", "(JJ)V"⟩, 11), (⟨"GlowDebts", "howManyKept", "()I"⟩, 11), (⟨"GlowDebtsModel", "finds", "(I)I"⟩, 23), (⟨"GlowDebtsModel", "tells", "(I)I"⟩, 23), (⟨"GlowDebtsModel", "faultOf", "(I)I"⟩, 23), (⟨"GlowDebtsModel", "here", "()I"⟩, 23), (⟨"GlowDebtsModel", "takesLight", "()Z"⟩, 23), (⟨"GlowDebtsModel", "takes", "(II)Z"⟩, 23), (⟨"GlowDebtsModel", "isLight", "(I)Z"⟩, 23), (⟨"GlowDebtsModel", "lightOf", "(II)I"⟩, 23), (⟨"GlowDebtsModel", "glowOf", "(II)I"⟩, 23), (⟨"GlowDebtsModel", "minds", "()V"⟩, 23), (⟨"GlowDebtsModel", "glowAll", "()I"⟩, 23), (⟨"GlowDebtsModel", "lights", "(IZ)I"⟩, 23), (⟨"GlowDebtsModel", "bring", "(II)V"⟩, 23)]
theorem lw_r2 : ∀ q ∈ lw_privs_2, lw_okq q := List.forall_mem_cons.mpr ⟨lw_p16, List.forall_mem_cons.mpr ⟨lw_p17, List.forall_mem_cons.mpr ⟨lw_p18, List.forall_mem_cons.mpr ⟨lw_p19, List.forall_mem_cons.mpr ⟨lw_p20, List.forall_mem_cons.mpr ⟨lw_p21, List.forall_mem_cons.mpr ⟨lw_p22, List.forall_mem_cons.mpr ⟨lw_p23, List.forall_mem_cons.mpr ⟨lw_p24, List.forall_mem_cons.mpr ⟨lw_p25, List.forall_mem_cons.mpr ⟨lw_p26, List.forall_mem_cons.mpr ⟨lw_p27, List.forall_mem_cons.mpr ⟨lw_p28, List.forall_mem_cons.mpr ⟨lw_p29, List.forall_mem_cons.mpr ⟨lw_p30, List.forall_mem_cons.mpr ⟨lw_p31, fun _ h => absurd h List.not_mem_nil⟩⟩⟩⟩⟩⟩⟩⟩⟩⟩⟩⟩⟩⟩⟩⟩
theorem lw_p32 : lw_okq (⟨"GlowDebtsModel", "brightNow", "(I)I"⟩, 23) := ⟨⟨by decide +kernel, by decide +kernel⟩, List.mem_of_getElem? (i := 778) (by decide +kernel), List.mem_of_getElem? (i := 1026) (by decide +kernel), List.mem_of_getElem? (i := 1027) (by decide +kernel)⟩
theorem lw_p33 : lw_okq (⟨"GlowDebtsModel", "brightBy", "(III)I"⟩, 23) := ⟨⟨by decide +kernel, by decide +kernel⟩, List.mem_of_getElem? (i := 778) (by decide +kernel), List.mem_of_getElem? (i := 1030) (by decide +kernel), List.mem_of_getElem? (i := 1031) (by decide +kernel)⟩
theorem lw_p34 : lw_okq (⟨"GlowDebtsModel", "gives", "(IIII)I"⟩, 23) := ⟨⟨by decide +kernel, by decide +kernel⟩, List.mem_of_getElem? (i := 778) (by decide +kernel), List.mem_of_getElem? (i := 1034) (by decide +kernel), List.mem_of_getElem? (i := 1035) (by decide +kernel)⟩
theorem lw_p35 : lw_okq (⟨"GlowDebtsModel", "alongNow", "(II)I"⟩, 23) := ⟨⟨by decide +kernel, by decide +kernel⟩, List.mem_of_getElem? (i := 778) (by decide +kernel), List.mem_of_getElem? (i := 1045) (by decide +kernel), List.mem_of_getElem? (i := 1046) (by decide +kernel)⟩
theorem lw_p36 : lw_okq (⟨"GlowDebtsModel", "debts", "()I"⟩, 23) := ⟨⟨by decide +kernel, by decide +kernel⟩, List.mem_of_getElem? (i := 778) (by decide +kernel), List.mem_of_getElem? (i := 1072) (by decide +kernel), List.mem_of_getElem? (i := 1073) (by decide +kernel)⟩
theorem lw_p37 : lw_okq (⟨"GlowDebtsModel", "isForged", "(I)Z"⟩, 23) := ⟨⟨by decide +kernel, by decide +kernel⟩, List.mem_of_getElem? (i := 778) (by decide +kernel), List.mem_of_getElem? (i := 1076) (by decide +kernel), List.mem_of_getElem? (i := 1077) (by decide +kernel)⟩
theorem lw_p38 : lw_okq (⟨"GlowDebtsModel", "owesBy", "(II)I"⟩, 23) := ⟨⟨by decide +kernel, by decide +kernel⟩, List.mem_of_getElem? (i := 778) (by decide +kernel), List.mem_of_getElem? (i := 1080) (by decide +kernel), List.mem_of_getElem? (i := 1081) (by decide +kernel)⟩
theorem lw_p39 : lw_okq (⟨"GlowDebtsModel", "isRing", "(I)Z"⟩, 23) := ⟨⟨by decide +kernel, by decide +kernel⟩, List.mem_of_getElem? (i := 778) (by decide +kernel), List.mem_of_getElem? (i := 1088) (by decide +kernel), List.mem_of_getElem? (i := 1089) (by decide +kernel)⟩
theorem lw_p40 : lw_okq (⟨"GlowDebtsModel", "against", "(I)I"⟩, 23) := ⟨⟨by decide +kernel, by decide +kernel⟩, List.mem_of_getElem? (i := 778) (by decide +kernel), List.mem_of_getElem? (i := 1116) (by decide +kernel), List.mem_of_getElem? (i := 1117) (by decide +kernel)⟩
theorem lw_p41 : lw_okq (⟨"GlowDebtsModel", "fits", "(III)Z"⟩, 23) := ⟨⟨by decide +kernel, by decide +kernel⟩, List.mem_of_getElem? (i := 778) (by decide +kernel), List.mem_of_getElem? (i := 1120) (by decide +kernel), List.mem_of_getElem? (i := 1121) (by decide +kernel)⟩
theorem lw_p42 : lw_okq (⟨"GlowDebtsModel", "kindsOf", "(II)I"⟩, 23) := ⟨⟨by decide +kernel, by decide +kernel⟩, List.mem_of_getElem? (i := 778) (by decide +kernel), List.mem_of_getElem? (i := 1128) (by decide +kernel), List.mem_of_getElem? (i := 1129) (by decide +kernel)⟩
theorem lw_p43 : lw_okq (⟨"GlowDebtsModel", "greatestPart", "(III)I"⟩, 23) := ⟨⟨by decide +kernel, by decide +kernel⟩, List.mem_of_getElem? (i := 778) (by decide +kernel), List.mem_of_getElem? (i := 1136) (by decide +kernel), List.mem_of_getElem? (i := 1137) (by decide +kernel)⟩
theorem lw_p44 : lw_okq (⟨"GlowDebtsModel", "betters", "(I)V"⟩, 23) := ⟨⟨by decide +kernel, by decide +kernel⟩, List.mem_of_getElem? (i := 778) (by decide +kernel), List.mem_of_getElem? (i := 1149) (by decide +kernel), List.mem_of_getElem? (i := 1150) (by decide +kernel)⟩
theorem lw_p45 : lw_okq (⟨"GlowDebtsModel", "chances", "(III)I"⟩, 23) := ⟨⟨by decide +kernel, by decide +kernel⟩, List.mem_of_getElem? (i := 778) (by decide +kernel), List.mem_of_getElem? (i := 1158) (by decide +kernel), List.mem_of_getElem? (i := 1159) (by decide +kernel)⟩
theorem lw_p46 : lw_okq (⟨"GlowDebtsModel", "tellsPart", "(JJ)I"⟩, 23) := ⟨⟨by decide +kernel, by decide +kernel⟩, List.mem_of_getElem? (i := 778) (by decide +kernel), List.mem_of_getElem? (i := 1162) (by decide +kernel), List.mem_of_getElem? (i := 1163) (by decide +kernel)⟩
theorem lw_p47 : lw_okq (⟨"GlowDebtsModel", "manyOf", "(II)I"⟩, 23) := ⟨⟨by decide +kernel, by decide +kernel⟩, List.mem_of_getElem? (i := 778) (by decide +kernel), List.mem_of_getElem? (i := 1196) (by decide +kernel), List.mem_of_getElem? (i := 1197) (by decide +kernel)⟩
def lw_privs_3 : List (MethodName × Nat) := [(⟨"GlowDebtsModel", "brightNow", "(I)I"⟩, 23), (⟨"GlowDebtsModel", "brightBy", "(III)I"⟩, 23), (⟨"GlowDebtsModel", "gives", "(IIII)I"⟩, 23), (⟨"GlowDebtsModel", "alongNow", "(II)I"⟩, 23), (⟨"GlowDebtsModel", "debts", "()I"⟩, 23), (⟨"GlowDebtsModel", "isForged", "(I)Z"⟩, 23), (⟨"GlowDebtsModel", "owesBy", "(II)I"⟩, 23), (⟨"GlowDebtsModel", "isRing", "(I)Z"⟩, 23), (⟨"GlowDebtsModel", "against", "(I)I"⟩, 23), (⟨"GlowDebtsModel", "fits", "(III)Z"⟩, 23), (⟨"GlowDebtsModel", "kindsOf", "(II)I"⟩, 23), (⟨"GlowDebtsModel", "greatestPart", "(III)I"⟩, 23), (⟨"GlowDebtsModel", "betters", "(I)V"⟩, 23), (⟨"GlowDebtsModel", "chances", "(III)I"⟩, 23), (⟨"GlowDebtsModel", "tellsPart", "(JJ)I"⟩, 23), (⟨"GlowDebtsModel", "manyOf", "(II)I"⟩, 23)]
theorem lw_r3 : ∀ q ∈ lw_privs_3, lw_okq q := List.forall_mem_cons.mpr ⟨lw_p32, List.forall_mem_cons.mpr ⟨lw_p33, List.forall_mem_cons.mpr ⟨lw_p34, List.forall_mem_cons.mpr ⟨lw_p35, List.forall_mem_cons.mpr ⟨lw_p36, List.forall_mem_cons.mpr ⟨lw_p37, List.forall_mem_cons.mpr ⟨lw_p38, List.forall_mem_cons.mpr ⟨lw_p39, List.forall_mem_cons.mpr ⟨lw_p40, List.forall_mem_cons.mpr ⟨lw_p41, List.forall_mem_cons.mpr ⟨lw_p42, List.forall_mem_cons.mpr ⟨lw_p43, List.forall_mem_cons.mpr ⟨lw_p44, List.forall_mem_cons.mpr ⟨lw_p45, List.forall_mem_cons.mpr ⟨lw_p46, List.forall_mem_cons.mpr ⟨lw_p47, fun _ h => absurd h List.not_mem_nil⟩⟩⟩⟩⟩⟩⟩⟩⟩⟩⟩⟩⟩⟩⟩⟩
theorem lw_p48 : lw_okq (⟨"GlowDebtsModel", "rowsThere", "()I"⟩, 23) := ⟨⟨by decide +kernel, by decide +kernel⟩, List.mem_of_getElem? (i := 778) (by decide +kernel), List.mem_of_getElem? (i := 1200) (by decide +kernel), List.mem_of_getElem? (i := 1201) (by decide +kernel)⟩
theorem lw_p49 : lw_okq (⟨"GlowDebtsModel", "textsThere", "()I"⟩, 23) := ⟨⟨by decide +kernel, by decide +kernel⟩, List.mem_of_getElem? (i := 778) (by decide +kernel), List.mem_of_getElem? (i := 1204) (by decide +kernel), List.mem_of_getElem? (i := 1205) (by decide +kernel)⟩
theorem lw_p50 : lw_okq (⟨"GlowDebtsModel", "banksKept", "()I"⟩, 23) := ⟨⟨by decide +kernel, by decide +kernel⟩, List.mem_of_getElem? (i := 778) (by decide +kernel), List.mem_of_getElem? (i := 1208) (by decide +kernel), List.mem_of_getElem? (i := 1209) (by decide +kernel)⟩
theorem lw_p51 : lw_okq (⟨"GlowDebtsModel", "mix", "(J)V"⟩, 23) := ⟨⟨by decide +kernel, by decide +kernel⟩, List.mem_of_getElem? (i := 778) (by decide +kernel), List.mem_of_getElem? (i := 1226) (by decide +kernel), List.mem_of_getElem? (i := 1227) (by decide +kernel)⟩
def lw_privs_4 : List (MethodName × Nat) := [(⟨"GlowDebtsModel", "rowsThere", "()I"⟩, 23), (⟨"GlowDebtsModel", "textsThere", "()I"⟩, 23), (⟨"GlowDebtsModel", "banksKept", "()I"⟩, 23), (⟨"GlowDebtsModel", "mix", "(J)V"⟩, 23)]
theorem lw_r4 : ∀ q ∈ lw_privs_4, lw_okq q := List.forall_mem_cons.mpr ⟨lw_p48, List.forall_mem_cons.mpr ⟨lw_p49, List.forall_mem_cons.mpr ⟨lw_p50, List.forall_mem_cons.mpr ⟨lw_p51, fun _ h => absurd h List.not_mem_nil⟩⟩⟩⟩
def lw_privs : List (MethodName × Nat) := lw_privs_1 ++ (lw_privs_2 ++ (lw_privs_3 ++ (lw_privs_4)))
def lw_tbl : List Cond := k2_sels lw_privs ++ tables_1
theorem lw_privs_ok : ∀ q ∈ lw_privs, lw_okq q := by
  show ∀ q ∈ lw_privs_1 ++ (lw_privs_2 ++ (lw_privs_3 ++ (lw_privs_4))), lw_okq q
  exact List.forall_mem_append.mpr ⟨lw_r1, List.forall_mem_append.mpr ⟨lw_r2, List.forall_mem_append.mpr ⟨lw_r3, lw_r4⟩⟩⟩
-- ===== end of PART A; then your names; then what follows =====
end
section
theorem goodIn_r {big : List Cond} (ws : List Cond) (ps : List Nat) (hp : ws = ps.filterMap (fun i => big[i]?)) (h : ws.all goodWord = true) : GoodIn big ws := by
  intro w hw
  have h1 := List.all_eq_true.mp h w hw
  rw [hp] at hw
  obtain ⟨i, -, hi⟩ := List.mem_filterMap.mp hw
  have hm : w ∈ big := by first | exact List.mem_of_getElem? hi | exact List.getElem?_mem hi
  exact ⟨hm, good_of_word h1⟩
theorem goodIn_app {big a b : List Cond} (ha : GoodIn big a) (hb : GoodIn big b) : GoodIn big (a ++ b) := fun w h => (List.mem_append.mp h).elim (ha w) (hb w)
theorem goodIn_ca {big a b : List Cond} {c : Cond} (ha : GoodIn big (c :: a)) (hb : GoodIn big b) : GoodIn big (c :: (a ++ b)) := fun w h => (List.mem_cons.mp h).elim (fun e => ha w (List.mem_cons.mpr (Or.inl e))) (fun h => (List.mem_append.mp h).elim (fun h => ha w (List.mem_cons.mpr (Or.inr h))) (hb w))
theorem goodIn_sub {big ws : List Cond} (hm : ∀ w ∈ ws, w ∈ big) (h : ws.all goodWord = true) : GoodIn big ws := fun w hw => ⟨hm w hw, good_of_word (List.all_eq_true.mp h w hw)⟩
def RX0 : String := "GlowDebts$Bank"
def TX0 : u_T := fun k => match k with
  | 0 => ("GlowDebts$Bank", "kinds", "[I", true)
  | 1 => ("GlowDebts$Bank", "owers", "[I", true)
  | 2 => ("GlowDebts$Bank", "creditors", "[I", true)
  | 3 => ("GlowDebts$Bank", "places", "[I", true)
  | 4 => ("GlowDebts$Bank", "firsts", "[I", true)
  | 5 => ("GlowDebts$Bank", "deeds", "[I", true)
  | 6 => ("GlowDebts$Bank", "size", "I", false)
  | 7 => ("GlowDebts$Bank", "litBits", "I", false)
  | 8 => ("GlowDebts$Bank", "nightNow", "I", false)
  | _ => ("GlowDebts$Bank", "done", "I", false)
def tyX0 : Nat → FieldType := fun k => match k with
  | 0 => .array .int
  | 1 => .array .int
  | 2 => .array .int
  | 3 => .array .int
  | 4 => .array .int
  | 5 => .array .int
  | 6 => .int
  | 7 => .int
  | 8 => .int
  | _ => .int
abbrev wsX00 : List Cond := u_ws RX0 TX0 10
theorem nmX0 : ∀ a, a < 10 → ∀ b, b < 10 → a ≠ b → (TX0 a).2.1 ≠ (TX0 b).2.1 := by decide +kernel
theorem tyX0_ok : ∀ k, k < 10 → parseFieldDescriptor (TX0 k).2.2.1 = some (tyX0 k) := by decide +kernel
abbrev cX0_init : ByteArray := prog_2_method_1_code
def yX0_init : MethodName := ⟨RX0, "<init>", "()V"⟩
abbrev cX0_clear : ByteArray := prog_2_method_2_code
def yX0_clear : MethodName := ⟨RX0, "clear", "()V"⟩
abbrev cX0_add : ByteArray := prog_2_method_3_code
def yX0_add : MethodName := ⟨RX0, "add", "(IIIII)V"⟩
abbrev cX0_become : ByteArray := prog_2_method_4_code
def yX0_become : MethodName := ⟨RX0, "become", "(LGlowDebts$Bank;)V"⟩
abbrev cX0_size : ByteArray := prog_2_method_5_code
def yX0_size : MethodName := ⟨RX0, "size", "()I"⟩
abbrev cX0_thisNight : ByteArray := prog_2_method_6_code
def yX0_thisNight : MethodName := ⟨RX0, "thisNight", "()I"⟩
abbrev cX0_deedsDone : ByteArray := prog_2_method_7_code
def yX0_deedsDone : MethodName := ⟨RX0, "deedsDone", "()I"⟩
abbrev cX0_litSet : ByteArray := prog_2_method_8_code
def yX0_litSet : MethodName := ⟨RX0, "litSet", "()I"⟩
abbrev cX0_has : ByteArray := prog_2_method_9_code
def yX0_has : MethodName := ⟨RX0, "has", "(I)Z"⟩
abbrev cX0_isLit : ByteArray := prog_2_method_10_code
def yX0_isLit : MethodName := ⟨RX0, "isLit", "(I)Z"⟩
abbrev cX0_isOwing : ByteArray := prog_2_method_11_code
def yX0_isOwing : MethodName := ⟨RX0, "isOwing", "(I)Z"⟩
abbrev cX0_kindOf : ByteArray := prog_2_method_12_code
def yX0_kindOf : MethodName := ⟨RX0, "kindOf", "(I)I"⟩
abbrev cX0_owerOf : ByteArray := prog_2_method_13_code
def yX0_owerOf : MethodName := ⟨RX0, "owerOf", "(I)I"⟩
abbrev cX0_creditorOf : ByteArray := prog_2_method_14_code
def yX0_creditorOf : MethodName := ⟨RX0, "creditorOf", "(I)I"⟩
abbrev cX0_placeOf : ByteArray := prog_2_method_15_code
def yX0_placeOf : MethodName := ⟨RX0, "placeOf", "(I)I"⟩
abbrev cX0_firstOf : ByteArray := prog_2_method_16_code
def yX0_firstOf : MethodName := ⟨RX0, "firstOf", "(I)I"⟩
abbrev cX0_partOf : ByteArray := prog_2_method_17_code
def yX0_partOf : MethodName := ⟨RX0, "partOf", "(II)I"⟩
abbrev cX0_howManyOf : ByteArray := prog_2_method_18_code
def yX0_howManyOf : MethodName := ⟨RX0, "howManyOf", "(I)I"⟩
abbrev cX0_glowOf : ByteArray := prog_2_method_19_code
def yX0_glowOf : MethodName := ⟨RX0, "glowOf", "(II)I"⟩
abbrev cX0_litGlow : ByteArray := prog_2_method_20_code
def yX0_litGlow : MethodName := ⟨RX0, "litGlow", "()I"⟩
abbrev cX0_faded : ByteArray := prog_2_method_21_code
def yX0_faded : MethodName := ⟨RX0, "faded", "(III)I"⟩
abbrev cX0_glowAt : ByteArray := prog_2_method_22_code
def yX0_glowAt : MethodName := ⟨RX0, "glowAt", "(III)I"⟩
abbrev cX0_brightAt : ByteArray := prog_2_method_23_code
def yX0_brightAt : MethodName := ⟨RX0, "brightAt", "(II)I"⟩
abbrev cX0_brightAlong : ByteArray := prog_2_method_24_code
def yX0_brightAlong : MethodName := ⟨RX0, "brightAlong", "(II)I"⟩
abbrev cX0_shareAlong : ByteArray := prog_2_method_25_code
def yX0_shareAlong : MethodName := ⟨RX0, "shareAlong", "(IIII)I"⟩
abbrev cX0_balanceOf : ByteArray := prog_2_method_26_code
def yX0_balanceOf : MethodName := ⟨RX0, "balanceOf", "(I)I"⟩
abbrev cX0_passNight : ByteArray := prog_2_method_27_code
def yX0_passNight : MethodName := ⟨RX0, "passNight", "()V"⟩
abbrev cX0_putOut : ByteArray := prog_2_method_28_code
def yX0_putOut : MethodName := ⟨RX0, "putOut", "(I)V"⟩
abbrev cX0_lightAgain : ByteArray := prog_2_method_29_code
def yX0_lightAgain : MethodName := ⟨RX0, "lightAgain", "(I)V"⟩
abbrev cX0_carryTo : ByteArray := prog_2_method_30_code
def yX0_carryTo : MethodName := ⟨RX0, "carryTo", "(II)V"⟩
abbrev cX0_doByLot : ByteArray := prog_2_method_31_code
def yX0_doByLot : MethodName := ⟨RX0, "doByLot", "(J)V"⟩
abbrev cX0_write : ByteArray := prog_2_method_32_code
def yX0_write : MethodName := ⟨RX0, "write", "(III)V"⟩
abbrev cX0_takeBackFrom : ByteArray := prog_2_method_33_code
def yX0_takeBackFrom : MethodName := ⟨RX0, "takeBackFrom", "(I)V"⟩
abbrev cX0_takeBack : ByteArray := prog_2_method_34_code
def yX0_takeBack : MethodName := ⟨RX0, "takeBack", "(I)V"⟩
def RX1 : String := "GlowDebts$Chains"
def TX1 : u_T := fun k => match k with
  | _ => ("GlowDebts$Chains", "steps", "[I", true)
def tyX1 : Nat → FieldType := fun k => match k with
  | _ => .array .int
abbrev wsX10 : List Cond := u_ws RX1 TX1 1
theorem nmX1 : ∀ a, a < 1 → ∀ b, b < 1 → a ≠ b → (TX1 a).2.1 ≠ (TX1 b).2.1 := by decide +kernel
theorem tyX1_ok : ∀ k, k < 1 → parseFieldDescriptor (TX1 k).2.2.1 = some (tyX1 k) := by decide +kernel
abbrev cX1_init : ByteArray := prog_3_method_1_code
def yX1_init : MethodName := ⟨RX1, "<init>", "()V"⟩
abbrev cX1_shortest : ByteArray := prog_3_method_2_code
def yX1_shortest : MethodName := ⟨RX1, "shortest", "(LGlowDebts$Bank;II)I"⟩
abbrev cX1_stepsOf : ByteArray := prog_3_method_3_code
def yX1_stepsOf : MethodName := ⟨RX1, "stepsOf", "(I)I"⟩
abbrev cX1_write : ByteArray := prog_3_method_4_code
def yX1_write : MethodName := ⟨RX1, "write", "(LGlowDebts$Bank;ILGlowDebts$Strip;)V"⟩
abbrev cX1_lowestNearer : ByteArray := prog_3_method_5_code
def yX1_lowestNearer : MethodName := ⟨RX1, "lowestNearer", "(LGlowDebts$Bank;I)I"⟩
def RX2 : String := "GlowDebts$Kinds"
def TX2 : u_T := fun k => match k with
  | _ => ("", "", "", false)
def tyX2 : Nat → FieldType := fun k => match k with
  | _ => .int
abbrev wsX20 : List Cond := u_ws RX2 TX2 0
theorem nmX2 : ∀ a, a < 0 → ∀ b, b < 0 → a ≠ b → (TX2 a).2.1 ≠ (TX2 b).2.1 := by decide +kernel
theorem tyX2_ok : ∀ k, k < 0 → parseFieldDescriptor (TX2 k).2.2.1 = some (tyX2 k) := by decide +kernel
abbrev cX2_ofLetter : ByteArray := prog_4_method_2_code
def yX2_ofLetter : MethodName := ⟨RX2, "ofLetter", "(I)I"⟩
abbrev cX2_parentOf : ByteArray := prog_4_method_3_code
def yX2_parentOf : MethodName := ⟨RX2, "parentOf", "(I)I"⟩
abbrev cX2_isOf : ByteArray := prog_4_method_4_code
def yX2_isOf : MethodName := ⟨RX2, "isOf", "(II)Z"⟩
abbrev cX2_glow : ByteArray := prog_4_method_5_code
def yX2_glow : MethodName := ⟨RX2, "glow", "(III)I"⟩
abbrev cX2_signOf : ByteArray := prog_4_method_6_code
def yX2_signOf : MethodName := ⟨RX2, "signOf", "(IIII)I"⟩
def RX3 : String := "GlowDebts$Looks"
def TX3 : u_T := fun k => match k with
  | _ => ("", "", "", false)
def tyX3 : Nat → FieldType := fun k => match k with
  | _ => .int
abbrev wsX30 : List Cond := u_ws RX3 TX3 0
theorem nmX3 : ∀ a, a < 0 → ∀ b, b < 0 → a ≠ b → (TX3 a).2.1 ≠ (TX3 b).2.1 := by decide +kernel
theorem tyX3_ok : ∀ k, k < 0 → parseFieldDescriptor (TX3 k).2.2.1 = some (tyX3 k) := by decide +kernel
abbrev cX3_arePairs : ByteArray := prog_5_method_2_code
def yX3_arePairs : MethodName := ⟨RX3, "arePairs", "(LGlowDebts$Strip;)Z"⟩
abbrev cX3_areTold : ByteArray := prog_5_method_3_code
def yX3_areTold : MethodName := ⟨RX3, "areTold", "(LGlowDebts$Strip;)Z"⟩
abbrev cX3_fit : ByteArray := prog_5_method_4_code
def yX3_fit : MethodName := ⟨RX3, "fit", "(IILGlowDebts$Strip;)Z"⟩
abbrev cX3_fittingFirsts : ByteArray := prog_5_method_5_code
def yX3_fittingFirsts : MethodName := ⟨RX3, "fittingFirsts", "(ILGlowDebts$Strip;)I"⟩
abbrev cX3_fittingKinds : ByteArray := prog_5_method_6_code
def yX3_fittingKinds : MethodName := ⟨RX3, "fittingKinds", "(ILGlowDebts$Strip;)I"⟩
abbrev cX3_tellingNight : ByteArray := prog_5_method_7_code
def yX3_tellingNight : MethodName := ⟨RX3, "tellingNight", "(II)I"⟩
abbrev cX3_largestPart : ByteArray := prog_5_method_8_code
def yX3_largestPart : MethodName := ⟨RX3, "largestPart", "(III)I"⟩
abbrev cX3_howManyGlow : ByteArray := prog_5_method_9_code
def yX3_howManyGlow : MethodName := ⟨RX3, "howManyGlow", "(IIII)I"⟩
abbrev cX3_fittingOwers : ByteArray := prog_5_method_10_code
def yX3_fittingOwers : MethodName := ⟨RX3, "fittingOwers", "(LGlowDebts$Bank;ILGlowDebts$Strip;)I"⟩
abbrev cX3_fitsOwer : ByteArray := prog_5_method_11_code
def yX3_fitsOwer : MethodName := ⟨RX3, "fitsOwer", "(LGlowDebts$Bank;IILGlowDebts$Strip;)Z"⟩
def RX4 : String := "GlowDebts$Sets"
def TX4 : u_T := fun k => match k with
  | 0 => ("GlowDebts$Sets", "weights", "[I", true)
  | _ => ("GlowDebts$Sets", "sums", "[I", true)
def tyX4 : Nat → FieldType := fun k => match k with
  | 0 => .array .int
  | _ => .array .int
abbrev wsX40 : List Cond := u_ws RX4 TX4 2
theorem nmX4 : ∀ a, a < 2 → ∀ b, b < 2 → a ≠ b → (TX4 a).2.1 ≠ (TX4 b).2.1 := by decide +kernel
theorem tyX4_ok : ∀ k, k < 2 → parseFieldDescriptor (TX4 k).2.2.1 = some (tyX4 k) := by decide +kernel
abbrev cX4_init : ByteArray := prog_6_method_1_code
def yX4_init : MethodName := ⟨RX4, "<init>", "()V"⟩
abbrev cX4_setsOf : ByteArray := prog_6_method_2_code
def yX4_setsOf : MethodName := ⟨RX4, "setsOf", "(LGlowDebts$Bank;)I"⟩
abbrev cX4_isWithin : ByteArray := prog_6_method_3_code
def yX4_isWithin : MethodName := ⟨RX4, "isWithin", "(II)Z"⟩
abbrev cX4_sumUp : ByteArray := prog_6_method_4_code
def yX4_sumUp : MethodName := ⟨RX4, "sumUp", "()V"⟩
abbrev cX4_sumGlow : ByteArray := prog_6_method_5_code
def yX4_sumGlow : MethodName := ⟨RX4, "sumGlow", "(LGlowDebts$Bank;I)V"⟩
abbrev cX4_sumDebts : ByteArray := prog_6_method_6_code
def yX4_sumDebts : MethodName := ⟨RX4, "sumDebts", "(LGlowDebts$Bank;)I"⟩
abbrev cX4_largestRing : ByteArray := prog_6_method_7_code
def yX4_largestRing : MethodName := ⟨RX4, "largestRing", "(LGlowDebts$Bank;)I"⟩
abbrev cX4_ringsWith : ByteArray := prog_6_method_8_code
def yX4_ringsWith : MethodName := ⟨RX4, "ringsWith", "(LGlowDebts$Bank;I)I"⟩
abbrev cX4_smallestRingWith : ByteArray := prog_6_method_9_code
def yX4_smallestRingWith : MethodName := ⟨RX4, "smallestRingWith", "(LGlowDebts$Bank;I)I"⟩
abbrev cX4_fewestToAnswer : ByteArray := prog_6_method_10_code
def yX4_fewestToAnswer : MethodName := ⟨RX4, "fewestToAnswer", "(LGlowDebts$Bank;II)I"⟩
abbrev cX4_afterTurns : ByteArray := prog_6_method_11_code
def yX4_afterTurns : MethodName := ⟨RX4, "afterTurns", "(LGlowDebts$Bank;II)I"⟩
abbrev cX4_letOneAnswer : ByteArray := prog_6_method_12_code
def yX4_letOneAnswer : MethodName := ⟨RX4, "letOneAnswer", "(III)V"⟩
abbrev cX4_letOneLight : ByteArray := prog_6_method_13_code
def yX4_letOneLight : MethodName := ⟨RX4, "letOneLight", "(III)V"⟩
abbrev cX4_waysToBeDark : ByteArray := prog_6_method_14_code
def yX4_waysToBeDark : MethodName := ⟨RX4, "waysToBeDark", "(LGlowDebts$Bank;III)J"⟩
abbrev cX4_power : ByteArray := prog_6_method_15_code
def yX4_power : MethodName := ⟨RX4, "power", "(II)J"⟩
def RX5 : String := "GlowDebts$Strip"
def TX5 : u_T := fun k => match k with
  | 0 => ("GlowDebts$Strip", "cells", "[I", true)
  | _ => ("GlowDebts$Strip", "size", "I", false)
def tyX5 : Nat → FieldType := fun k => match k with
  | 0 => .array .int
  | _ => .int
abbrev wsX50 : List Cond := u_ws RX5 TX5 2
theorem nmX5 : ∀ a, a < 2 → ∀ b, b < 2 → a ≠ b → (TX5 a).2.1 ≠ (TX5 b).2.1 := by decide +kernel
theorem tyX5_ok : ∀ k, k < 2 → parseFieldDescriptor (TX5 k).2.2.1 = some (tyX5 k) := by decide +kernel
abbrev cX5_init : ByteArray := prog_7_method_1_code
def yX5_init : MethodName := ⟨RX5, "<init>", "(I)V"⟩
abbrev cX5_room : ByteArray := prog_7_method_2_code
def yX5_room : MethodName := ⟨RX5, "room", "()I"⟩
abbrev cX5_size : ByteArray := prog_7_method_3_code
def yX5_size : MethodName := ⟨RX5, "size", "()I"⟩
abbrev cX5_isMissing : ByteArray := prog_7_method_4_code
def yX5_isMissing : MethodName := ⟨RX5, "isMissing", "()Z"⟩
abbrev cX5_remove : ByteArray := prog_7_method_5_code
def yX5_remove : MethodName := ⟨RX5, "remove", "()V"⟩
abbrev cX5_renew : ByteArray := prog_7_method_6_code
def yX5_renew : MethodName := ⟨RX5, "renew", "(II)V"⟩
abbrev cX5_holds : ByteArray := prog_7_method_7_code
def yX5_holds : MethodName := ⟨RX5, "holds", "(I)Z"⟩
abbrev cX5_get : ByteArray := prog_7_method_8_code
def yX5_get : MethodName := ⟨RX5, "get", "(I)I"⟩
abbrev cX5_set : ByteArray := prog_7_method_9_code
def yX5_set : MethodName := ⟨RX5, "set", "(II)V"⟩
abbrev cX5_holdsRun : ByteArray := prog_7_method_10_code
def yX5_holdsRun : MethodName := ⟨RX5, "holdsRun", "(II)Z"⟩
abbrev cX5_takeRun : ByteArray := prog_7_method_11_code
def yX5_takeRun : MethodName := ⟨RX5, "takeRun", "(ILGlowDebts$Strip;II)V"⟩
abbrev cX5_total : ByteArray := prog_7_method_12_code
def yX5_total : MethodName := ⟨RX5, "total", "()J"⟩
def RX6 : String := "GlowDebts$Ways"
def TX6 : u_T := fun k => match k with
  | _ => ("", "", "", false)
def tyX6 : Nat → FieldType := fun k => match k with
  | _ => .int
abbrev wsX60 : List Cond := u_ws RX6 TX6 0
theorem nmX6 : ∀ a, a < 0 → ∀ b, b < 0 → a ≠ b → (TX6 a).2.1 ≠ (TX6 b).2.1 := by decide +kernel
theorem tyX6_ok : ∀ k, k < 0 → parseFieldDescriptor (TX6 k).2.2.1 = some (tyX6 k) := by decide +kernel
abbrev cX6_darkest : ByteArray := prog_8_method_2_code
def yX6_darkest : MethodName := ⟨RX6, "darkest", "(LGlowDebts$Bank;)I"⟩
abbrev cX6_brightness : ByteArray := prog_8_method_3_code
def yX6_brightness : MethodName := ⟨RX6, "brightness", "(I)I"⟩
abbrev cX6_placesOnRoad : ByteArray := prog_8_method_4_code
def yX6_placesOnRoad : MethodName := ⟨RX6, "placesOnRoad", "(I)I"⟩
def RX7 : String := "GlowDebts$Wording"
def TX7 : u_T := fun k => match k with
  | _ => ("", "", "", false)
def tyX7 : Nat → FieldType := fun k => match k with
  | _ => .int
abbrev wsX70 : List Cond := u_ws RX7 TX7 0
theorem nmX7 : ∀ a, a < 0 → ∀ b, b < 0 → a ≠ b → (TX7 a).2.1 ≠ (TX7 b).2.1 := by decide +kernel
theorem tyX7_ok : ∀ k, k < 0 → parseFieldDescriptor (TX7 k).2.2.1 = some (tyX7 k) := by decide +kernel
abbrev cX7_firstFault : ByteArray := prog_9_method_2_code
def yX7_firstFault : MethodName := ⟨RX7, "firstFault", "(LGlowDebts$Strip;)I"⟩
abbrev cX7_itemFault : ByteArray := prog_9_method_3_code
def yX7_itemFault : MethodName := ⟨RX7, "itemFault", "(LGlowDebts$Strip;I)I"⟩
abbrev cX7_isFigureOf : ByteArray := prog_9_method_4_code
def yX7_isFigureOf : MethodName := ⟨RX7, "isFigureOf", "(LGlowDebts$Strip;II)Z"⟩
abbrev cX7_figureAt : ByteArray := prog_9_method_5_code
def yX7_figureAt : MethodName := ⟨RX7, "figureAt", "(LGlowDebts$Strip;I)I"⟩
abbrev cX7_readInto : ByteArray := prog_9_method_6_code
def yX7_readInto : MethodName := ⟨RX7, "readInto", "(LGlowDebts$Bank;LGlowDebts$Strip;)V"⟩
def RX8 : String := "GlowDebts"
def TX8 : u_T := fun k => match k with
  | 0 => ("GlowDebts", "rows", "[LGlowDebts$Strip;", true)
  | 1 => ("GlowDebts", "texts", "[LGlowDebts$Strip;", true)
  | 2 => ("GlowDebts", "now", "LGlowDebts$Bank;", true)
  | 3 => ("GlowDebts", "keeps", "[LGlowDebts$Bank;", true)
  | 4 => ("GlowDebts", "sets", "LGlowDebts$Sets;", true)
  | 5 => ("GlowDebts", "chains", "LGlowDebts$Chains;", true)
  | 6 => ("GlowDebts", "found", "[I", true)
  | 7 => ("GlowDebts", "latestFound", "I", false)
  | 8 => ("GlowDebts", "toldAside", "I", false)
  | 9 => ("GlowDebts", "toldUpper", "J", false)
  | _ => ("GlowDebts", "toldLower", "J", false)
def tyX8 : Nat → FieldType := fun k => match k with
  | 0 => .array (.object "GlowDebts$Strip")
  | 1 => .array (.object "GlowDebts$Strip")
  | 2 => .object "GlowDebts$Bank"
  | 3 => .array (.object "GlowDebts$Bank")
  | 4 => .object "GlowDebts$Sets"
  | 5 => .object "GlowDebts$Chains"
  | 6 => .array .int
  | 7 => .int
  | 8 => .int
  | 9 => .long
  | _ => .long
abbrev wsX80 : List Cond := u_ws RX8 TX8 11
theorem nmX8 : ∀ a, a < 11 → ∀ b, b < 11 → a ≠ b → (TX8 a).2.1 ≠ (TX8 b).2.1 := by decide +kernel
theorem tyX8_ok : ∀ k, k < 11 → parseFieldDescriptor (TX8 k).2.2.1 = some (tyX8 k) := by decide +kernel
abbrev cX8_init : ByteArray := prog_1_method_1_code
def yX8_init : MethodName := ⟨RX8, "<init>", "()V"⟩
abbrev cX8_row : ByteArray := prog_1_method_2_code
def yX8_row : MethodName := ⟨RX8, "row", "(II)I"⟩
abbrev cX8_lay : ByteArray := prog_1_method_3_code
def yX8_lay : MethodName := ⟨RX8, "lay", "(III)I"⟩
abbrev cX8_at : ByteArray := prog_1_method_4_code
def yX8_at : MethodName := ⟨RX8, "at", "(II)I"⟩
abbrev cX8_tear : ByteArray := prog_1_method_5_code
def yX8_tear : MethodName := ⟨RX8, "tear", "(I)I"⟩
abbrev cX8_copy : ByteArray := prog_1_method_6_code
def yX8_copy : MethodName := ⟨RX8, "copy", "(IIIII)I"⟩
abbrev cX8_mean : ByteArray := prog_1_method_7_code
def yX8_mean : MethodName := ⟨RX8, "mean", "(I)I"⟩
abbrev cX8_text : ByteArray := prog_1_method_8_code
def yX8_text : MethodName := ⟨RX8, "text", "(II)I"⟩
abbrev cX8_put : ByteArray := prog_1_method_9_code
def yX8_put : MethodName := ⟨RX8, "put", "(III)I"⟩
abbrev cX8_fault : ByteArray := prog_1_method_10_code
def yX8_fault : MethodName := ⟨RX8, "fault", "(I)I"⟩
abbrev cX8_bank : ByteArray := prog_1_method_11_code
def yX8_bank : MethodName := ⟨RX8, "bank", "(I)I"⟩
abbrev cX8_light : ByteArray := prog_1_method_12_code
def yX8_light : MethodName := ⟨RX8, "light", "(II)I"⟩
abbrev cX8_mark : ByteArray := prog_1_method_13_code
def yX8_mark : MethodName := ⟨RX8, "mark", "(II)I"⟩
abbrev cX8_glows : ByteArray := prog_1_method_14_code
def yX8_glows : MethodName := ⟨RX8, "glows", "(II)I"⟩
abbrev cX8_night : ByteArray := prog_1_method_15_code
def yX8_night : MethodName := ⟨RX8, "night", "()I"⟩
abbrev cX8_answer : ByteArray := prog_1_method_16_code
def yX8_answer : MethodName := ⟨RX8, "answer", "(I)I"⟩
abbrev cX8_relight : ByteArray := prog_1_method_17_code
def yX8_relight : MethodName := ⟨RX8, "relight", "(I)I"⟩
abbrev cX8_carry : ByteArray := prog_1_method_18_code
def yX8_carry : MethodName := ⟨RX8, "carry", "(II)I"⟩
abbrev cX8_undo : ByteArray := prog_1_method_19_code
def yX8_undo : MethodName := ⟨RX8, "undo", "(I)I"⟩
abbrev cX8_keep : ByteArray := prog_1_method_20_code
def yX8_keep : MethodName := ⟨RX8, "keep", "(I)I"⟩
abbrev cX8_on : ByteArray := prog_1_method_21_code
def yX8_on : MethodName := ⟨RX8, "on", "(I)I"⟩
abbrev cX8_bright : ByteArray := prog_1_method_22_code
def yX8_bright : MethodName := ⟨RX8, "bright", "(I)I"⟩
abbrev cX8_along : ByteArray := prog_1_method_23_code
def yX8_along : MethodName := ⟨RX8, "along", "(II)I"⟩
abbrev cX8_when : ByteArray := prog_1_method_24_code
def yX8_when : MethodName := ⟨RX8, "when", "(II)I"⟩
abbrev cX8_stow : ByteArray := prog_1_method_25_code
def yX8_stow : MethodName := ⟨RX8, "stow", "(III)I"⟩
abbrev cX8_dark : ByteArray := prog_1_method_26_code
def yX8_dark : MethodName := ⟨RX8, "dark", "(I)I"⟩
abbrev cX8_road : ByteArray := prog_1_method_27_code
def yX8_road : MethodName := ⟨RX8, "road", "()I"⟩
abbrev cX8_owes : ByteArray := prog_1_method_28_code
def yX8_owes : MethodName := ⟨RX8, "owes", "(I)I"⟩
abbrev cX8_ring : ByteArray := prog_1_method_29_code
def yX8_ring : MethodName := ⟨RX8, "ring", "()I"⟩
abbrev cX8_rings : ByteArray := prog_1_method_30_code
def yX8_rings : MethodName := ⟨RX8, "rings", "(I)I"⟩
abbrev cX8_least : ByteArray := prog_1_method_31_code
def yX8_least : MethodName := ⟨RX8, "least", "(I)I"⟩
abbrev cX8_chain : ByteArray := prog_1_method_32_code
def yX8_chain : MethodName := ⟨RX8, "chain", "(III)I"⟩
abbrev cX8_dim : ByteArray := prog_1_method_33_code
def yX8_dim : MethodName := ⟨RX8, "dim", "(II)I"⟩
abbrev cX8_firsts : ByteArray := prog_1_method_34_code
def yX8_firsts : MethodName := ⟨RX8, "firsts", "(II)I"⟩
abbrev cX8_kinds : ByteArray := prog_1_method_35_code
def yX8_kinds : MethodName := ⟨RX8, "kinds", "(II)I"⟩
abbrev cX8_test : ByteArray := prog_1_method_36_code
def yX8_test : MethodName := ⟨RX8, "test", "(II)I"⟩
abbrev cX8_whose : ByteArray := prog_1_method_37_code
def yX8_whose : MethodName := ⟨RX8, "whose", "(II)I"⟩
abbrev cX8_duel : ByteArray := prog_1_method_38_code
def yX8_duel : MethodName := ⟨RX8, "duel", "(II)I"⟩
abbrev cX8_odds : ByteArray := prog_1_method_39_code
def yX8_odds : MethodName := ⟨RX8, "odds", "(III)I"⟩
abbrev cX8_mid : ByteArray := prog_1_method_40_code
def yX8_mid : MethodName := ⟨RX8, "mid", "(II)I"⟩
abbrev cX8_lots : ByteArray := prog_1_method_41_code
def yX8_lots : MethodName := ⟨RX8, "lots", "(II)I"⟩
abbrev cX8_asked : ByteArray := prog_1_method_42_code
def yX8_asked : MethodName := ⟨RX8, "asked", "()I"⟩
abbrev cX8_upper : ByteArray := prog_1_method_43_code
def yX8_upper : MethodName := ⟨RX8, "upper", "()J"⟩
abbrev cX8_lower : ByteArray := prog_1_method_44_code
def yX8_lower : MethodName := ⟨RX8, "lower", "()J"⟩
abbrev cX8_count : ByteArray := prog_1_method_45_code
def yX8_count : MethodName := ⟨RX8, "count", "(I)I"⟩
abbrev cX8_finding : ByteArray := prog_1_method_46_code
def yX8_finding : MethodName := ⟨RX8, "finding", "()I"⟩
abbrev cX8_findings : ByteArray := prog_1_method_47_code
def yX8_findings : MethodName := ⟨RX8, "findings", "(I)I"⟩
abbrev cX8_digest : ByteArray := prog_1_method_48_code
def yX8_digest : MethodName := ⟨RX8, "digest", "()J"⟩
abbrev cX8_isPlace : ByteArray := prog_1_method_49_code
def yX8_isPlace : MethodName := ⟨RX8, "isPlace", "(I)Z"⟩
abbrev cX8_isPerson : ByteArray := prog_1_method_50_code
def yX8_isPerson : MethodName := ⟨RX8, "isPerson", "(I)Z"⟩
abbrev cX8_isStretch : ByteArray := prog_1_method_51_code
def yX8_isStretch : MethodName := ⟨RX8, "isStretch", "(II)Z"⟩
abbrev cX8_rowOf : ByteArray := prog_1_method_52_code
def yX8_rowOf : MethodName := ⟨RX8, "rowOf", "(I)LGlowDebts$Strip;"⟩
abbrev cX8_textOf : ByteArray := prog_1_method_53_code
def yX8_textOf : MethodName := ⟨RX8, "textOf", "(I)LGlowDebts$Strip;"⟩
abbrev cX8_keepOf : ByteArray := prog_1_method_54_code
def yX8_keepOf : MethodName := ⟨RX8, "keepOf", "(I)LGlowDebts$Bank;"⟩
abbrev cX8_refuse : ByteArray := prog_1_method_55_code
def yX8_refuse : MethodName := ⟨RX8, "refuse", "(I)I"⟩
abbrev cX8_refusedMissing : ByteArray := prog_1_method_56_code
def yX8_refusedMissing : MethodName := ⟨RX8, "refusedMissing", "(LGlowDebts$Strip;)I"⟩
abbrev cX8_refusedAt : ByteArray := prog_1_method_57_code
def yX8_refusedAt : MethodName := ⟨RX8, "refusedAt", "(LGlowDebts$Strip;I)I"⟩
abbrev cX8_refusedLooks : ByteArray := prog_1_method_58_code
def yX8_refusedLooks : MethodName := ⟨RX8, "refusedLooks", "(ILGlowDebts$Strip;)I"⟩
abbrev cX8_makeAnew : ByteArray := prog_1_method_59_code
def yX8_makeAnew : MethodName := ⟨RX8, "makeAnew", "(LGlowDebts$Strip;II)I"⟩
abbrev cX8_tellInLowestTerms : ByteArray := prog_1_method_60_code
def yX8_tellInLowestTerms : MethodName := ⟨RX8, "tellInLowestTerms", "(JJ)V"⟩
abbrev cX8_greatestDivisor : ByteArray := prog_1_method_61_code
def yX8_greatestDivisor : MethodName := ⟨RX8, "greatestDivisor", "(JJ)J"⟩
abbrev cX8_howManyThere : ByteArray := prog_1_method_62_code
def yX8_howManyThere : MethodName := ⟨RX8, "howManyThere", "([LGlowDebts$Strip;)I"⟩
abbrev cX8_howManyKept : ByteArray := prog_1_method_63_code
def yX8_howManyKept : MethodName := ⟨RX8, "howManyKept", "()I"⟩
abbrev cX8_digestOf : ByteArray := prog_1_method_64_code
def yX8_digestOf : MethodName := ⟨RX8, "digestOf", "(J[LGlowDebts$Strip;)J"⟩
def RX9 : String := "GlowDebtsModel"
def TX9 : u_T := fun k => match k with
  | 0 => ("GlowDebtsModel", "w", "[I", true)
  | 1 => ("GlowDebtsModel", "rowSize", "[I", true)
  | 2 => ("GlowDebtsModel", "ints", "[I", true)
  | 3 => ("GlowDebtsModel", "textSize", "[I", true)
  | 4 => ("GlowDebtsModel", "bytes", "[I", true)
  | 5 => ("GlowDebtsModel", "found", "I", false)
  | 6 => ("GlowDebtsModel", "finds", "[I", true)
  | 7 => ("GlowDebtsModel", "asked", "I", false)
  | 8 => ("GlowDebtsModel", "upper", "J", false)
  | 9 => ("GlowDebtsModel", "lower", "J", false)
  | 10 => ("GlowDebtsModel", "held", "[I", true)
  | 11 => ("GlowDebtsModel", "from", "I", false)
  | 12 => ("GlowDebtsModel", "place", "I", false)
  | 13 => ("GlowDebtsModel", "end", "I", false)
  | 14 => ("GlowDebtsModel", "number", "I", false)
  | 15 => ("GlowDebtsModel", "readMany", "I", false)
  | 16 => ("GlowDebtsModel", "read", "[I", true)
  | 17 => ("GlowDebtsModel", "brights", "[I", true)
  | 18 => ("GlowDebtsModel", "away", "[I", true)
  | 19 => ("GlowDebtsModel", "litBy", "[I", true)
  | 20 => ("GlowDebtsModel", "tried", "[I", true)
  | 21 => ("GlowDebtsModel", "best", "[I", true)
  | _ => ("GlowDebtsModel", "h", "J", false)
def tyX9 : Nat → FieldType := fun k => match k with
  | 0 => .array .int
  | 1 => .array .int
  | 2 => .array .int
  | 3 => .array .int
  | 4 => .array .int
  | 5 => .int
  | 6 => .array .int
  | 7 => .int
  | 8 => .long
  | 9 => .long
  | 10 => .array .int
  | 11 => .int
  | 12 => .int
  | 13 => .int
  | 14 => .int
  | 15 => .int
  | 16 => .array .int
  | 17 => .array .int
  | 18 => .array .int
  | 19 => .array .int
  | 20 => .array .int
  | 21 => .array .int
  | _ => .long
abbrev wsX90 : List Cond := u_ws RX9 TX9 23
theorem nmX9 : ∀ a, a < 23 → ∀ b, b < 23 → a ≠ b → (TX9 a).2.1 ≠ (TX9 b).2.1 := by decide +kernel
theorem tyX9_ok : ∀ k, k < 23 → parseFieldDescriptor (TX9 k).2.2.1 = some (tyX9 k) := by decide +kernel
abbrev cX9_init : ByteArray := prog_11_method_1_code
def yX9_init : MethodName := ⟨RX9, "<init>", "()V"⟩
abbrev cX9_in : ByteArray := prog_11_method_3_code
def yX9_in : MethodName := ⟨RX9, "in", "(JJJ)Z"⟩
abbrev cX9_has : ByteArray := prog_11_method_4_code
def yX9_has : MethodName := ⟨RX9, "has", "(II)Z"⟩
abbrev cX9_ones : ByteArray := prog_11_method_5_code
def yX9_ones : MethodName := ⟨RX9, "ones", "(I)I"⟩
abbrev cX9_finds : ByteArray := prog_11_method_6_code
def yX9_finds : MethodName := ⟨RX9, "finds", "(I)I"⟩
abbrev cX9_tells : ByteArray := prog_11_method_7_code
def yX9_tells : MethodName := ⟨RX9, "tells", "(I)I"⟩
abbrev cX9_bring : ByteArray := prog_11_method_8_code
def yX9_bring : MethodName := ⟨RX9, "bring", "(II)V"⟩
abbrev cX9_isRow : ByteArray := prog_11_method_9_code
def yX9_isRow : MethodName := ⟨RX9, "isRow", "(I)Z"⟩
abbrev cX9_isText : ByteArray := prog_11_method_10_code
def yX9_isText : MethodName := ⟨RX9, "isText", "(I)Z"⟩
abbrev cX9_isLight : ByteArray := prog_11_method_11_code
def yX9_isLight : MethodName := ⟨RX9, "isLight", "(I)Z"⟩
abbrev cX9_isPlace : ByteArray := prog_11_method_12_code
def yX9_isPlace : MethodName := ⟨RX9, "isPlace", "(I)Z"⟩
abbrev cX9_row : ByteArray := prog_11_method_13_code
def yX9_row : MethodName := ⟨RX9, "row", "(II)I"⟩
abbrev cX9_lay : ByteArray := prog_11_method_14_code
def yX9_lay : MethodName := ⟨RX9, "lay", "(III)I"⟩
abbrev cX9_at : ByteArray := prog_11_method_15_code
def yX9_at : MethodName := ⟨RX9, "at", "(II)I"⟩
abbrev cX9_tear : ByteArray := prog_11_method_16_code
def yX9_tear : MethodName := ⟨RX9, "tear", "(I)I"⟩
abbrev cX9_copy : ByteArray := prog_11_method_17_code
def yX9_copy : MethodName := ⟨RX9, "copy", "(IIIII)I"⟩
abbrev cX9_mean : ByteArray := prog_11_method_18_code
def yX9_mean : MethodName := ⟨RX9, "mean", "(I)I"⟩
abbrev cX9_text : ByteArray := prog_11_method_19_code
def yX9_text : MethodName := ⟨RX9, "text", "(II)I"⟩
abbrev cX9_put : ByteArray := prog_11_method_20_code
def yX9_put : MethodName := ⟨RX9, "put", "(III)I"⟩
abbrev cX9_here : ByteArray := prog_11_method_21_code
def yX9_here : MethodName := ⟨RX9, "here", "()I"⟩
abbrev cX9_kindOf : ByteArray := prog_11_method_22_code
def yX9_kindOf : MethodName := ⟨RX9, "kindOf", "(I)I"⟩
abbrev cX9_takes : ByteArray := prog_11_method_23_code
def yX9_takes : MethodName := ⟨RX9, "takes", "(II)Z"⟩
abbrev cX9_takesLight : ByteArray := prog_11_method_24_code
def yX9_takesLight : MethodName := ⟨RX9, "takesLight", "()Z"⟩
abbrev cX9_faultOf : ByteArray := prog_11_method_25_code
def yX9_faultOf : MethodName := ⟨RX9, "faultOf", "(I)I"⟩
abbrev cX9_fault : ByteArray := prog_11_method_26_code
def yX9_fault : MethodName := ⟨RX9, "fault", "(I)I"⟩
abbrev cX9_bank : ByteArray := prog_11_method_27_code
def yX9_bank : MethodName := ⟨RX9, "bank", "(I)I"⟩
abbrev cX9_dew : ByteArray := prog_11_method_28_code
def yX9_dew : MethodName := ⟨RX9, "dew", "(II)I"⟩
abbrev cX9_forged : ByteArray := prog_11_method_29_code
def yX9_forged : MethodName := ⟨RX9, "forged", "(II)I"⟩
abbrev cX9_glowBy : ByteArray := prog_11_method_30_code
def yX9_glowBy : MethodName := ⟨RX9, "glowBy", "(III)I"⟩
abbrev cX9_glowOf : ByteArray := prog_11_method_31_code
def yX9_glowOf : MethodName := ⟨RX9, "glowOf", "(II)I"⟩
abbrev cX9_light : ByteArray := prog_11_method_32_code
def yX9_light : MethodName := ⟨RX9, "light", "(II)I"⟩
abbrev cX9_lightOf : ByteArray := prog_11_method_33_code
def yX9_lightOf : MethodName := ⟨RX9, "lightOf", "(II)I"⟩
abbrev cX9_isA : ByteArray := prog_11_method_34_code
def yX9_isA : MethodName := ⟨RX9, "isA", "(II)Z"⟩
abbrev cX9_mark : ByteArray := prog_11_method_35_code
def yX9_mark : MethodName := ⟨RX9, "mark", "(II)I"⟩
abbrev cX9_glows : ByteArray := prog_11_method_36_code
def yX9_glows : MethodName := ⟨RX9, "glows", "(II)I"⟩
abbrev cX9_minds : ByteArray := prog_11_method_37_code
def yX9_minds : MethodName := ⟨RX9, "minds", "()V"⟩
abbrev cX9_glowAll : ByteArray := prog_11_method_38_code
def yX9_glowAll : MethodName := ⟨RX9, "glowAll", "()I"⟩
abbrev cX9_night : ByteArray := prog_11_method_39_code
def yX9_night : MethodName := ⟨RX9, "night", "()I"⟩
abbrev cX9_lights : ByteArray := prog_11_method_40_code
def yX9_lights : MethodName := ⟨RX9, "lights", "(IZ)I"⟩
abbrev cX9_answer : ByteArray := prog_11_method_41_code
def yX9_answer : MethodName := ⟨RX9, "answer", "(I)I"⟩
abbrev cX9_relight : ByteArray := prog_11_method_42_code
def yX9_relight : MethodName := ⟨RX9, "relight", "(I)I"⟩
abbrev cX9_carry : ByteArray := prog_11_method_43_code
def yX9_carry : MethodName := ⟨RX9, "carry", "(II)I"⟩
abbrev cX9_undo : ByteArray := prog_11_method_44_code
def yX9_undo : MethodName := ⟨RX9, "undo", "(I)I"⟩
abbrev cX9_keep : ByteArray := prog_11_method_45_code
def yX9_keep : MethodName := ⟨RX9, "keep", "(I)I"⟩
abbrev cX9_on : ByteArray := prog_11_method_46_code
def yX9_on : MethodName := ⟨RX9, "on", "(I)I"⟩
abbrev cX9_size : ByteArray := prog_11_method_47_code
def yX9_size : MethodName := ⟨RX9, "size", "(I)I"⟩
abbrev cX9_gives : ByteArray := prog_11_method_48_code
def yX9_gives : MethodName := ⟨RX9, "gives", "(IIII)I"⟩
abbrev cX9_brightBy : ByteArray := prog_11_method_49_code
def yX9_brightBy : MethodName := ⟨RX9, "brightBy", "(III)I"⟩
abbrev cX9_brightNow : ByteArray := prog_11_method_50_code
def yX9_brightNow : MethodName := ⟨RX9, "brightNow", "(I)I"⟩
abbrev cX9_alongNow : ByteArray := prog_11_method_51_code
def yX9_alongNow : MethodName := ⟨RX9, "alongNow", "(II)I"⟩
abbrev cX9_bright : ByteArray := prog_11_method_52_code
def yX9_bright : MethodName := ⟨RX9, "bright", "(I)I"⟩
abbrev cX9_along : ByteArray := prog_11_method_53_code
def yX9_along : MethodName := ⟨RX9, "along", "(II)I"⟩
abbrev cX9_when : ByteArray := prog_11_method_54_code
def yX9_when : MethodName := ⟨RX9, "when", "(II)I"⟩
abbrev cX9_stow : ByteArray := prog_11_method_55_code
def yX9_stow : MethodName := ⟨RX9, "stow", "(III)I"⟩
abbrev cX9_dark : ByteArray := prog_11_method_56_code
def yX9_dark : MethodName := ⟨RX9, "dark", "(I)I"⟩
abbrev cX9_road : ByteArray := prog_11_method_57_code
def yX9_road : MethodName := ⟨RX9, "road", "()I"⟩
abbrev cX9_isForged : ByteArray := prog_11_method_58_code
def yX9_isForged : MethodName := ⟨RX9, "isForged", "(I)Z"⟩
abbrev cX9_debts : ByteArray := prog_11_method_59_code
def yX9_debts : MethodName := ⟨RX9, "debts", "()I"⟩
abbrev cX9_owesBy : ByteArray := prog_11_method_60_code
def yX9_owesBy : MethodName := ⟨RX9, "owesBy", "(II)I"⟩
abbrev cX9_isRing : ByteArray := prog_11_method_61_code
def yX9_isRing : MethodName := ⟨RX9, "isRing", "(I)Z"⟩
abbrev cX9_owes : ByteArray := prog_11_method_62_code
def yX9_owes : MethodName := ⟨RX9, "owes", "(I)I"⟩
abbrev cX9_ring : ByteArray := prog_11_method_63_code
def yX9_ring : MethodName := ⟨RX9, "ring", "()I"⟩
abbrev cX9_rings : ByteArray := prog_11_method_64_code
def yX9_rings : MethodName := ⟨RX9, "rings", "(I)I"⟩
abbrev cX9_least : ByteArray := prog_11_method_65_code
def yX9_least : MethodName := ⟨RX9, "least", "(I)I"⟩
abbrev cX9_chain : ByteArray := prog_11_method_66_code
def yX9_chain : MethodName := ⟨RX9, "chain", "(III)I"⟩
abbrev cX9_dim : ByteArray := prog_11_method_67_code
def yX9_dim : MethodName := ⟨RX9, "dim", "(II)I"⟩
abbrev cX9_against : ByteArray := prog_11_method_68_code
def yX9_against : MethodName := ⟨RX9, "against", "(I)I"⟩
abbrev cX9_fits : ByteArray := prog_11_method_69_code
def yX9_fits : MethodName := ⟨RX9, "fits", "(III)Z"⟩
abbrev cX9_firsts : ByteArray := prog_11_method_70_code
def yX9_firsts : MethodName := ⟨RX9, "firsts", "(II)I"⟩
abbrev cX9_kindsOf : ByteArray := prog_11_method_71_code
def yX9_kindsOf : MethodName := ⟨RX9, "kindsOf", "(II)I"⟩
abbrev cX9_kinds : ByteArray := prog_11_method_72_code
def yX9_kinds : MethodName := ⟨RX9, "kinds", "(II)I"⟩
abbrev cX9_greatestPart : ByteArray := prog_11_method_73_code
def yX9_greatestPart : MethodName := ⟨RX9, "greatestPart", "(III)I"⟩
abbrev cX9_test : ByteArray := prog_11_method_74_code
def yX9_test : MethodName := ⟨RX9, "test", "(II)I"⟩
abbrev cX9_whose : ByteArray := prog_11_method_75_code
def yX9_whose : MethodName := ⟨RX9, "whose", "(II)I"⟩
abbrev cX9_duel : ByteArray := prog_11_method_76_code
def yX9_duel : MethodName := ⟨RX9, "duel", "(II)I"⟩
abbrev cX9_betters : ByteArray := prog_11_method_77_code
def yX9_betters : MethodName := ⟨RX9, "betters", "(I)V"⟩
abbrev cX9_tellsPart : ByteArray := prog_11_method_78_code
def yX9_tellsPart : MethodName := ⟨RX9, "tellsPart", "(JJ)I"⟩
abbrev cX9_chances : ByteArray := prog_11_method_79_code
def yX9_chances : MethodName := ⟨RX9, "chances", "(III)I"⟩
abbrev cX9_odds : ByteArray := prog_11_method_80_code
def yX9_odds : MethodName := ⟨RX9, "odds", "(III)I"⟩
abbrev cX9_mid : ByteArray := prog_11_method_81_code
def yX9_mid : MethodName := ⟨RX9, "mid", "(II)I"⟩
abbrev cX9_lots : ByteArray := prog_11_method_82_code
def yX9_lots : MethodName := ⟨RX9, "lots", "(II)I"⟩
abbrev cX9_asked : ByteArray := prog_11_method_83_code
def yX9_asked : MethodName := ⟨RX9, "asked", "()I"⟩
abbrev cX9_upper : ByteArray := prog_11_method_84_code
def yX9_upper : MethodName := ⟨RX9, "upper", "()J"⟩
abbrev cX9_lower : ByteArray := prog_11_method_85_code
def yX9_lower : MethodName := ⟨RX9, "lower", "()J"⟩
abbrev cX9_manyOf : ByteArray := prog_11_method_86_code
def yX9_manyOf : MethodName := ⟨RX9, "manyOf", "(II)I"⟩
abbrev cX9_rowsThere : ByteArray := prog_11_method_87_code
def yX9_rowsThere : MethodName := ⟨RX9, "rowsThere", "()I"⟩
abbrev cX9_textsThere : ByteArray := prog_11_method_88_code
def yX9_textsThere : MethodName := ⟨RX9, "textsThere", "()I"⟩
abbrev cX9_banksKept : ByteArray := prog_11_method_89_code
def yX9_banksKept : MethodName := ⟨RX9, "banksKept", "()I"⟩
abbrev cX9_count : ByteArray := prog_11_method_90_code
def yX9_count : MethodName := ⟨RX9, "count", "(I)I"⟩
abbrev cX9_finding : ByteArray := prog_11_method_91_code
def yX9_finding : MethodName := ⟨RX9, "finding", "()I"⟩
abbrev cX9_findings : ByteArray := prog_11_method_92_code
def yX9_findings : MethodName := ⟨RX9, "findings", "(I)I"⟩
abbrev cX9_mix : ByteArray := prog_11_method_93_code
def yX9_mix : MethodName := ⟨RX9, "mix", "(J)V"⟩
abbrev cX9_digest : ByteArray := prog_11_method_94_code
def yX9_digest : MethodName := ⟨RX9, "digest", "()J"⟩
def RJ6 : String := "java/lang/Integer"
def TJ6 : u_T := fun k => match k with
  | _ => ("", "", "", false)
def tyJ6 : Nat → FieldType := fun k => match k with
  | _ => .int
abbrev wsJ60 : List Cond := u_ws RJ6 TJ6 0
theorem nmJ6 : ∀ a, a < 0 → ∀ b, b < 0 → a ≠ b → (TJ6 a).2.1 ≠ (TJ6 b).2.1 := by decide +kernel
theorem tyJ6_ok : ∀ k, k < 0 → parseFieldDescriptor (TJ6 k).2.2.1 = some (tyJ6 k) := by decide +kernel
abbrev cJ6_bitCount_0f7a4 : ByteArray := prog_12_method_49_code
def yJ6_bitCount_0f7a4 : MethodName := ⟨RJ6, "bitCount", "(I)I"⟩
def RJ9 : String := "java/lang/Math"
def TJ9 : u_T := fun k => match k with
  | _ => ("", "", "", false)
def tyJ9 : Nat → FieldType := fun k => match k with
  | _ => .int
abbrev wsJ90 : List Cond := u_ws RJ9 TJ9 0
theorem nmJ9 : ∀ a, a < 0 → ∀ b, b < 0 → a ≠ b → (TJ9 a).2.1 ≠ (TJ9 b).2.1 := by decide +kernel
theorem tyJ9_ok : ∀ k, k < 0 → parseFieldDescriptor (TJ9 k).2.2.1 = some (tyJ9 k) := by decide +kernel
abbrev cJ9_abs_0f7a4 : ByteArray := prog_13_method_59_code
def yJ9_abs_0f7a4 : MethodName := ⟨RJ9, "abs", "(I)I"⟩
abbrev cJ9_max_7cf53 : ByteArray := prog_13_method_65_code
def yJ9_max_7cf53 : MethodName := ⟨RJ9, "max", "(II)I"⟩
abbrev cJ9_min_7cf53 : ByteArray := prog_13_method_69_code
def yJ9_min_7cf53 : MethodName := ⟨RJ9, "min", "(II)I"⟩
def RJ10 : String := "java/lang/System"
def TJ10 : u_T := fun k => match k with
  | _ => ("", "", "", false)
def tyJ10 : Nat → FieldType := fun k => match k with
  | _ => .int
abbrev wsJ100 : List Cond := u_ws RJ10 TJ10 0
theorem nmJ10 : ∀ a, a < 0 → ∀ b, b < 0 → a ≠ b → (TJ10 a).2.1 ≠ (TJ10 b).2.1 := by decide +kernel
theorem tyJ10_ok : ∀ k, k < 0 → parseFieldDescriptor (TJ10 k).2.2.1 = some (tyJ10 k) := by decide +kernel
def RL : String := "GlowDebtsLaw"
abbrev cL_law : ByteArray := code
def yL_law : MethodName := ⟨RL, "law", "([I)Z"⟩
abbrev vwCl : List vw_C := [(RX0, TX0, 10), (RX1, TX1, 1), (RX4, TX4, 2), (RX5, TX5, 2), (RX8, TX8, 11), (RX9, TX9, 23)]
end
section
/-! the good words of the tables: those that a callee may be given -/
def TT : List Cond := lw_tbl.filter goodWord
theorem TT_in : ∀ w ∈ TT, w ∈ lw_tbl := fun _ h => (List.mem_filter.mp h).1
theorem TT_ok : GoodIn TT TT := fun _ h => ⟨h, good_of_word (List.mem_filter.mp h).2⟩
theorem TT_of {w : Cond} (h : w ∈ tables_1) (hg : goodWord w = true) : w ∈ TT := List.mem_filter.mpr ⟨List.mem_append_right _ h, hg⟩
theorem TT_pv {w : Cond} (h : w ∈ k2_sels lw_privs) (hg : goodWord w = true) : w ∈ TT := List.mem_filter.mpr ⟨List.mem_append_left _ h, hg⟩
theorem TT_2 {a : Cond} {l : List Cond} (ha : a ∈ TT) (h : GoodIn TT l) : GoodIn TT (a :: l) := fun w hw => by
  rcases List.mem_cons.mp hw with rfl | hw
  · exact TT_ok _ ha
  · exact h w hw
theorem TT_0 : GoodIn TT [] := fun w hw => by cases hw
theorem TT_t0 {w : Cond} (h : w ∈ tables_1_1) (hg : goodWord w = true) : w ∈ TT := TT_of (List.mem_append_left _ h) hg
theorem TT_t1 {w : Cond} (h : w ∈ tables_1_2) (hg : goodWord w = true) : w ∈ TT := TT_of (List.mem_append_right _ (List.mem_append_left _ h)) hg
theorem TT_t2 {w : Cond} (h : w ∈ tables_1_3) (hg : goodWord w = true) : w ∈ TT := TT_of (List.mem_append_right _ (List.mem_append_right _ (List.mem_append_left _ h))) hg
theorem TT_t3 {w : Cond} (h : w ∈ tables_1_4) (hg : goodWord w = true) : w ∈ TT := TT_of (List.mem_append_right _ (List.mem_append_right _ (List.mem_append_right _ (List.mem_append_left _ h)))) hg
theorem TT_t4 {w : Cond} (h : w ∈ tables_1_5) (hg : goodWord w = true) : w ∈ TT := TT_of (List.mem_append_right _ (List.mem_append_right _ (List.mem_append_right _ (List.mem_append_right _ (List.mem_append_left _ h))))) hg
theorem TT_t5 {w : Cond} (h : w ∈ tables_1_6) (hg : goodWord w = true) : w ∈ TT := TT_of (List.mem_append_right _ (List.mem_append_right _ (List.mem_append_right _ (List.mem_append_right _ (List.mem_append_right _ (h)))))) hg
theorem mw_X8_1 : Cond.methodLink RX8 1 objectInit ∈ TT := TT_t0 (List.mem_of_getElem? (i := 19) (by decide +kernel)) (by decide +kernel)
theorem fw_X8_11 : Cond.fieldLink RX8 11 "GlowDebts" "rows" "[LGlowDebts$Strip;" ∈ TT := TT_t0 (List.mem_of_getElem? (i := 101) (by decide +kernel)) (by decide +kernel)
theorem fw_X8_15 : Cond.fieldLink RX8 15 "GlowDebts" "texts" "[LGlowDebts$Strip;" ∈ TT := TT_t0 (List.mem_of_getElem? (i := 102) (by decide +kernel)) (by decide +kernel)
theorem fw_X8_21 : Cond.fieldLink RX8 21 "GlowDebts" "now" "LGlowDebts$Bank;" ∈ TT := TT_t0 (List.mem_of_getElem? (i := 103) (by decide +kernel)) (by decide +kernel)
theorem fw_X8_25 : Cond.fieldLink RX8 25 "GlowDebts" "keeps" "[LGlowDebts$Bank;" ∈ TT := TT_t0 (List.mem_of_getElem? (i := 104) (by decide +kernel)) (by decide +kernel)
theorem fw_X8_32 : Cond.fieldLink RX8 32 "GlowDebts" "sets" "LGlowDebts$Sets;" ∈ TT := TT_t0 (List.mem_of_getElem? (i := 105) (by decide +kernel)) (by decide +kernel)
theorem fw_X8_39 : Cond.fieldLink RX8 39 "GlowDebts" "chains" "LGlowDebts$Chains;" ∈ TT := TT_t0 (List.mem_of_getElem? (i := 106) (by decide +kernel)) (by decide +kernel)
theorem fw_X8_43 : Cond.fieldLink RX8 43 "GlowDebts" "found" "[I" ∈ TT := TT_t0 (List.mem_of_getElem? (i := 107) (by decide +kernel)) (by decide +kernel)
theorem fw_X8_47 : Cond.fieldLink RX8 47 "GlowDebts" "latestFound" "I" ∈ TT := TT_t0 (List.mem_of_getElem? (i := 108) (by decide +kernel)) (by decide +kernel)
theorem fw_X8_51 : Cond.fieldLink RX8 51 "GlowDebts" "toldAside" "I" ∈ TT := TT_t0 (List.mem_of_getElem? (i := 109) (by decide +kernel)) (by decide +kernel)
theorem fw_X8_54 : Cond.fieldLink RX8 54 "GlowDebts" "toldUpper" "J" ∈ TT := TT_t0 (List.mem_of_getElem? (i := 110) (by decide +kernel)) (by decide +kernel)
theorem fw_X8_58 : Cond.fieldLink RX8 58 "GlowDebts" "toldLower" "J" ∈ TT := TT_t0 (List.mem_of_getElem? (i := 111) (by decide +kernel)) (by decide +kernel)
theorem mw_X8_61 : Cond.methodLink RX8 61 yX5_init ∈ TT := TT_t0 (List.mem_of_getElem? (i := 87) (by decide +kernel)) (by decide +kernel)
theorem mw_X8_64 : Cond.methodLink RX8 64 yX8_rowOf ∈ TT := TT_t0 (List.mem_of_getElem? (i := 139) (by decide +kernel)) (by decide +kernel)
theorem mw_X8_68 : Cond.methodLink RX8 68 yX8_makeAnew ∈ TT := TT_t0 (List.mem_of_getElem? (i := 143) (by decide +kernel)) (by decide +kernel)
theorem mw_X8_72 : Cond.methodLink RX8 72 yX8_refusedAt ∈ TT := TT_t0 (List.mem_of_getElem? (i := 166) (by decide +kernel)) (by decide +kernel)
theorem mw_X8_76 : Cond.methodLink RX8 76 yX5_get ∈ TT := TT_t0 (List.mem_of_getElem? (i := 182) (by decide +kernel)) (by decide +kernel)
theorem mw_X8_80 : Cond.methodLink RX8 80 yX5_set ∈ TT := TT_t0 (List.mem_of_getElem? (i := 187) (by decide +kernel)) (by decide +kernel)
theorem mw_X8_84 : Cond.methodLink RX8 84 yX8_refusedMissing ∈ TT := TT_t0 (List.mem_of_getElem? (i := 170) (by decide +kernel)) (by decide +kernel)
theorem mw_X8_88 : Cond.methodLink RX8 88 yX5_remove ∈ TT := TT_t0 (List.mem_of_getElem? (i := 199) (by decide +kernel)) (by decide +kernel)
theorem mw_X8_91 : Cond.methodLink RX8 91 yX8_refuse ∈ TT := TT_t0 (List.mem_of_getElem? (i := 151) (by decide +kernel)) (by decide +kernel)
theorem mw_X8_94 : Cond.methodLink RX8 94 yX5_isMissing ∈ TT := TT_t0 (List.mem_of_getElem? (i := 174) (by decide +kernel)) (by decide +kernel)
theorem mw_X8_98 : Cond.methodLink RX8 98 yX5_holdsRun ∈ TT := TT_t0 (List.mem_of_getElem? (i := 207) (by decide +kernel)) (by decide +kernel)
theorem mw_X8_102 : Cond.methodLink RX8 102 yX5_takeRun ∈ TT := TT_t0 (List.mem_of_getElem? (i := 211) (by decide +kernel)) (by decide +kernel)
theorem mw_X8_106 : Cond.methodLink RX8 106 yX5_size ∈ TT := TT_t0 (List.mem_of_getElem? (i := 223) (by decide +kernel)) (by decide +kernel)
theorem mw_X8_110 : Cond.methodLink RX8 110 yX5_total ∈ TT := TT_t0 (List.mem_of_getElem? (i := 227) (by decide +kernel)) (by decide +kernel)
theorem mw_X8_114 : Cond.methodLink RX8 114 yX8_textOf ∈ TT := TT_t0 (List.mem_of_getElem? (i := 235) (by decide +kernel)) (by decide +kernel)
theorem mw_X8_117 : Cond.methodLink RX8 117 yX7_firstFault ∈ TT := TT_t1 (List.mem_of_getElem? (i := 7) (by decide +kernel)) (by decide +kernel)
theorem mw_X8_122 : Cond.methodLink RX8 122 yX7_readInto ∈ TT := TT_t1 (List.mem_of_getElem? (i := 30) (by decide +kernel)) (by decide +kernel)
theorem mw_X8_126 : Cond.methodLink RX8 126 yX8_keepOf ∈ TT := TT_t1 (List.mem_of_getElem? (i := 41) (by decide +kernel)) (by decide +kernel)
theorem mw_X8_130 : Cond.methodLink RX8 130 yX0_clear ∈ TT := TT_t1 (List.mem_of_getElem? (i := 45) (by decide +kernel)) (by decide +kernel)
theorem mw_X8_133 : Cond.methodLink RX8 133 yX0_size ∈ TT := TT_t1 (List.mem_of_getElem? (i := 46) (by decide +kernel)) (by decide +kernel)
theorem mw_X8_134 : Cond.methodLink RX8 134 yX0_has ∈ TT := TT_t1 (List.mem_of_getElem? (i := 54) (by decide +kernel)) (by decide +kernel)
theorem mw_X8_138 : Cond.methodLink RX8 138 yX0_partOf ∈ TT := TT_t1 (List.mem_of_getElem? (i := 58) (by decide +kernel)) (by decide +kernel)
theorem mw_X8_142 : Cond.methodLink RX8 142 yX0_kindOf ∈ TT := TT_t1 (List.mem_of_getElem? (i := 100) (by decide +kernel)) (by decide +kernel)
theorem mw_X8_145 : Cond.methodLink RX8 145 yX2_isOf ∈ TT := TT_t1 (List.mem_of_getElem? (i := 101) (by decide +kernel)) (by decide +kernel)
theorem mw_X8_150 : Cond.methodLink RX8 150 yX0_firstOf ∈ TT := TT_t1 (List.mem_of_getElem? (i := 107) (by decide +kernel)) (by decide +kernel)
theorem mw_X8_153 : Cond.methodLink RX8 153 yX0_thisNight ∈ TT := TT_t1 (List.mem_of_getElem? (i := 108) (by decide +kernel)) (by decide +kernel)
theorem mw_X8_156 : Cond.methodLink RX8 156 yX2_signOf ∈ TT := TT_t1 (List.mem_of_getElem? (i := 112) (by decide +kernel)) (by decide +kernel)
theorem mw_X8_160 : Cond.methodLink RX8 160 yX0_glowOf ∈ TT := TT_t1 (List.mem_of_getElem? (i := 120) (by decide +kernel)) (by decide +kernel)
theorem mw_X8_163 : Cond.methodLink RX8 163 yX0_deedsDone ∈ TT := TT_t1 (List.mem_of_getElem? (i := 125) (by decide +kernel)) (by decide +kernel)
theorem mw_X8_166 : Cond.methodLink RX8 166 yX0_passNight ∈ TT := TT_t1 (List.mem_of_getElem? (i := 129) (by decide +kernel)) (by decide +kernel)
theorem mw_X8_169 : Cond.methodLink RX8 169 yX0_litGlow ∈ TT := TT_t1 (List.mem_of_getElem? (i := 137) (by decide +kernel)) (by decide +kernel)
theorem mw_X8_172 : Cond.methodLink RX8 172 yX0_isLit ∈ TT := TT_t1 (List.mem_of_getElem? (i := 145) (by decide +kernel)) (by decide +kernel)
theorem mw_X8_175 : Cond.methodLink RX8 175 yX0_putOut ∈ TT := TT_t1 (List.mem_of_getElem? (i := 146) (by decide +kernel)) (by decide +kernel)
theorem mw_X8_178 : Cond.methodLink RX8 178 yX0_lightAgain ∈ TT := TT_t1 (List.mem_of_getElem? (i := 154) (by decide +kernel)) (by decide +kernel)
theorem mw_X8_181 : Cond.methodLink RX8 181 yX8_isPlace ∈ TT := TT_t1 (List.mem_of_getElem? (i := 162) (by decide +kernel)) (by decide +kernel)
theorem mw_X8_184 : Cond.methodLink RX8 184 yX0_placeOf ∈ TT := TT_t1 (List.mem_of_getElem? (i := 165) (by decide +kernel)) (by decide +kernel)
theorem mw_X8_187 : Cond.methodLink RX8 187 yX0_carryTo ∈ TT := TT_t1 (List.mem_of_getElem? (i := 166) (by decide +kernel)) (by decide +kernel)
theorem mw_X8_190 : Cond.methodLink RX8 190 yX0_takeBackFrom ∈ TT := TT_t1 (List.mem_of_getElem? (i := 174) (by decide +kernel)) (by decide +kernel)
theorem mw_X8_193 : Cond.methodLink RX8 193 yX0_become ∈ TT := TT_t1 (List.mem_of_getElem? (i := 186) (by decide +kernel)) (by decide +kernel)
theorem mw_X8_197 : Cond.methodLink RX8 197 yX0_brightAt ∈ TT := TT_t1 (List.mem_of_getElem? (i := 199) (by decide +kernel)) (by decide +kernel)
theorem mw_X8_200 : Cond.methodLink RX8 200 yX8_isStretch ∈ TT := TT_t1 (List.mem_of_getElem? (i := 218) (by decide +kernel)) (by decide +kernel)
theorem mw_X8_203 : Cond.methodLink RX8 203 yX0_brightAlong ∈ TT := TT_t1 (List.mem_of_getElem? (i := 221) (by decide +kernel)) (by decide +kernel)
theorem mw_X8_206 : Cond.methodLink RX8 206 yX0_shareAlong ∈ TT := TT_t1 (List.mem_of_getElem? (i := 234) (by decide +kernel)) (by decide +kernel)
theorem mw_X8_209 : Cond.methodLink RX8 209 yX6_darkest ∈ TT := TT_t2 (List.mem_of_getElem? (i := 6) (by decide +kernel)) (by decide +kernel)
theorem mw_X8_215 : Cond.methodLink RX8 215 yX6_placesOnRoad ∈ TT := TT_t2 (List.mem_of_getElem? (i := 12) (by decide +kernel)) (by decide +kernel)
theorem mw_X8_218 : Cond.methodLink RX8 218 yX6_brightness ∈ TT := TT_t2 (List.mem_of_getElem? (i := 15) (by decide +kernel)) (by decide +kernel)
theorem mw_X8_221 : Cond.methodLink RX8 221 yX8_isPerson ∈ TT := TT_t2 (List.mem_of_getElem? (i := 22) (by decide +kernel)) (by decide +kernel)
theorem mw_X8_224 : Cond.methodLink RX8 224 yX0_balanceOf ∈ TT := TT_t2 (List.mem_of_getElem? (i := 25) (by decide +kernel)) (by decide +kernel)
theorem mw_X8_227 : Cond.methodLink RX8 227 yX4_largestRing ∈ TT := TT_t2 (List.mem_of_getElem? (i := 38) (by decide +kernel)) (by decide +kernel)
theorem mw_X8_230 : Cond.methodLink RX8 230 yJ6_bitCount_0f7a4 ∈ TT := TT_t2 (List.mem_of_getElem? (i := 67) (by decide +kernel)) (by decide +kernel)
theorem mw_X8_235 : Cond.methodLink RX8 235 yX4_ringsWith ∈ TT := TT_t2 (List.mem_of_getElem? (i := 72) (by decide +kernel)) (by decide +kernel)
theorem mw_X8_239 : Cond.methodLink RX8 239 yX4_smallestRingWith ∈ TT := TT_t2 (List.mem_of_getElem? (i := 80) (by decide +kernel)) (by decide +kernel)
theorem mw_X8_242 : Cond.methodLink RX8 242 yX1_shortest ∈ TT := TT_t2 (List.mem_of_getElem? (i := 88) (by decide +kernel)) (by decide +kernel)
theorem mw_X8_246 : Cond.methodLink RX8 246 yX1_write ∈ TT := TT_t2 (List.mem_of_getElem? (i := 101) (by decide +kernel)) (by decide +kernel)
theorem mw_X8_250 : Cond.methodLink RX8 250 yX4_fewestToAnswer ∈ TT := TT_t2 (List.mem_of_getElem? (i := 116) (by decide +kernel)) (by decide +kernel)
theorem mw_X8_253 : Cond.methodLink RX8 253 yX8_refusedLooks ∈ TT := TT_t2 (List.mem_of_getElem? (i := 136) (by decide +kernel)) (by decide +kernel)
theorem mw_X8_257 : Cond.methodLink RX8 257 yX3_fittingFirsts ∈ TT := TT_t2 (List.mem_of_getElem? (i := 145) (by decide +kernel)) (by decide +kernel)
theorem mw_X8_262 : Cond.methodLink RX8 262 yX3_fittingKinds ∈ TT := TT_t2 (List.mem_of_getElem? (i := 156) (by decide +kernel)) (by decide +kernel)
theorem mw_X8_265 : Cond.methodLink RX8 265 yX3_tellingNight ∈ TT := TT_t2 (List.mem_of_getElem? (i := 163) (by decide +kernel)) (by decide +kernel)
theorem mw_X8_268 : Cond.methodLink RX8 268 yX3_largestPart ∈ TT := TT_t2 (List.mem_of_getElem? (i := 173) (by decide +kernel)) (by decide +kernel)
theorem mw_X8_272 : Cond.methodLink RX8 272 yX3_areTold ∈ TT := TT_t2 (List.mem_of_getElem? (i := 178) (by decide +kernel)) (by decide +kernel)
theorem mw_X8_276 : Cond.methodLink RX8 276 yX3_fittingOwers ∈ TT := TT_t2 (List.mem_of_getElem? (i := 181) (by decide +kernel)) (by decide +kernel)
theorem mw_X8_280 : Cond.methodLink RX8 280 yX4_afterTurns ∈ TT := TT_t2 (List.mem_of_getElem? (i := 195) (by decide +kernel)) (by decide +kernel)
theorem mw_X8_283 : Cond.methodLink RX8 283 yX4_waysToBeDark ∈ TT := TT_t2 (List.mem_of_getElem? (i := 212) (by decide +kernel)) (by decide +kernel)
theorem mw_X8_287 : Cond.methodLink RX8 287 yX0_litSet ∈ TT := TT_t2 (List.mem_of_getElem? (i := 219) (by decide +kernel)) (by decide +kernel)
theorem mw_X8_290 : Cond.methodLink RX8 290 yX4_power ∈ TT := TT_t2 (List.mem_of_getElem? (i := 220) (by decide +kernel)) (by decide +kernel)
theorem mw_X8_294 : Cond.methodLink RX8 294 yX8_tellInLowestTerms ∈ TT := TT_t2 (List.mem_of_getElem? (i := 221) (by decide +kernel)) (by decide +kernel)
theorem kw_X8_298 : Cond.constantLong RX8 298 (12) ∈ TT := TT_t2 (List.mem_of_getElem? (i := 232) (by decide +kernel)) (by decide +kernel)
theorem kw_X8_300 : Cond.constant RX8 300 (2147483646) ∈ TT := TT_t2 (List.mem_of_getElem? (i := 237) (by decide +kernel)) (by decide +kernel)
theorem kw_X8_301 : Cond.constantLong RX8 301 (48271) ∈ TT := TT_t2 (List.mem_of_getElem? (i := 238) (by decide +kernel)) (by decide +kernel)
theorem kw_X8_303 : Cond.constantLong RX8 303 (2147483647) ∈ TT := TT_t2 (List.mem_of_getElem? (i := 239) (by decide +kernel)) (by decide +kernel)
theorem mw_X8_305 : Cond.methodLink RX8 305 yX0_doByLot ∈ TT := TT_t3 (List.mem_of_getElem? (i := 0) (by decide +kernel)) (by decide +kernel)
theorem mw_X8_309 : Cond.methodLink RX8 309 yX0_howManyOf ∈ TT := TT_t3 (List.mem_of_getElem? (i := 28) (by decide +kernel)) (by decide +kernel)
theorem mw_X8_312 : Cond.methodLink RX8 312 yX8_howManyThere ∈ TT := TT_t3 (List.mem_of_getElem? (i := 32) (by decide +kernel)) (by decide +kernel)
theorem mw_X8_316 : Cond.methodLink RX8 316 yX8_howManyKept ∈ TT := TT_t3 (List.mem_of_getElem? (i := 35) (by decide +kernel)) (by decide +kernel)
theorem kw_X8_319 : Cond.constantLong RX8 319 (17) ∈ TT := TT_t3 (List.mem_of_getElem? (i := 51) (by decide +kernel)) (by decide +kernel)
theorem kw_X8_321 : Cond.constantLong RX8 321 (31) ∈ TT := TT_t3 (List.mem_of_getElem? (i := 52) (by decide +kernel)) (by decide +kernel)
theorem mw_X8_323 : Cond.methodLink RX8 323 yX8_count ∈ TT := TT_t3 (List.mem_of_getElem? (i := 53) (by decide +kernel)) (by decide +kernel)
theorem mw_X8_326 : Cond.methodLink RX8 326 yX8_digestOf ∈ TT := TT_t3 (List.mem_of_getElem? (i := 54) (by decide +kernel)) (by decide +kernel)
theorem mw_X8_330 : Cond.methodLink RX8 330 yX5_holds ∈ TT := TT_t0 (List.mem_of_getElem? (i := 178) (by decide +kernel)) (by decide +kernel)
theorem mw_X8_333 : Cond.methodLink RX8 333 yX3_arePairs ∈ TT := TT_t2 (List.mem_of_getElem? (i := 140) (by decide +kernel)) (by decide +kernel)
theorem mw_X8_336 : Cond.methodLink RX8 336 yX5_room ∈ TT := TT_t0 (List.mem_of_getElem? (i := 147) (by decide +kernel)) (by decide +kernel)
theorem mw_X8_339 : Cond.methodLink RX8 339 yX5_renew ∈ TT := TT_t0 (List.mem_of_getElem? (i := 155) (by decide +kernel)) (by decide +kernel)
theorem mw_X8_342 : Cond.methodLink RX8 342 yX8_greatestDivisor ∈ TT := TT_t2 (List.mem_of_getElem? (i := 225) (by decide +kernel)) (by decide +kernel)
theorem mw_X9_1 : Cond.methodLink RX9 1 objectInit ∈ TT := TT_t3 (List.mem_of_getElem? (i := 62) (by decide +kernel)) (by decide +kernel)
theorem fw_X9_7 : Cond.fieldLink RX9 7 "GlowDebtsModel" "w" "[I" ∈ TT := TT_t3 (List.mem_of_getElem? (i := 63) (by decide +kernel)) (by decide +kernel)
theorem fw_X9_13 : Cond.fieldLink RX9 13 "GlowDebtsModel" "rowSize" "[I" ∈ TT := TT_t3 (List.mem_of_getElem? (i := 64) (by decide +kernel)) (by decide +kernel)
theorem fw_X9_16 : Cond.fieldLink RX9 16 "GlowDebtsModel" "ints" "[I" ∈ TT := TT_t3 (List.mem_of_getElem? (i := 65) (by decide +kernel)) (by decide +kernel)
theorem fw_X9_19 : Cond.fieldLink RX9 19 "GlowDebtsModel" "textSize" "[I" ∈ TT := TT_t3 (List.mem_of_getElem? (i := 66) (by decide +kernel)) (by decide +kernel)
theorem fw_X9_22 : Cond.fieldLink RX9 22 "GlowDebtsModel" "bytes" "[I" ∈ TT := TT_t3 (List.mem_of_getElem? (i := 67) (by decide +kernel)) (by decide +kernel)
theorem fw_X9_25 : Cond.fieldLink RX9 25 "GlowDebtsModel" "finds" "[I" ∈ TT := TT_t3 (List.mem_of_getElem? (i := 69) (by decide +kernel)) (by decide +kernel)
theorem fw_X9_28 : Cond.fieldLink RX9 28 "GlowDebtsModel" "lower" "J" ∈ TT := TT_t3 (List.mem_of_getElem? (i := 72) (by decide +kernel)) (by decide +kernel)
theorem fw_X9_32 : Cond.fieldLink RX9 32 "GlowDebtsModel" "held" "[I" ∈ TT := TT_t3 (List.mem_of_getElem? (i := 73) (by decide +kernel)) (by decide +kernel)
theorem fw_X9_35 : Cond.fieldLink RX9 35 "GlowDebtsModel" "read" "[I" ∈ TT := TT_t3 (List.mem_of_getElem? (i := 79) (by decide +kernel)) (by decide +kernel)
theorem fw_X9_38 : Cond.fieldLink RX9 38 "GlowDebtsModel" "brights" "[I" ∈ TT := TT_t3 (List.mem_of_getElem? (i := 80) (by decide +kernel)) (by decide +kernel)
theorem fw_X9_41 : Cond.fieldLink RX9 41 "GlowDebtsModel" "away" "[I" ∈ TT := TT_t3 (List.mem_of_getElem? (i := 81) (by decide +kernel)) (by decide +kernel)
theorem fw_X9_44 : Cond.fieldLink RX9 44 "GlowDebtsModel" "litBy" "[I" ∈ TT := TT_t3 (List.mem_of_getElem? (i := 82) (by decide +kernel)) (by decide +kernel)
theorem fw_X9_47 : Cond.fieldLink RX9 47 "GlowDebtsModel" "tried" "[I" ∈ TT := TT_t3 (List.mem_of_getElem? (i := 83) (by decide +kernel)) (by decide +kernel)
theorem fw_X9_50 : Cond.fieldLink RX9 50 "GlowDebtsModel" "best" "[I" ∈ TT := TT_t3 (List.mem_of_getElem? (i := 84) (by decide +kernel)) (by decide +kernel)
theorem fw_X9_53 : Cond.fieldLink RX9 53 "GlowDebtsModel" "found" "I" ∈ TT := TT_t3 (List.mem_of_getElem? (i := 68) (by decide +kernel)) (by decide +kernel)
theorem fw_X9_57 : Cond.fieldLink RX9 57 "GlowDebtsModel" "asked" "I" ∈ TT := TT_t3 (List.mem_of_getElem? (i := 70) (by decide +kernel)) (by decide +kernel)
theorem kw_X9_60 : Cond.constantLong RX9 60 (5) ∈ TT := TT_t3 (List.mem_of_getElem? (i := 140) (by decide +kernel)) (by decide +kernel)
theorem mw_X9_62 : Cond.methodLink RX9 62 yX9_in ∈ TT := TT_t3 (List.mem_of_getElem? (i := 141) (by decide +kernel)) (by decide +kernel)
theorem kw_X9_66 : Cond.constantLong RX9 66 (3) ∈ TT := TT_t3 (List.mem_of_getElem? (i := 179) (by decide +kernel)) (by decide +kernel)
theorem kw_X9_68 : Cond.constantLong RX9 68 (9) ∈ TT := TT_t4 (List.mem_of_getElem? (i := 43) (by decide +kernel)) (by decide +kernel)
theorem mw_X9_70 : Cond.methodLink RX9 70 yX9_isRow ∈ TT := TT_t3 (List.mem_of_getElem? (i := 137) (by decide +kernel)) (by decide +kernel)
theorem mw_X9_74 : Cond.methodLink RX9 74 yX9_finds ∈ TT := TT_t3 (List.mem_of_getElem? (i := 144) (by decide +kernel)) (by decide +kernel)
theorem mw_X9_77 : Cond.methodLink RX9 77 yX9_tells ∈ TT := TT_t3 (List.mem_of_getElem? (i := 152) (by decide +kernel)) (by decide +kernel)
theorem mw_X9_80 : Cond.methodLink RX9 80 yX9_isText ∈ TT := TT_t3 (List.mem_of_getElem? (i := 176) (by decide +kernel)) (by decide +kernel)
theorem fw_X9_83 : Cond.fieldLink RX9 83 "GlowDebtsModel" "place" "I" ∈ TT := TT_t3 (List.mem_of_getElem? (i := 75) (by decide +kernel)) (by decide +kernel)
theorem fw_X9_86 : Cond.fieldLink RX9 86 "GlowDebtsModel" "end" "I" ∈ TT := TT_t3 (List.mem_of_getElem? (i := 76) (by decide +kernel)) (by decide +kernel)
theorem fw_X9_89 : Cond.fieldLink RX9 89 "GlowDebtsModel" "from" "I" ∈ TT := TT_t3 (List.mem_of_getElem? (i := 74) (by decide +kernel)) (by decide +kernel)
theorem mw_X9_92 : Cond.methodLink RX9 92 yX9_here ∈ TT := TT_t3 (List.mem_of_getElem? (i := 192) (by decide +kernel)) (by decide +kernel)
theorem fw_X9_96 : Cond.fieldLink RX9 96 "GlowDebtsModel" "number" "I" ∈ TT := TT_t3 (List.mem_of_getElem? (i := 77) (by decide +kernel)) (by decide +kernel)
theorem mw_X9_99 : Cond.methodLink RX9 99 yX9_kindOf ∈ TT := TT_t3 (List.mem_of_getElem? (i := 200) (by decide +kernel)) (by decide +kernel)
theorem fw_X9_102 : Cond.fieldLink RX9 102 "GlowDebtsModel" "readMany" "I" ∈ TT := TT_t3 (List.mem_of_getElem? (i := 78) (by decide +kernel)) (by decide +kernel)
theorem mw_X9_105 : Cond.methodLink RX9 105 yX9_takes ∈ TT := TT_t3 (List.mem_of_getElem? (i := 203) (by decide +kernel)) (by decide +kernel)
theorem mw_X9_109 : Cond.methodLink RX9 109 yX9_takesLight ∈ TT := TT_t3 (List.mem_of_getElem? (i := 196) (by decide +kernel)) (by decide +kernel)
theorem mw_X9_113 : Cond.methodLink RX9 113 yX9_faultOf ∈ TT := TT_t3 (List.mem_of_getElem? (i := 188) (by decide +kernel)) (by decide +kernel)
theorem mw_X9_116 : Cond.methodLink RX9 116 yX9_dew ∈ TT := TT_t3 (List.mem_of_getElem? (i := 231) (by decide +kernel)) (by decide +kernel)
theorem mw_X9_120 : Cond.methodLink RX9 120 yX9_forged ∈ TT := TT_t3 (List.mem_of_getElem? (i := 234) (by decide +kernel)) (by decide +kernel)
theorem mw_X9_123 : Cond.methodLink RX9 123 yX9_glowBy ∈ TT := TT_t3 (List.mem_of_getElem? (i := 228) (by decide +kernel)) (by decide +kernel)
theorem mw_X9_127 : Cond.methodLink RX9 127 yX9_isLight ∈ TT := TT_t3 (List.mem_of_getElem? (i := 215) (by decide +kernel)) (by decide +kernel)
theorem kw_X9_130 : Cond.constantLong RX9 130 (6) ∈ TT := TT_t3 (List.mem_of_getElem? (i := 219) (by decide +kernel)) (by decide +kernel)
theorem mw_X9_132 : Cond.methodLink RX9 132 yX9_lightOf ∈ TT := TT_t3 (List.mem_of_getElem? (i := 220) (by decide +kernel)) (by decide +kernel)
theorem mw_X9_135 : Cond.methodLink RX9 135 yX9_glowOf ∈ TT := TT_t3 (List.mem_of_getElem? (i := 224) (by decide +kernel)) (by decide +kernel)
theorem mw_X9_138 : Cond.methodLink RX9 138 yX9_isA ∈ TT := TT_t4 (List.mem_of_getElem? (i := 1) (by decide +kernel)) (by decide +kernel)
theorem kw_X9_141 : Cond.constantLong RX9 141 (99) ∈ TT := TT_t4 (List.mem_of_getElem? (i := 8) (by decide +kernel)) (by decide +kernel)
theorem mw_X9_143 : Cond.methodLink RX9 143 yX9_has ∈ TT := TT_t4 (List.mem_of_getElem? (i := 21) (by decide +kernel)) (by decide +kernel)
theorem mw_X9_146 : Cond.methodLink RX9 146 yX9_minds ∈ TT := TT_t4 (List.mem_of_getElem? (i := 13) (by decide +kernel)) (by decide +kernel)
theorem mw_X9_149 : Cond.methodLink RX9 149 yX9_glowAll ∈ TT := TT_t4 (List.mem_of_getElem? (i := 17) (by decide +kernel)) (by decide +kernel)
theorem mw_X9_152 : Cond.methodLink RX9 152 yX9_lights ∈ TT := TT_t4 (List.mem_of_getElem? (i := 28) (by decide +kernel)) (by decide +kernel)
theorem mw_X9_156 : Cond.methodLink RX9 156 yX9_isPlace ∈ TT := TT_t4 (List.mem_of_getElem? (i := 40) (by decide +kernel)) (by decide +kernel)
theorem kw_X9_159 : Cond.constantLong RX9 159 (2) ∈ TT := TT_t4 (List.mem_of_getElem? (i := 52) (by decide +kernel)) (by decide +kernel)
theorem mw_X9_161 : Cond.methodLink RX9 161 yX9_bring ∈ TT := TT_t4 (List.mem_of_getElem? (i := 53) (by decide +kernel)) (by decide +kernel)
theorem mw_X9_165 : Cond.methodLink RX9 165 yX9_size ∈ TT := TT_t4 (List.mem_of_getElem? (i := 77) (by decide +kernel)) (by decide +kernel)
theorem mw_X9_168 : Cond.methodLink RX9 168 yX9_gives ∈ TT := TT_t4 (List.mem_of_getElem? (i := 73) (by decide +kernel)) (by decide +kernel)
theorem mw_X9_172 : Cond.methodLink RX9 172 yX9_brightBy ∈ TT := TT_t4 (List.mem_of_getElem? (i := 69) (by decide +kernel)) (by decide +kernel)
theorem mw_X9_175 : Cond.methodLink RX9 175 yX9_brightNow ∈ TT := TT_t4 (List.mem_of_getElem? (i := 65) (by decide +kernel)) (by decide +kernel)
theorem mw_X9_178 : Cond.methodLink RX9 178 yX9_alongNow ∈ TT := TT_t4 (List.mem_of_getElem? (i := 84) (by decide +kernel)) (by decide +kernel)
theorem kw_X9_181 : Cond.constantLong RX9 181 (200) ∈ TT := TT_t4 (List.mem_of_getElem? (i := 92) (by decide +kernel)) (by decide +kernel)
theorem kw_X9_183 : Cond.constant RX9 183 (1000000) ∈ TT := TT_t4 (List.mem_of_getElem? (i := 97) (by decide +kernel)) (by decide +kernel)
theorem kw_X9_184 : Cond.constantLong RX9 184 (10) ∈ TT := TT_t4 (List.mem_of_getElem? (i := 102) (by decide +kernel)) (by decide +kernel)
theorem mw_X9_186 : Cond.methodLink RX9 186 yX9_isForged ∈ TT := TT_t4 (List.mem_of_getElem? (i := 115) (by decide +kernel)) (by decide +kernel)
theorem mw_X9_189 : Cond.methodLink RX9 189 yX9_debts ∈ TT := TT_t4 (List.mem_of_getElem? (i := 111) (by decide +kernel)) (by decide +kernel)
theorem mw_X9_192 : Cond.methodLink RX9 192 yX9_owesBy ∈ TT := TT_t4 (List.mem_of_getElem? (i := 119) (by decide +kernel)) (by decide +kernel)
theorem mw_X9_195 : Cond.methodLink RX9 195 yX9_isRing ∈ TT := TT_t4 (List.mem_of_getElem? (i := 127) (by decide +kernel)) (by decide +kernel)
theorem mw_X9_198 : Cond.methodLink RX9 198 yX9_ones ∈ TT := TT_t4 (List.mem_of_getElem? (i := 131) (by decide +kernel)) (by decide +kernel)
theorem mw_X9_201 : Cond.methodLink RX9 201 yX9_row ∈ TT := TT_t4 (List.mem_of_getElem? (i := 146) (by decide +kernel)) (by decide +kernel)
theorem mw_X9_204 : Cond.methodLink RX9 204 yX9_against ∈ TT := TT_t4 (List.mem_of_getElem? (i := 155) (by decide +kernel)) (by decide +kernel)
theorem mw_X9_207 : Cond.methodLink RX9 207 yX9_fits ∈ TT := TT_t4 (List.mem_of_getElem? (i := 159) (by decide +kernel)) (by decide +kernel)
theorem mw_X9_211 : Cond.methodLink RX9 211 yX9_kindsOf ∈ TT := TT_t4 (List.mem_of_getElem? (i := 167) (by decide +kernel)) (by decide +kernel)
theorem mw_X9_214 : Cond.methodLink RX9 214 yX9_greatestPart ∈ TT := TT_t4 (List.mem_of_getElem? (i := 175) (by decide +kernel)) (by decide +kernel)
theorem kw_X9_217 : Cond.constantLong RX9 217 (4) ∈ TT := TT_t4 (List.mem_of_getElem? (i := 187) (by decide +kernel)) (by decide +kernel)
theorem mw_X9_219 : Cond.methodLink RX9 219 yX9_betters ∈ TT := TT_t4 (List.mem_of_getElem? (i := 188) (by decide +kernel)) (by decide +kernel)
theorem fw_X9_223 : Cond.fieldLink RX9 223 "GlowDebtsModel" "upper" "J" ∈ TT := TT_t3 (List.mem_of_getElem? (i := 71) (by decide +kernel)) (by decide +kernel)
theorem kw_X9_226 : Cond.constantLong RX9 226 (12) ∈ TT := TT_t4 (List.mem_of_getElem? (i := 196) (by decide +kernel)) (by decide +kernel)
theorem mw_X9_228 : Cond.methodLink RX9 228 yX9_tellsPart ∈ TT := TT_t4 (List.mem_of_getElem? (i := 201) (by decide +kernel)) (by decide +kernel)
theorem mw_X9_232 : Cond.methodLink RX9 232 yX9_chances ∈ TT := TT_t4 (List.mem_of_getElem? (i := 197) (by decide +kernel)) (by decide +kernel)
theorem kw_X9_235 : Cond.constantLong RX9 235 (20) ∈ TT := TT_t4 (List.mem_of_getElem? (i := 213) (by decide +kernel)) (by decide +kernel)
theorem kw_X9_237 : Cond.constantLong RX9 237 (2147483646) ∈ TT := TT_t4 (List.mem_of_getElem? (i := 214) (by decide +kernel)) (by decide +kernel)
theorem kw_X9_239 : Cond.constantLong RX9 239 (48271) ∈ TT := TT_t4 (List.mem_of_getElem? (i := 215) (by decide +kernel)) (by decide +kernel)
theorem kw_X9_241 : Cond.constantLong RX9 241 (2147483647) ∈ TT := TT_t4 (List.mem_of_getElem? (i := 216) (by decide +kernel)) (by decide +kernel)
theorem kw_X9_243 : Cond.constantLong RX9 243 (8) ∈ TT := TT_t4 (List.mem_of_getElem? (i := 217) (by decide +kernel)) (by decide +kernel)
theorem kw_X9_245 : Cond.constantLong RX9 245 (64) ∈ TT := TT_t4 (List.mem_of_getElem? (i := 218) (by decide +kernel)) (by decide +kernel)
theorem mw_X9_247 : Cond.methodLink RX9 247 yX9_manyOf ∈ TT := TT_t4 (List.mem_of_getElem? (i := 235) (by decide +kernel)) (by decide +kernel)
theorem mw_X9_250 : Cond.methodLink RX9 250 yX9_rowsThere ∈ TT := TT_t4 (List.mem_of_getElem? (i := 239) (by decide +kernel)) (by decide +kernel)
theorem mw_X9_253 : Cond.methodLink RX9 253 yX9_textsThere ∈ TT := TT_t5 (List.mem_of_getElem? (i := 3) (by decide +kernel)) (by decide +kernel)
theorem mw_X9_256 : Cond.methodLink RX9 256 yX9_banksKept ∈ TT := TT_t5 (List.mem_of_getElem? (i := 7) (by decide +kernel)) (by decide +kernel)
theorem kw_X9_259 : Cond.constantLong RX9 259 (31) ∈ TT := TT_t5 (List.mem_of_getElem? (i := 29) (by decide +kernel)) (by decide +kernel)
theorem fw_X9_261 : Cond.fieldLink RX9 261 "GlowDebtsModel" "h" "J" ∈ TT := TT_t3 (List.mem_of_getElem? (i := 85) (by decide +kernel)) (by decide +kernel)
theorem kw_X9_264 : Cond.constantLong RX9 264 (17) ∈ TT := TT_t5 (List.mem_of_getElem? (i := 23) (by decide +kernel)) (by decide +kernel)
theorem mw_X9_266 : Cond.methodLink RX9 266 yX9_count ∈ TT := TT_t5 (List.mem_of_getElem? (i := 24) (by decide +kernel)) (by decide +kernel)
theorem mw_X9_269 : Cond.methodLink RX9 269 yX9_mix ∈ TT := TT_t5 (List.mem_of_getElem? (i := 25) (by decide +kernel)) (by decide +kernel)
theorem kw_X9_273 : Cond.constantLong RX9 273 (-1) ∈ TT := TT_t5 (List.mem_of_getElem? (i := 30) (by decide +kernel)) (by decide +kernel)
theorem mw_X0_3 : Cond.methodLink RX0 3 objectInit ∈ TT := TT_t0 (List.mem_of_getElem? (i := 29) (by decide +kernel)) (by decide +kernel)
theorem fw_X0_9 : Cond.fieldLink RX0 9 "GlowDebts$Bank" "kinds" "[I" ∈ TT := TT_t0 (List.mem_of_getElem? (i := 30) (by decide +kernel)) (by decide +kernel)
theorem fw_X0_15 : Cond.fieldLink RX0 15 "GlowDebts$Bank" "owers" "[I" ∈ TT := TT_t0 (List.mem_of_getElem? (i := 31) (by decide +kernel)) (by decide +kernel)
theorem fw_X0_18 : Cond.fieldLink RX0 18 "GlowDebts$Bank" "creditors" "[I" ∈ TT := TT_t0 (List.mem_of_getElem? (i := 32) (by decide +kernel)) (by decide +kernel)
theorem fw_X0_21 : Cond.fieldLink RX0 21 "GlowDebts$Bank" "places" "[I" ∈ TT := TT_t0 (List.mem_of_getElem? (i := 33) (by decide +kernel)) (by decide +kernel)
theorem fw_X0_24 : Cond.fieldLink RX0 24 "GlowDebts$Bank" "firsts" "[I" ∈ TT := TT_t0 (List.mem_of_getElem? (i := 34) (by decide +kernel)) (by decide +kernel)
theorem fw_X0_27 : Cond.fieldLink RX0 27 "GlowDebts$Bank" "deeds" "[I" ∈ TT := TT_t0 (List.mem_of_getElem? (i := 35) (by decide +kernel)) (by decide +kernel)
theorem fw_X0_30 : Cond.fieldLink RX0 30 "GlowDebts$Bank" "size" "I" ∈ TT := TT_t0 (List.mem_of_getElem? (i := 36) (by decide +kernel)) (by decide +kernel)
theorem fw_X0_34 : Cond.fieldLink RX0 34 "GlowDebts$Bank" "litBits" "I" ∈ TT := TT_t0 (List.mem_of_getElem? (i := 37) (by decide +kernel)) (by decide +kernel)
theorem fw_X0_37 : Cond.fieldLink RX0 37 "GlowDebts$Bank" "nightNow" "I" ∈ TT := TT_t0 (List.mem_of_getElem? (i := 38) (by decide +kernel)) (by decide +kernel)
theorem fw_X0_40 : Cond.fieldLink RX0 40 "GlowDebts$Bank" "done" "I" ∈ TT := TT_t0 (List.mem_of_getElem? (i := 39) (by decide +kernel)) (by decide +kernel)
theorem mw_X0_43 : Cond.methodLink RX0 43 arraycopyName ∈ TT := TT_t1 (List.mem_of_getElem? (i := 190) (by decide +kernel)) (by decide +kernel)
theorem mw_X0_49 : Cond.methodLink RX0 49 yX0_has ∈ TT := TT_t1 (List.mem_of_getElem? (i := 66) (by decide +kernel)) (by decide +kernel)
theorem mw_X0_53 : Cond.methodLink RX0 53 yX0_isLit ∈ TT := TT_t1 (List.mem_of_getElem? (i := 83) (by decide +kernel)) (by decide +kernel)
theorem mw_X0_56 : Cond.methodLink RX0 56 yX0_kindOf ∈ TT := TT_t1 (List.mem_of_getElem? (i := 62) (by decide +kernel)) (by decide +kernel)
theorem mw_X0_60 : Cond.methodLink RX0 60 yX2_isOf ∈ TT := TT_t2 (List.mem_of_getElem? (i := 33) (by decide +kernel)) (by decide +kernel)
theorem mw_X0_66 : Cond.methodLink RX0 66 yX0_owerOf ∈ TT := TT_t1 (List.mem_of_getElem? (i := 67) (by decide +kernel)) (by decide +kernel)
theorem mw_X0_69 : Cond.methodLink RX0 69 yX0_creditorOf ∈ TT := TT_t1 (List.mem_of_getElem? (i := 71) (by decide +kernel)) (by decide +kernel)
theorem mw_X0_72 : Cond.methodLink RX0 72 yX0_placeOf ∈ TT := TT_t1 (List.mem_of_getElem? (i := 75) (by decide +kernel)) (by decide +kernel)
theorem mw_X0_75 : Cond.methodLink RX0 75 yX0_firstOf ∈ TT := TT_t1 (List.mem_of_getElem? (i := 79) (by decide +kernel)) (by decide +kernel)
theorem mw_X0_78 : Cond.methodLink RX0 78 yX0_glowOf ∈ TT := TT_t1 (List.mem_of_getElem? (i := 87) (by decide +kernel)) (by decide +kernel)
theorem mw_X0_82 : Cond.methodLink RX0 82 yX2_glow ∈ TT := TT_t1 (List.mem_of_getElem? (i := 91) (by decide +kernel)) (by decide +kernel)
theorem mw_X0_86 : Cond.methodLink RX0 86 Lib.Math.abs.name ∈ TT := TT_t1 (List.mem_of_getElem? (i := 210) (by decide +kernel)) (by decide +kernel)
theorem mw_X0_91 : Cond.methodLink RX0 91 Lib.Math.max.name ∈ TT := TT_t1 (List.mem_of_getElem? (i := 213) (by decide +kernel)) (by decide +kernel)
theorem mw_X0_94 : Cond.methodLink RX0 94 yX0_faded ∈ TT := TT_t1 (List.mem_of_getElem? (i := 207) (by decide +kernel)) (by decide +kernel)
theorem mw_X0_97 : Cond.methodLink RX0 97 yX0_glowAt ∈ TT := TT_t1 (List.mem_of_getElem? (i := 203) (by decide +kernel)) (by decide +kernel)
theorem mw_X0_100 : Cond.methodLink RX0 100 yX0_brightAt ∈ TT := TT_t1 (List.mem_of_getElem? (i := 225) (by decide +kernel)) (by decide +kernel)
theorem mw_X0_103 : Cond.methodLink RX0 103 yX0_isOwing ∈ TT := TT_t2 (List.mem_of_getElem? (i := 29) (by decide +kernel)) (by decide +kernel)
theorem mw_X0_106 : Cond.methodLink RX0 106 yX0_write ∈ TT := TT_t1 (List.mem_of_getElem? (i := 133) (by decide +kernel)) (by decide +kernel)
theorem kw_X0_110 : Cond.constantLong RX0 110 (8) ∈ TT := TT_t3 (List.mem_of_getElem? (i := 4) (by decide +kernel)) (by decide +kernel)
theorem kw_X0_112 : Cond.constantLong RX0 112 (4) ∈ TT := TT_t3 (List.mem_of_getElem? (i := 5) (by decide +kernel)) (by decide +kernel)
theorem mw_X0_114 : Cond.methodLink RX0 114 yX0_passNight ∈ TT := TT_t3 (List.mem_of_getElem? (i := 6) (by decide +kernel)) (by decide +kernel)
theorem kw_X0_117 : Cond.constantLong RX0 117 (64) ∈ TT := TT_t3 (List.mem_of_getElem? (i := 7) (by decide +kernel)) (by decide +kernel)
theorem kw_X0_119 : Cond.constantLong RX0 119 (10) ∈ TT := TT_t3 (List.mem_of_getElem? (i := 8) (by decide +kernel)) (by decide +kernel)
theorem mw_X0_121 : Cond.methodLink RX0 121 yX0_carryTo ∈ TT := TT_t3 (List.mem_of_getElem? (i := 9) (by decide +kernel)) (by decide +kernel)
theorem mw_X0_125 : Cond.methodLink RX0 125 yX0_putOut ∈ TT := TT_t3 (List.mem_of_getElem? (i := 10) (by decide +kernel)) (by decide +kernel)
theorem mw_X0_129 : Cond.methodLink RX0 129 yX0_lightAgain ∈ TT := TT_t3 (List.mem_of_getElem? (i := 11) (by decide +kernel)) (by decide +kernel)
theorem mw_X0_132 : Cond.methodLink RX0 132 yX0_takeBack ∈ TT := TT_t1 (List.mem_of_getElem? (i := 178) (by decide +kernel)) (by decide +kernel)
theorem mw_X1_3 : Cond.methodLink RX1 3 objectInit ∈ TT := TT_t0 (List.mem_of_getElem? (i := 81) (by decide +kernel)) (by decide +kernel)
theorem fw_X1_9 : Cond.fieldLink RX1 9 "GlowDebts$Chains" "steps" "[I" ∈ TT := TT_t0 (List.mem_of_getElem? (i := 82) (by decide +kernel)) (by decide +kernel)
theorem mw_X1_15 : Cond.methodLink RX1 15 yX0_size ∈ TT := TT_t2 (List.mem_of_getElem? (i := 92) (by decide +kernel)) (by decide +kernel)
theorem mw_X1_21 : Cond.methodLink RX1 21 yX0_owerOf ∈ TT := TT_t2 (List.mem_of_getElem? (i := 93) (by decide +kernel)) (by decide +kernel)
theorem mw_X1_25 : Cond.methodLink RX1 25 yX0_isOwing ∈ TT := TT_t2 (List.mem_of_getElem? (i := 94) (by decide +kernel)) (by decide +kernel)
theorem mw_X1_32 : Cond.methodLink RX1 32 yX0_creditorOf ∈ TT := TT_t2 (List.mem_of_getElem? (i := 96) (by decide +kernel)) (by decide +kernel)
theorem mw_X1_35 : Cond.methodLink RX1 35 yX1_stepsOf ∈ TT := TT_t2 (List.mem_of_getElem? (i := 97) (by decide +kernel)) (by decide +kernel)
theorem mw_X1_38 : Cond.methodLink RX1 38 yX5_renew ∈ TT := TT_t2 (List.mem_of_getElem? (i := 105) (by decide +kernel)) (by decide +kernel)
theorem mw_X1_44 : Cond.methodLink RX1 44 yX5_size ∈ TT := TT_t2 (List.mem_of_getElem? (i := 106) (by decide +kernel)) (by decide +kernel)
theorem mw_X1_45 : Cond.methodLink RX1 45 yX1_lowestNearer ∈ TT := TT_t2 (List.mem_of_getElem? (i := 107) (by decide +kernel)) (by decide +kernel)
theorem mw_X1_49 : Cond.methodLink RX1 49 yX5_set ∈ TT := TT_t2 (List.mem_of_getElem? (i := 111) (by decide +kernel)) (by decide +kernel)
theorem fw_X2_9 : Cond.fieldLink RX2 9 "GlowDebts$Kinds" "LETTERS" "[I" ∈ TT := TT_t1 (List.mem_of_getElem? (i := 18) (by decide +kernel)) (by decide +kernel)
theorem mw_X2_15 : Cond.methodLink RX2 15 yX2_parentOf ∈ TT := TT_t1 (List.mem_of_getElem? (i := 104) (by decide +kernel)) (by decide +kernel)
theorem mw_X2_19 : Cond.methodLink RX2 19 Lib.Math.min.name ∈ TT := TT_t1 (List.mem_of_getElem? (i := 94) (by decide +kernel)) (by decide +kernel)
theorem mw_X2_25 : Cond.methodLink RX2 25 Lib.Math.max.name ∈ TT := TT_t1 (List.mem_of_getElem? (i := 95) (by decide +kernel)) (by decide +kernel)
theorem mw_X2_28 : Cond.methodLink RX2 28 yX2_glow ∈ TT := TT_t1 (List.mem_of_getElem? (i := 115) (by decide +kernel)) (by decide +kernel)
theorem mw_X3_9 : Cond.methodLink RX3 9 yX5_size ∈ TT := TT_t2 (List.mem_of_getElem? (i := 143) (by decide +kernel)) (by decide +kernel)
theorem mw_X3_15 : Cond.methodLink RX3 15 yX5_get ∈ TT := TT_t2 (List.mem_of_getElem? (i := 144) (by decide +kernel)) (by decide +kernel)
theorem mw_X3_19 : Cond.methodLink RX3 19 yX2_glow ∈ TT := TT_t2 (List.mem_of_getElem? (i := 151) (by decide +kernel)) (by decide +kernel)
theorem mw_X3_25 : Cond.methodLink RX3 25 yX3_fit ∈ TT := TT_t2 (List.mem_of_getElem? (i := 148) (by decide +kernel)) (by decide +kernel)
theorem mw_X3_31 : Cond.methodLink RX3 31 yX3_largestPart ∈ TT := TT_t2 (List.mem_of_getElem? (i := 166) (by decide +kernel)) (by decide +kernel)
theorem mw_X3_34 : Cond.methodLink RX3 34 yX3_howManyGlow ∈ TT := TT_t2 (List.mem_of_getElem? (i := 169) (by decide +kernel)) (by decide +kernel)
theorem mw_X3_38 : Cond.methodLink RX3 38 Lib.Math.max.name ∈ TT := TT_t2 (List.mem_of_getElem? (i := 172) (by decide +kernel)) (by decide +kernel)
theorem mw_X3_44 : Cond.methodLink RX3 44 yX0_creditorOf ∈ TT := TT_t2 (List.mem_of_getElem? (i := 184) (by decide +kernel)) (by decide +kernel)
theorem mw_X3_49 : Cond.methodLink RX3 49 yX3_fitsOwer ∈ TT := TT_t2 (List.mem_of_getElem? (i := 185) (by decide +kernel)) (by decide +kernel)
theorem mw_X3_53 : Cond.methodLink RX3 53 yX0_isOwing ∈ TT := TT_t2 (List.mem_of_getElem? (i := 188) (by decide +kernel)) (by decide +kernel)
theorem mw_X3_57 : Cond.methodLink RX3 57 yX0_balanceOf ∈ TT := TT_t2 (List.mem_of_getElem? (i := 189) (by decide +kernel)) (by decide +kernel)
theorem mw_X3_60 : Cond.methodLink RX3 60 yX0_owerOf ∈ TT := TT_t2 (List.mem_of_getElem? (i := 190) (by decide +kernel)) (by decide +kernel)
theorem mw_X4_3 : Cond.methodLink RX4 3 objectInit ∈ TT := TT_t0 (List.mem_of_getElem? (i := 68) (by decide +kernel)) (by decide +kernel)
theorem fw_X4_9 : Cond.fieldLink RX4 9 "GlowDebts$Sets" "weights" "[I" ∈ TT := TT_t0 (List.mem_of_getElem? (i := 69) (by decide +kernel)) (by decide +kernel)
theorem fw_X4_15 : Cond.fieldLink RX4 15 "GlowDebts$Sets" "sums" "[I" ∈ TT := TT_t0 (List.mem_of_getElem? (i := 70) (by decide +kernel)) (by decide +kernel)
theorem mw_X4_18 : Cond.methodLink RX4 18 yX0_size ∈ TT := TT_t2 (List.mem_of_getElem? (i := 56) (by decide +kernel)) (by decide +kernel)
theorem mw_X4_24 : Cond.methodLink RX4 24 Lib.Math.min.name ∈ TT := TT_t2 (List.mem_of_getElem? (i := 57) (by decide +kernel)) (by decide +kernel)
theorem mw_X4_30 : Cond.methodLink RX4 30 yX0_has ∈ TT := TT_t2 (List.mem_of_getElem? (i := 124) (by decide +kernel)) (by decide +kernel)
theorem mw_X4_34 : Cond.methodLink RX4 34 yX0_thisNight ∈ TT := TT_t2 (List.mem_of_getElem? (i := 125) (by decide +kernel)) (by decide +kernel)
theorem mw_X4_37 : Cond.methodLink RX4 37 yX0_glowAt ∈ TT := TT_t2 (List.mem_of_getElem? (i := 126) (by decide +kernel)) (by decide +kernel)
theorem mw_X4_41 : Cond.methodLink RX4 41 yX4_sumUp ∈ TT := TT_t2 (List.mem_of_getElem? (i := 49) (by decide +kernel)) (by decide +kernel)
theorem mw_X4_44 : Cond.methodLink RX4 44 yX0_isOwing ∈ TT := TT_t2 (List.mem_of_getElem? (i := 46) (by decide +kernel)) (by decide +kernel)
theorem mw_X4_47 : Cond.methodLink RX4 47 yX0_owerOf ∈ TT := TT_t2 (List.mem_of_getElem? (i := 47) (by decide +kernel)) (by decide +kernel)
theorem mw_X4_51 : Cond.methodLink RX4 51 yX0_creditorOf ∈ TT := TT_t2 (List.mem_of_getElem? (i := 48) (by decide +kernel)) (by decide +kernel)
theorem mw_X4_54 : Cond.methodLink RX4 54 yX4_sumDebts ∈ TT := TT_t2 (List.mem_of_getElem? (i := 42) (by decide +kernel)) (by decide +kernel)
theorem mw_X4_58 : Cond.methodLink RX4 58 yX4_setsOf ∈ TT := TT_t2 (List.mem_of_getElem? (i := 53) (by decide +kernel)) (by decide +kernel)
theorem mw_X4_61 : Cond.methodLink RX4 61 yX4_isWithin ∈ TT := TT_t2 (List.mem_of_getElem? (i := 58) (by decide +kernel)) (by decide +kernel)
theorem mw_X4_65 : Cond.methodLink RX4 65 yJ6_bitCount_0f7a4 ∈ TT := TT_t2 (List.mem_of_getElem? (i := 61) (by decide +kernel)) (by decide +kernel)
theorem mw_X4_70 : Cond.methodLink RX4 70 yX4_sumGlow ∈ TT := TT_t2 (List.mem_of_getElem? (i := 120) (by decide +kernel)) (by decide +kernel)
theorem mw_X4_74 : Cond.methodLink RX4 74 yX0_litSet ∈ TT := TT_t2 (List.mem_of_getElem? (i := 127) (by decide +kernel)) (by decide +kernel)
theorem mw_X4_77 : Cond.methodLink RX4 77 yX0_brightAt ∈ TT := TT_t2 (List.mem_of_getElem? (i := 131) (by decide +kernel)) (by decide +kernel)
theorem mw_X4_80 : Cond.methodLink RX4 80 yX4_letOneAnswer ∈ TT := TT_t2 (List.mem_of_getElem? (i := 199) (by decide +kernel)) (by decide +kernel)
theorem mw_X4_84 : Cond.methodLink RX4 84 yX4_letOneLight ∈ TT := TT_t2 (List.mem_of_getElem? (i := 203) (by decide +kernel)) (by decide +kernel)
theorem mw_X4_87 : Cond.methodLink RX4 87 Lib.Math.max.name ∈ TT := TT_t2 (List.mem_of_getElem? (i := 207) (by decide +kernel)) (by decide +kernel)
theorem mw_X4_90 : Cond.methodLink RX4 90 yX4_power ∈ TT := TT_t2 (List.mem_of_getElem? (i := 216) (by decide +kernel)) (by decide +kernel)
theorem mw_X5_1 : Cond.methodLink RX5 1 objectInit ∈ TT := TT_t0 (List.mem_of_getElem? (i := 90) (by decide +kernel)) (by decide +kernel)
theorem fw_X5_9 : Cond.fieldLink RX5 9 "GlowDebts$Strip" "size" "I" ∈ TT := TT_t0 (List.mem_of_getElem? (i := 95) (by decide +kernel)) (by decide +kernel)
theorem mw_X5_13 : Cond.methodLink RX5 13 Lib.Math.max.name ∈ TT := TT_t0 (List.mem_of_getElem? (i := 91) (by decide +kernel)) (by decide +kernel)
theorem fw_X5_19 : Cond.fieldLink RX5 19 "GlowDebts$Strip" "cells" "[I" ∈ TT := TT_t0 (List.mem_of_getElem? (i := 94) (by decide +kernel)) (by decide +kernel)
theorem mw_X5_23 : Cond.methodLink RX5 23 Lib.Math.min.name ∈ TT := TT_t0 (List.mem_of_getElem? (i := 159) (by decide +kernel)) (by decide +kernel)
theorem mw_X5_26 : Cond.methodLink RX5 26 yX5_holds ∈ TT := TT_t0 (List.mem_of_getElem? (i := 186) (by decide +kernel)) (by decide +kernel)
theorem mw_X5_30 : Cond.methodLink RX5 30 yX5_holdsRun ∈ TT := TT_t0 (List.mem_of_getElem? (i := 215) (by decide +kernel)) (by decide +kernel)
theorem mw_X5_34 : Cond.methodLink RX5 34 arraycopyName ∈ TT := TT_t0 (List.mem_of_getElem? (i := 216) (by decide +kernel)) (by decide +kernel)
theorem mw_X6_11 : Cond.methodLink RX6 11 yX0_thisNight ∈ TT := TT_t2 (List.mem_of_getElem? (i := 9) (by decide +kernel)) (by decide +kernel)
theorem mw_X6_17 : Cond.methodLink RX6 17 yX0_brightAt ∈ TT := TT_t2 (List.mem_of_getElem? (i := 10) (by decide +kernel)) (by decide +kernel)
theorem mw_X6_21 : Cond.methodLink RX6 21 Lib.Math.min.name ∈ TT := TT_t2 (List.mem_of_getElem? (i := 11) (by decide +kernel)) (by decide +kernel)
theorem mw_X7_9 : Cond.methodLink RX7 9 yX5_size ∈ TT := TT_t1 (List.mem_of_getElem? (i := 10) (by decide +kernel)) (by decide +kernel)
theorem mw_X7_15 : Cond.methodLink RX7 15 yX5_get ∈ TT := TT_t1 (List.mem_of_getElem? (i := 11) (by decide +kernel)) (by decide +kernel)
theorem mw_X7_19 : Cond.methodLink RX7 19 yX7_itemFault ∈ TT := TT_t1 (List.mem_of_getElem? (i := 12) (by decide +kernel)) (by decide +kernel)
theorem mw_X7_25 : Cond.methodLink RX7 25 yX2_ofLetter ∈ TT := TT_t1 (List.mem_of_getElem? (i := 15) (by decide +kernel)) (by decide +kernel)
theorem mw_X7_30 : Cond.methodLink RX7 30 yX7_isFigureOf ∈ TT := TT_t1 (List.mem_of_getElem? (i := 20) (by decide +kernel)) (by decide +kernel)
theorem mw_X7_34 : Cond.methodLink RX7 34 yX7_figureAt ∈ TT := TT_t1 (List.mem_of_getElem? (i := 23) (by decide +kernel)) (by decide +kernel)
theorem mw_X7_37 : Cond.methodLink RX7 37 yX0_clear ∈ TT := TT_t1 (List.mem_of_getElem? (i := 33) (by decide +kernel)) (by decide +kernel)
theorem mw_X7_42 : Cond.methodLink RX7 42 yX0_add ∈ TT := TT_t1 (List.mem_of_getElem? (i := 37) (by decide +kernel)) (by decide +kernel)
theorem mw_L_9 : Cond.methodLink RL 9 yX8_init ∈ TT := TT_t0 (List.mem_of_getElem? (i := 16) (by decide +kernel)) (by decide +kernel)
theorem mw_L_12 : Cond.methodLink RL 12 yX9_init ∈ TT := TT_t3 (List.mem_of_getElem? (i := 59) (by decide +kernel)) (by decide +kernel)
theorem mw_L_13 : Cond.methodLink RL 13 yX8_row ∈ TT := TT_t0 (List.mem_of_getElem? (i := 135) (by decide +kernel)) (by decide +kernel)
theorem mw_L_17 : Cond.methodLink RL 17 yX9_row ∈ TT := TT_t3 (List.mem_of_getElem? (i := 133) (by decide +kernel)) (by decide +kernel)
theorem mw_L_18 : Cond.methodLink RL 18 yX8_lay ∈ TT := TT_t0 (List.mem_of_getElem? (i := 162) (by decide +kernel)) (by decide +kernel)
theorem mw_L_22 : Cond.methodLink RL 22 yX9_lay ∈ TT := TT_t3 (List.mem_of_getElem? (i := 148) (by decide +kernel)) (by decide +kernel)
theorem mw_L_23 : Cond.methodLink RL 23 yX8_at ∈ TT := TT_t0 (List.mem_of_getElem? (i := 191) (by decide +kernel)) (by decide +kernel)
theorem mw_L_26 : Cond.methodLink RL 26 yX9_at ∈ TT := TT_t3 (List.mem_of_getElem? (i := 156) (by decide +kernel)) (by decide +kernel)
theorem mw_L_27 : Cond.methodLink RL 27 yX8_tear ∈ TT := TT_t0 (List.mem_of_getElem? (i := 195) (by decide +kernel)) (by decide +kernel)
theorem mw_L_31 : Cond.methodLink RL 31 yX9_tear ∈ TT := TT_t3 (List.mem_of_getElem? (i := 160) (by decide +kernel)) (by decide +kernel)
theorem mw_L_32 : Cond.methodLink RL 32 yX8_copy ∈ TT := TT_t0 (List.mem_of_getElem? (i := 203) (by decide +kernel)) (by decide +kernel)
theorem mw_L_36 : Cond.methodLink RL 36 yX9_copy ∈ TT := TT_t3 (List.mem_of_getElem? (i := 164) (by decide +kernel)) (by decide +kernel)
theorem mw_L_37 : Cond.methodLink RL 37 yX8_mean ∈ TT := TT_t0 (List.mem_of_getElem? (i := 219) (by decide +kernel)) (by decide +kernel)
theorem mw_L_40 : Cond.methodLink RL 40 yX9_mean ∈ TT := TT_t3 (List.mem_of_getElem? (i := 168) (by decide +kernel)) (by decide +kernel)
theorem mw_L_41 : Cond.methodLink RL 41 yX8_text ∈ TT := TT_t0 (List.mem_of_getElem? (i := 231) (by decide +kernel)) (by decide +kernel)
theorem mw_L_44 : Cond.methodLink RL 44 yX9_text ∈ TT := TT_t3 (List.mem_of_getElem? (i := 172) (by decide +kernel)) (by decide +kernel)
theorem mw_L_45 : Cond.methodLink RL 45 yX8_put ∈ TT := TT_t0 (List.mem_of_getElem? (i := 239) (by decide +kernel)) (by decide +kernel)
theorem mw_L_48 : Cond.methodLink RL 48 yX9_put ∈ TT := TT_t3 (List.mem_of_getElem? (i := 180) (by decide +kernel)) (by decide +kernel)
theorem mw_L_49 : Cond.methodLink RL 49 yX8_fault ∈ TT := TT_t1 (List.mem_of_getElem? (i := 3) (by decide +kernel)) (by decide +kernel)
theorem mw_L_52 : Cond.methodLink RL 52 yX9_fault ∈ TT := TT_t3 (List.mem_of_getElem? (i := 184) (by decide +kernel)) (by decide +kernel)
theorem mw_L_53 : Cond.methodLink RL 53 yX8_bank ∈ TT := TT_t1 (List.mem_of_getElem? (i := 26) (by decide +kernel)) (by decide +kernel)
theorem mw_L_56 : Cond.methodLink RL 56 yX9_bank ∈ TT := TT_t3 (List.mem_of_getElem? (i := 207) (by decide +kernel)) (by decide +kernel)
theorem mw_L_57 : Cond.methodLink RL 57 yX8_light ∈ TT := TT_t1 (List.mem_of_getElem? (i := 50) (by decide +kernel)) (by decide +kernel)
theorem mw_L_60 : Cond.methodLink RL 60 yX9_light ∈ TT := TT_t3 (List.mem_of_getElem? (i := 211) (by decide +kernel)) (by decide +kernel)
theorem mw_L_61 : Cond.methodLink RL 61 yX8_mark ∈ TT := TT_t1 (List.mem_of_getElem? (i := 96) (by decide +kernel)) (by decide +kernel)
theorem mw_L_64 : Cond.methodLink RL 64 yX9_mark ∈ TT := TT_t3 (List.mem_of_getElem? (i := 237) (by decide +kernel)) (by decide +kernel)
theorem mw_L_65 : Cond.methodLink RL 65 yX8_glows ∈ TT := TT_t1 (List.mem_of_getElem? (i := 116) (by decide +kernel)) (by decide +kernel)
theorem mw_L_68 : Cond.methodLink RL 68 yX9_glows ∈ TT := TT_t4 (List.mem_of_getElem? (i := 4) (by decide +kernel)) (by decide +kernel)
theorem mw_L_69 : Cond.methodLink RL 69 yX8_night ∈ TT := TT_t1 (List.mem_of_getElem? (i := 121) (by decide +kernel)) (by decide +kernel)
theorem mw_L_73 : Cond.methodLink RL 73 yX9_night ∈ TT := TT_t4 (List.mem_of_getElem? (i := 9) (by decide +kernel)) (by decide +kernel)
theorem mw_L_74 : Cond.methodLink RL 74 yX8_answer ∈ TT := TT_t1 (List.mem_of_getElem? (i := 141) (by decide +kernel)) (by decide +kernel)
theorem mw_L_77 : Cond.methodLink RL 77 yX9_answer ∈ TT := TT_t4 (List.mem_of_getElem? (i := 24) (by decide +kernel)) (by decide +kernel)
theorem mw_L_78 : Cond.methodLink RL 78 yX8_relight ∈ TT := TT_t1 (List.mem_of_getElem? (i := 150) (by decide +kernel)) (by decide +kernel)
theorem mw_L_81 : Cond.methodLink RL 81 yX9_relight ∈ TT := TT_t4 (List.mem_of_getElem? (i := 32) (by decide +kernel)) (by decide +kernel)
theorem mw_L_82 : Cond.methodLink RL 82 yX8_carry ∈ TT := TT_t1 (List.mem_of_getElem? (i := 158) (by decide +kernel)) (by decide +kernel)
theorem mw_L_85 : Cond.methodLink RL 85 yX9_carry ∈ TT := TT_t4 (List.mem_of_getElem? (i := 36) (by decide +kernel)) (by decide +kernel)
theorem mw_L_86 : Cond.methodLink RL 86 yX8_undo ∈ TT := TT_t1 (List.mem_of_getElem? (i := 170) (by decide +kernel)) (by decide +kernel)
theorem mw_L_89 : Cond.methodLink RL 89 yX9_undo ∈ TT := TT_t4 (List.mem_of_getElem? (i := 44) (by decide +kernel)) (by decide +kernel)
theorem mw_L_90 : Cond.methodLink RL 90 yX8_keep ∈ TT := TT_t1 (List.mem_of_getElem? (i := 182) (by decide +kernel)) (by decide +kernel)
theorem mw_L_93 : Cond.methodLink RL 93 yX9_keep ∈ TT := TT_t4 (List.mem_of_getElem? (i := 48) (by decide +kernel)) (by decide +kernel)
theorem mw_L_94 : Cond.methodLink RL 94 yX8_on ∈ TT := TT_t1 (List.mem_of_getElem? (i := 191) (by decide +kernel)) (by decide +kernel)
theorem mw_L_97 : Cond.methodLink RL 97 yX9_on ∈ TT := TT_t4 (List.mem_of_getElem? (i := 57) (by decide +kernel)) (by decide +kernel)
theorem mw_L_98 : Cond.methodLink RL 98 yX8_bright ∈ TT := TT_t1 (List.mem_of_getElem? (i := 195) (by decide +kernel)) (by decide +kernel)
theorem mw_L_101 : Cond.methodLink RL 101 yX9_bright ∈ TT := TT_t4 (List.mem_of_getElem? (i := 61) (by decide +kernel)) (by decide +kernel)
theorem mw_L_102 : Cond.methodLink RL 102 yX8_along ∈ TT := TT_t1 (List.mem_of_getElem? (i := 214) (by decide +kernel)) (by decide +kernel)
theorem mw_L_105 : Cond.methodLink RL 105 yX9_along ∈ TT := TT_t4 (List.mem_of_getElem? (i := 80) (by decide +kernel)) (by decide +kernel)
theorem mw_L_106 : Cond.methodLink RL 106 yX8_when ∈ TT := TT_t1 (List.mem_of_getElem? (i := 226) (by decide +kernel)) (by decide +kernel)
theorem mw_L_109 : Cond.methodLink RL 109 yX9_when ∈ TT := TT_t4 (List.mem_of_getElem? (i := 88) (by decide +kernel)) (by decide +kernel)
theorem mw_L_110 : Cond.methodLink RL 110 yX8_stow ∈ TT := TT_t1 (List.mem_of_getElem? (i := 230) (by decide +kernel)) (by decide +kernel)
theorem mw_L_113 : Cond.methodLink RL 113 yX9_stow ∈ TT := TT_t4 (List.mem_of_getElem? (i := 93) (by decide +kernel)) (by decide +kernel)
theorem mw_L_114 : Cond.methodLink RL 114 yX8_dark ∈ TT := TT_t1 (List.mem_of_getElem? (i := 238) (by decide +kernel)) (by decide +kernel)
theorem mw_L_117 : Cond.methodLink RL 117 yX9_dark ∈ TT := TT_t4 (List.mem_of_getElem? (i := 98) (by decide +kernel)) (by decide +kernel)
theorem mw_L_118 : Cond.methodLink RL 118 yX8_road ∈ TT := TT_t2 (List.mem_of_getElem? (i := 2) (by decide +kernel)) (by decide +kernel)
theorem mw_L_121 : Cond.methodLink RL 121 yX9_road ∈ TT := TT_t4 (List.mem_of_getElem? (i := 103) (by decide +kernel)) (by decide +kernel)
theorem mw_L_122 : Cond.methodLink RL 122 yX8_owes ∈ TT := TT_t2 (List.mem_of_getElem? (i := 18) (by decide +kernel)) (by decide +kernel)
theorem mw_L_125 : Cond.methodLink RL 125 yX9_owes ∈ TT := TT_t4 (List.mem_of_getElem? (i := 107) (by decide +kernel)) (by decide +kernel)
theorem mw_L_126 : Cond.methodLink RL 126 yX8_ring ∈ TT := TT_t2 (List.mem_of_getElem? (i := 34) (by decide +kernel)) (by decide +kernel)
theorem mw_L_129 : Cond.methodLink RL 129 yX9_ring ∈ TT := TT_t4 (List.mem_of_getElem? (i := 123) (by decide +kernel)) (by decide +kernel)
theorem mw_L_130 : Cond.methodLink RL 130 yX8_rings ∈ TT := TT_t2 (List.mem_of_getElem? (i := 68) (by decide +kernel)) (by decide +kernel)
theorem mw_L_133 : Cond.methodLink RL 133 yX9_rings ∈ TT := TT_t4 (List.mem_of_getElem? (i := 134) (by decide +kernel)) (by decide +kernel)
theorem mw_L_134 : Cond.methodLink RL 134 yX8_least ∈ TT := TT_t2 (List.mem_of_getElem? (i := 76) (by decide +kernel)) (by decide +kernel)
theorem mw_L_137 : Cond.methodLink RL 137 yX9_least ∈ TT := TT_t4 (List.mem_of_getElem? (i := 138) (by decide +kernel)) (by decide +kernel)
theorem mw_L_138 : Cond.methodLink RL 138 yX8_chain ∈ TT := TT_t2 (List.mem_of_getElem? (i := 84) (by decide +kernel)) (by decide +kernel)
theorem mw_L_141 : Cond.methodLink RL 141 yX9_chain ∈ TT := TT_t4 (List.mem_of_getElem? (i := 142) (by decide +kernel)) (by decide +kernel)
theorem mw_L_142 : Cond.methodLink RL 142 yX8_dim ∈ TT := TT_t2 (List.mem_of_getElem? (i := 112) (by decide +kernel)) (by decide +kernel)
theorem mw_L_145 : Cond.methodLink RL 145 yX9_dim ∈ TT := TT_t4 (List.mem_of_getElem? (i := 147) (by decide +kernel)) (by decide +kernel)
theorem mw_L_146 : Cond.methodLink RL 146 yX8_firsts ∈ TT := TT_t2 (List.mem_of_getElem? (i := 132) (by decide +kernel)) (by decide +kernel)
theorem mw_L_149 : Cond.methodLink RL 149 yX9_firsts ∈ TT := TT_t4 (List.mem_of_getElem? (i := 151) (by decide +kernel)) (by decide +kernel)
theorem mw_L_150 : Cond.methodLink RL 150 yX8_kinds ∈ TT := TT_t2 (List.mem_of_getElem? (i := 152) (by decide +kernel)) (by decide +kernel)
theorem mw_L_153 : Cond.methodLink RL 153 yX9_kinds ∈ TT := TT_t4 (List.mem_of_getElem? (i := 163) (by decide +kernel)) (by decide +kernel)
theorem mw_L_154 : Cond.methodLink RL 154 yX8_test ∈ TT := TT_t2 (List.mem_of_getElem? (i := 159) (by decide +kernel)) (by decide +kernel)
theorem mw_L_157 : Cond.methodLink RL 157 yX9_test ∈ TT := TT_t4 (List.mem_of_getElem? (i := 171) (by decide +kernel)) (by decide +kernel)
theorem mw_L_158 : Cond.methodLink RL 158 yX8_whose ∈ TT := TT_t2 (List.mem_of_getElem? (i := 174) (by decide +kernel)) (by decide +kernel)
theorem mw_L_161 : Cond.methodLink RL 161 yX9_whose ∈ TT := TT_t4 (List.mem_of_getElem? (i := 179) (by decide +kernel)) (by decide +kernel)
theorem mw_L_162 : Cond.methodLink RL 162 yX8_duel ∈ TT := TT_t2 (List.mem_of_getElem? (i := 191) (by decide +kernel)) (by decide +kernel)
theorem mw_L_165 : Cond.methodLink RL 165 yX9_duel ∈ TT := TT_t4 (List.mem_of_getElem? (i := 183) (by decide +kernel)) (by decide +kernel)
theorem mw_L_166 : Cond.methodLink RL 166 yX8_odds ∈ TT := TT_t2 (List.mem_of_getElem? (i := 208) (by decide +kernel)) (by decide +kernel)
theorem mw_L_169 : Cond.methodLink RL 169 yX9_odds ∈ TT := TT_t4 (List.mem_of_getElem? (i := 192) (by decide +kernel)) (by decide +kernel)
theorem mw_L_170 : Cond.methodLink RL 170 yX8_mid ∈ TT := TT_t2 (List.mem_of_getElem? (i := 228) (by decide +kernel)) (by decide +kernel)
theorem mw_L_173 : Cond.methodLink RL 173 yX9_mid ∈ TT := TT_t4 (List.mem_of_getElem? (i := 205) (by decide +kernel)) (by decide +kernel)
theorem mw_L_174 : Cond.methodLink RL 174 yX8_lots ∈ TT := TT_t2 (List.mem_of_getElem? (i := 233) (by decide +kernel)) (by decide +kernel)
theorem mw_L_177 : Cond.methodLink RL 177 yX9_lots ∈ TT := TT_t4 (List.mem_of_getElem? (i := 209) (by decide +kernel)) (by decide +kernel)
theorem mw_L_178 : Cond.methodLink RL 178 yX8_asked ∈ TT := TT_t3 (List.mem_of_getElem? (i := 12) (by decide +kernel)) (by decide +kernel)
theorem mw_L_181 : Cond.methodLink RL 181 yX9_asked ∈ TT := TT_t4 (List.mem_of_getElem? (i := 219) (by decide +kernel)) (by decide +kernel)
theorem mw_L_182 : Cond.methodLink RL 182 yX8_upper ∈ TT := TT_t3 (List.mem_of_getElem? (i := 16) (by decide +kernel)) (by decide +kernel)
theorem mw_L_186 : Cond.methodLink RL 186 yX9_upper ∈ TT := TT_t4 (List.mem_of_getElem? (i := 223) (by decide +kernel)) (by decide +kernel)
theorem mw_L_187 : Cond.methodLink RL 187 yX8_lower ∈ TT := TT_t3 (List.mem_of_getElem? (i := 20) (by decide +kernel)) (by decide +kernel)
theorem mw_L_190 : Cond.methodLink RL 190 yX9_lower ∈ TT := TT_t4 (List.mem_of_getElem? (i := 227) (by decide +kernel)) (by decide +kernel)
theorem mw_L_191 : Cond.methodLink RL 191 yX8_count ∈ TT := TT_t3 (List.mem_of_getElem? (i := 24) (by decide +kernel)) (by decide +kernel)
theorem mw_L_194 : Cond.methodLink RL 194 yX9_count ∈ TT := TT_t4 (List.mem_of_getElem? (i := 231) (by decide +kernel)) (by decide +kernel)
theorem mw_L_195 : Cond.methodLink RL 195 yX8_finding ∈ TT := TT_t3 (List.mem_of_getElem? (i := 39) (by decide +kernel)) (by decide +kernel)
theorem mw_L_198 : Cond.methodLink RL 198 yX9_finding ∈ TT := TT_t5 (List.mem_of_getElem? (i := 11) (by decide +kernel)) (by decide +kernel)
theorem mw_L_199 : Cond.methodLink RL 199 yX8_findings ∈ TT := TT_t3 (List.mem_of_getElem? (i := 43) (by decide +kernel)) (by decide +kernel)
theorem mw_L_202 : Cond.methodLink RL 202 yX9_findings ∈ TT := TT_t5 (List.mem_of_getElem? (i := 15) (by decide +kernel)) (by decide +kernel)
theorem mw_L_203 : Cond.methodLink RL 203 yX8_digest ∈ TT := TT_t3 (List.mem_of_getElem? (i := 47) (by decide +kernel)) (by decide +kernel)
theorem mw_L_206 : Cond.methodLink RL 206 yX9_digest ∈ TT := TT_t5 (List.mem_of_getElem? (i := 19) (by decide +kernel)) (by decide +kernel)
theorem ix_X0 : ∀ w ∈ u_ws RX0 TX0 10, w ∈ TT := by
  have h1 : ∀ w ∈ u_ws RX0 TX0 10, w ∈ tables_1 := by decide +kernel
  have h2 : (u_ws RX0 TX0 10).all goodWord = true := by decide +kernel
  exact fun w h => TT_of (h1 w h) (List.all_eq_true.mp h2 w h)
theorem ix_X1 : ∀ w ∈ u_ws RX1 TX1 1, w ∈ TT := by
  have h1 : ∀ w ∈ u_ws RX1 TX1 1, w ∈ tables_1 := by decide +kernel
  have h2 : (u_ws RX1 TX1 1).all goodWord = true := by decide +kernel
  exact fun w h => TT_of (h1 w h) (List.all_eq_true.mp h2 w h)
theorem ix_X4 : ∀ w ∈ u_ws RX4 TX4 2, w ∈ TT := by
  have h1 : ∀ w ∈ u_ws RX4 TX4 2, w ∈ tables_1 := by decide +kernel
  have h2 : (u_ws RX4 TX4 2).all goodWord = true := by decide +kernel
  exact fun w h => TT_of (h1 w h) (List.all_eq_true.mp h2 w h)
theorem ix_X5 : ∀ w ∈ u_ws RX5 TX5 2, w ∈ TT := by
  have h1 : ∀ w ∈ u_ws RX5 TX5 2, w ∈ tables_1 := by decide +kernel
  have h2 : (u_ws RX5 TX5 2).all goodWord = true := by decide +kernel
  exact fun w h => TT_of (h1 w h) (List.all_eq_true.mp h2 w h)
theorem ix_X8 : ∀ w ∈ u_ws RX8 TX8 11, w ∈ TT := by
  have h1 : ∀ w ∈ u_ws RX8 TX8 11, w ∈ tables_1 := by decide +kernel
  have h2 : (u_ws RX8 TX8 11).all goodWord = true := by decide +kernel
  exact fun w h => TT_of (h1 w h) (List.all_eq_true.mp h2 w h)
theorem ix_X9 : ∀ w ∈ u_ws RX9 TX9 23, w ∈ TT := by
  have h1 : ∀ w ∈ u_ws RX9 TX9 23, w ∈ tables_1 := by decide +kernel
  have h2 : (u_ws RX9 TX9 23).all goodWord = true := by decide +kernel
  exact fun w h => TT_of (h1 w h) (List.all_eq_true.mp h2 w h)
abbrev Ym : Type := MethodName × ByteArray × Nat × Option FieldType × Nat
def JV (J : Ym) (n : Nat) : Prop := (J.1.cls ≠ "java/lang/invoke/MethodHandle" ∧ J.1.cls ≠ "java/lang/invoke/VarHandle" ∧ (parseMethodDescriptor J.1.desc).map (fun d => d.parameters.length) = some n) ∧ GoodIn TT [.instanceMethod J.1, .selects J.1.cls J.1 J.1, .initialized J.1.cls, .code J.1 J.2.1 J.2.2.1 J.2.2.2.1]
def JS (J : Ym) (n : Nat) : Prop := (J.1.cls ≠ "java/lang/invoke/MethodHandle" ∧ J.1.cls ≠ "java/lang/invoke/VarHandle" ∧ (parseMethodDescriptor J.1.desc).map (fun d => d.parameters.length) = some n) ∧ GoodIn TT [.static J.1, .initialized J.1.cls, .code J.1 J.2.1 J.2.2.1 J.2.2.2.1]
theorem in_c {c : String} (h : Cond.initialized c ∈ TT) : Cond.initialized c ∈ TT := h
theorem in_X0 : Cond.initialized "GlowDebts$Bank" ∈ TT := TT_t0 (List.mem_of_getElem? (i := 2) (by decide +kernel)) (by decide +kernel)
theorem in_X1 : Cond.initialized "GlowDebts$Chains" ∈ TT := TT_t0 (List.mem_of_getElem? (i := 4) (by decide +kernel)) (by decide +kernel)
theorem in_X2 : Cond.initialized "GlowDebts$Kinds" ∈ TT := TT_t0 (List.mem_of_getElem? (i := 10) (by decide +kernel)) (by decide +kernel)
theorem in_X3 : Cond.initialized "GlowDebts$Looks" ∈ TT := TT_t0 (List.mem_of_getElem? (i := 13) (by decide +kernel)) (by decide +kernel)
theorem in_X4 : Cond.initialized "GlowDebts$Sets" ∈ TT := TT_t0 (List.mem_of_getElem? (i := 3) (by decide +kernel)) (by decide +kernel)
theorem in_X5 : Cond.initialized "GlowDebts$Strip" ∈ TT := TT_t0 (List.mem_of_getElem? (i := 5) (by decide +kernel)) (by decide +kernel)
theorem in_X6 : Cond.initialized "GlowDebts$Ways" ∈ TT := TT_t0 (List.mem_of_getElem? (i := 11) (by decide +kernel)) (by decide +kernel)
theorem in_X7 : Cond.initialized "GlowDebts$Wording" ∈ TT := TT_t0 (List.mem_of_getElem? (i := 9) (by decide +kernel)) (by decide +kernel)
theorem in_X8 : Cond.initialized "GlowDebts" ∈ TT := TT_t0 (List.mem_of_getElem? (i := 1) (by decide +kernel)) (by decide +kernel)
theorem in_X9 : Cond.initialized "GlowDebtsModel" ∈ TT := TT_t0 (List.mem_of_getElem? (i := 7) (by decide +kernel)) (by decide +kernel)
theorem in_J6 : Cond.initialized "java/lang/Integer" ∈ TT := TT_t0 (List.mem_of_getElem? (i := 12) (by decide +kernel)) (by decide +kernel)
theorem in_J9 : Cond.initialized "java/lang/Math" ∈ TT := TT_t0 (List.mem_of_getElem? (i := 6) (by decide +kernel)) (by decide +kernel)
theorem in_J10 : Cond.initialized "java/lang/System" ∈ TT := TT_t0 (List.mem_of_getElem? (i := 8) (by decide +kernel)) (by decide +kernel)
theorem in_L : Cond.initialized "GlowDebtsLaw" ∈ TT := TT_t0 (List.mem_of_getElem? (i := 0) (by decide +kernel)) (by decide +kernel)
abbrev i_X8_row : Ym := (yX8_row, cX8_row, 3, (some .int), 3)
theorem j_X8_row : JV i_X8_row 2 := ⟨⟨by decide +kernel, by decide +kernel, by decide +kernel⟩, TT_2 (TT_t0 (List.mem_of_getElem? (i := 136) (by decide +kernel)) (by decide +kernel)) (TT_2 (TT_t0 (List.mem_of_getElem? (i := 137) (by decide +kernel)) (by decide +kernel)) (TT_2 in_X8 (TT_2 (TT_t0 (List.mem_of_getElem? (i := 138) (by decide +kernel)) (by decide +kernel)) TT_0)))⟩
abbrev i_X8_lay : Ym := (yX8_lay, cX8_lay, 6, (some .int), 3)
theorem j_X8_lay : JV i_X8_lay 3 := ⟨⟨by decide +kernel, by decide +kernel, by decide +kernel⟩, TT_2 (TT_t0 (List.mem_of_getElem? (i := 163) (by decide +kernel)) (by decide +kernel)) (TT_2 (TT_t0 (List.mem_of_getElem? (i := 164) (by decide +kernel)) (by decide +kernel)) (TT_2 in_X8 (TT_2 (TT_t0 (List.mem_of_getElem? (i := 165) (by decide +kernel)) (by decide +kernel)) TT_0)))⟩
abbrev i_X8_at : Ym := (yX8_at, cX8_at, 5, (some .int), 3)
theorem j_X8_at : JV i_X8_at 2 := ⟨⟨by decide +kernel, by decide +kernel, by decide +kernel⟩, TT_2 (TT_t0 (List.mem_of_getElem? (i := 192) (by decide +kernel)) (by decide +kernel)) (TT_2 (TT_t0 (List.mem_of_getElem? (i := 193) (by decide +kernel)) (by decide +kernel)) (TT_2 in_X8 (TT_2 (TT_t0 (List.mem_of_getElem? (i := 194) (by decide +kernel)) (by decide +kernel)) TT_0)))⟩
abbrev i_X8_tear : Ym := (yX8_tear, cX8_tear, 4, (some .int), 2)
theorem j_X8_tear : JV i_X8_tear 1 := ⟨⟨by decide +kernel, by decide +kernel, by decide +kernel⟩, TT_2 (TT_t0 (List.mem_of_getElem? (i := 196) (by decide +kernel)) (by decide +kernel)) (TT_2 (TT_t0 (List.mem_of_getElem? (i := 197) (by decide +kernel)) (by decide +kernel)) (TT_2 in_X8 (TT_2 (TT_t0 (List.mem_of_getElem? (i := 198) (by decide +kernel)) (by decide +kernel)) TT_0)))⟩
abbrev i_X8_copy : Ym := (yX8_copy, cX8_copy, 8, (some .int), 2)
theorem j_X8_copy : JV i_X8_copy 5 := ⟨⟨by decide +kernel, by decide +kernel, by decide +kernel⟩, TT_2 (TT_t0 (List.mem_of_getElem? (i := 204) (by decide +kernel)) (by decide +kernel)) (TT_2 (TT_t0 (List.mem_of_getElem? (i := 205) (by decide +kernel)) (by decide +kernel)) (TT_2 in_X8 (TT_2 (TT_t0 (List.mem_of_getElem? (i := 206) (by decide +kernel)) (by decide +kernel)) TT_0)))⟩
abbrev i_X8_mean : Ym := (yX8_mean, cX8_mean, 5, (some .int), 2)
theorem j_X8_mean : JV i_X8_mean 1 := ⟨⟨by decide +kernel, by decide +kernel, by decide +kernel⟩, TT_2 (TT_t0 (List.mem_of_getElem? (i := 220) (by decide +kernel)) (by decide +kernel)) (TT_2 (TT_t0 (List.mem_of_getElem? (i := 221) (by decide +kernel)) (by decide +kernel)) (TT_2 in_X8 (TT_2 (TT_t0 (List.mem_of_getElem? (i := 222) (by decide +kernel)) (by decide +kernel)) TT_0)))⟩
abbrev i_X8_text : Ym := (yX8_text, cX8_text, 3, (some .int), 3)
theorem j_X8_text : JV i_X8_text 2 := ⟨⟨by decide +kernel, by decide +kernel, by decide +kernel⟩, TT_2 (TT_t0 (List.mem_of_getElem? (i := 232) (by decide +kernel)) (by decide +kernel)) (TT_2 (TT_t0 (List.mem_of_getElem? (i := 233) (by decide +kernel)) (by decide +kernel)) (TT_2 in_X8 (TT_2 (TT_t0 (List.mem_of_getElem? (i := 234) (by decide +kernel)) (by decide +kernel)) TT_0)))⟩
abbrev i_X8_put : Ym := (yX8_put, cX8_put, 7, (some .int), 3)
theorem j_X8_put : JV i_X8_put 3 := ⟨⟨by decide +kernel, by decide +kernel, by decide +kernel⟩, TT_2 (TT_t1 (List.mem_of_getElem? (i := 0) (by decide +kernel)) (by decide +kernel)) (TT_2 (TT_t1 (List.mem_of_getElem? (i := 1) (by decide +kernel)) (by decide +kernel)) (TT_2 in_X8 (TT_2 (TT_t1 (List.mem_of_getElem? (i := 2) (by decide +kernel)) (by decide +kernel)) TT_0)))⟩
abbrev i_X8_fault : Ym := (yX8_fault, cX8_fault, 4, (some .int), 6)
theorem j_X8_fault : JV i_X8_fault 1 := ⟨⟨by decide +kernel, by decide +kernel, by decide +kernel⟩, TT_2 (TT_t1 (List.mem_of_getElem? (i := 4) (by decide +kernel)) (by decide +kernel)) (TT_2 (TT_t1 (List.mem_of_getElem? (i := 5) (by decide +kernel)) (by decide +kernel)) (TT_2 in_X8 (TT_2 (TT_t1 (List.mem_of_getElem? (i := 6) (by decide +kernel)) (by decide +kernel)) TT_0)))⟩
abbrev i_X8_bank : Ym := (yX8_bank, cX8_bank, 6, (some .int), 6)
theorem j_X8_bank : JV i_X8_bank 1 := ⟨⟨by decide +kernel, by decide +kernel, by decide +kernel⟩, TT_2 (TT_t1 (List.mem_of_getElem? (i := 27) (by decide +kernel)) (by decide +kernel)) (TT_2 (TT_t1 (List.mem_of_getElem? (i := 28) (by decide +kernel)) (by decide +kernel)) (TT_2 in_X8 (TT_2 (TT_t1 (List.mem_of_getElem? (i := 29) (by decide +kernel)) (by decide +kernel)) TT_0)))⟩
abbrev i_X8_light : Ym := (yX8_light, cX8_light, 3, (some .int), 4)
theorem j_X8_light : JV i_X8_light 2 := ⟨⟨by decide +kernel, by decide +kernel, by decide +kernel⟩, TT_2 (TT_t1 (List.mem_of_getElem? (i := 51) (by decide +kernel)) (by decide +kernel)) (TT_2 (TT_t1 (List.mem_of_getElem? (i := 52) (by decide +kernel)) (by decide +kernel)) (TT_2 in_X8 (TT_2 (TT_t1 (List.mem_of_getElem? (i := 53) (by decide +kernel)) (by decide +kernel)) TT_0)))⟩
abbrev i_X8_mark : Ym := (yX8_mark, cX8_mark, 3, (some .int), 3)
theorem j_X8_mark : JV i_X8_mark 2 := ⟨⟨by decide +kernel, by decide +kernel, by decide +kernel⟩, TT_2 (TT_t1 (List.mem_of_getElem? (i := 97) (by decide +kernel)) (by decide +kernel)) (TT_2 (TT_t1 (List.mem_of_getElem? (i := 98) (by decide +kernel)) (by decide +kernel)) (TT_2 in_X8 (TT_2 (TT_t1 (List.mem_of_getElem? (i := 99) (by decide +kernel)) (by decide +kernel)) TT_0)))⟩
abbrev i_X8_glows : Ym := (yX8_glows, cX8_glows, 3, (some .int), 3)
theorem j_X8_glows : JV i_X8_glows 2 := ⟨⟨by decide +kernel, by decide +kernel, by decide +kernel⟩, TT_2 (TT_t1 (List.mem_of_getElem? (i := 117) (by decide +kernel)) (by decide +kernel)) (TT_2 (TT_t1 (List.mem_of_getElem? (i := 118) (by decide +kernel)) (by decide +kernel)) (TT_2 in_X8 (TT_2 (TT_t1 (List.mem_of_getElem? (i := 119) (by decide +kernel)) (by decide +kernel)) TT_0)))⟩
abbrev i_X8_night : Ym := (yX8_night, cX8_night, 1, (some .int), 4)
theorem j_X8_night : JV i_X8_night 0 := ⟨⟨by decide +kernel, by decide +kernel, by decide +kernel⟩, TT_2 (TT_t1 (List.mem_of_getElem? (i := 122) (by decide +kernel)) (by decide +kernel)) (TT_2 (TT_t1 (List.mem_of_getElem? (i := 123) (by decide +kernel)) (by decide +kernel)) (TT_2 in_X8 (TT_2 (TT_t1 (List.mem_of_getElem? (i := 124) (by decide +kernel)) (by decide +kernel)) TT_0)))⟩
abbrev i_X8_answer : Ym := (yX8_answer, cX8_answer, 2, (some .int), 3)
theorem j_X8_answer : JV i_X8_answer 1 := ⟨⟨by decide +kernel, by decide +kernel, by decide +kernel⟩, TT_2 (TT_t1 (List.mem_of_getElem? (i := 142) (by decide +kernel)) (by decide +kernel)) (TT_2 (TT_t1 (List.mem_of_getElem? (i := 143) (by decide +kernel)) (by decide +kernel)) (TT_2 in_X8 (TT_2 (TT_t1 (List.mem_of_getElem? (i := 144) (by decide +kernel)) (by decide +kernel)) TT_0)))⟩
abbrev i_X8_relight : Ym := (yX8_relight, cX8_relight, 2, (some .int), 3)
theorem j_X8_relight : JV i_X8_relight 1 := ⟨⟨by decide +kernel, by decide +kernel, by decide +kernel⟩, TT_2 (TT_t1 (List.mem_of_getElem? (i := 151) (by decide +kernel)) (by decide +kernel)) (TT_2 (TT_t1 (List.mem_of_getElem? (i := 152) (by decide +kernel)) (by decide +kernel)) (TT_2 in_X8 (TT_2 (TT_t1 (List.mem_of_getElem? (i := 153) (by decide +kernel)) (by decide +kernel)) TT_0)))⟩
abbrev i_X8_carry : Ym := (yX8_carry, cX8_carry, 4, (some .int), 2)
theorem j_X8_carry : JV i_X8_carry 2 := ⟨⟨by decide +kernel, by decide +kernel, by decide +kernel⟩, TT_2 (TT_t1 (List.mem_of_getElem? (i := 159) (by decide +kernel)) (by decide +kernel)) (TT_2 (TT_t1 (List.mem_of_getElem? (i := 160) (by decide +kernel)) (by decide +kernel)) (TT_2 in_X8 (TT_2 (TT_t1 (List.mem_of_getElem? (i := 161) (by decide +kernel)) (by decide +kernel)) TT_0)))⟩
abbrev i_X8_undo : Ym := (yX8_undo, cX8_undo, 3, (some .int), 3)
theorem j_X8_undo : JV i_X8_undo 1 := ⟨⟨by decide +kernel, by decide +kernel, by decide +kernel⟩, TT_2 (TT_t1 (List.mem_of_getElem? (i := 171) (by decide +kernel)) (by decide +kernel)) (TT_2 (TT_t1 (List.mem_of_getElem? (i := 172) (by decide +kernel)) (by decide +kernel)) (TT_2 in_X8 (TT_2 (TT_t1 (List.mem_of_getElem? (i := 173) (by decide +kernel)) (by decide +kernel)) TT_0)))⟩
abbrev i_X8_keep : Ym := (yX8_keep, cX8_keep, 3, (some .int), 2)
theorem j_X8_keep : JV i_X8_keep 1 := ⟨⟨by decide +kernel, by decide +kernel, by decide +kernel⟩, TT_2 (TT_t1 (List.mem_of_getElem? (i := 183) (by decide +kernel)) (by decide +kernel)) (TT_2 (TT_t1 (List.mem_of_getElem? (i := 184) (by decide +kernel)) (by decide +kernel)) (TT_2 in_X8 (TT_2 (TT_t1 (List.mem_of_getElem? (i := 185) (by decide +kernel)) (by decide +kernel)) TT_0)))⟩
abbrev i_X8_on : Ym := (yX8_on, cX8_on, 3, (some .int), 2)
theorem j_X8_on : JV i_X8_on 1 := ⟨⟨by decide +kernel, by decide +kernel, by decide +kernel⟩, TT_2 (TT_t1 (List.mem_of_getElem? (i := 192) (by decide +kernel)) (by decide +kernel)) (TT_2 (TT_t1 (List.mem_of_getElem? (i := 193) (by decide +kernel)) (by decide +kernel)) (TT_2 in_X8 (TT_2 (TT_t1 (List.mem_of_getElem? (i := 194) (by decide +kernel)) (by decide +kernel)) TT_0)))⟩
abbrev i_X8_bright : Ym := (yX8_bright, cX8_bright, 2, (some .int), 5)
theorem j_X8_bright : JV i_X8_bright 1 := ⟨⟨by decide +kernel, by decide +kernel, by decide +kernel⟩, TT_2 (TT_t1 (List.mem_of_getElem? (i := 196) (by decide +kernel)) (by decide +kernel)) (TT_2 (TT_t1 (List.mem_of_getElem? (i := 197) (by decide +kernel)) (by decide +kernel)) (TT_2 in_X8 (TT_2 (TT_t1 (List.mem_of_getElem? (i := 198) (by decide +kernel)) (by decide +kernel)) TT_0)))⟩
abbrev i_X8_along : Ym := (yX8_along, cX8_along, 3, (some .int), 6)
theorem j_X8_along : JV i_X8_along 2 := ⟨⟨by decide +kernel, by decide +kernel, by decide +kernel⟩, TT_2 (TT_t1 (List.mem_of_getElem? (i := 215) (by decide +kernel)) (by decide +kernel)) (TT_2 (TT_t1 (List.mem_of_getElem? (i := 216) (by decide +kernel)) (by decide +kernel)) (TT_2 in_X8 (TT_2 (TT_t1 (List.mem_of_getElem? (i := 217) (by decide +kernel)) (by decide +kernel)) TT_0)))⟩
abbrev i_X8_when : Ym := (yX8_when, cX8_when, 5, (some .int), 5)
theorem j_X8_when : JV i_X8_when 2 := ⟨⟨by decide +kernel, by decide +kernel, by decide +kernel⟩, TT_2 (TT_t1 (List.mem_of_getElem? (i := 227) (by decide +kernel)) (by decide +kernel)) (TT_2 (TT_t1 (List.mem_of_getElem? (i := 228) (by decide +kernel)) (by decide +kernel)) (TT_2 in_X8 (TT_2 (TT_t1 (List.mem_of_getElem? (i := 229) (by decide +kernel)) (by decide +kernel)) TT_0)))⟩
abbrev i_X8_stow : Ym := (yX8_stow, cX8_stow, 9, (some .int), 6)
theorem j_X8_stow : JV i_X8_stow 3 := ⟨⟨by decide +kernel, by decide +kernel, by decide +kernel⟩, TT_2 (TT_t1 (List.mem_of_getElem? (i := 231) (by decide +kernel)) (by decide +kernel)) (TT_2 (TT_t1 (List.mem_of_getElem? (i := 232) (by decide +kernel)) (by decide +kernel)) (TT_2 in_X8 (TT_2 (TT_t1 (List.mem_of_getElem? (i := 233) (by decide +kernel)) (by decide +kernel)) TT_0)))⟩
abbrev i_X8_dark : Ym := (yX8_dark, cX8_dark, 6, (some .int), 6)
theorem j_X8_dark : JV i_X8_dark 1 := ⟨⟨by decide +kernel, by decide +kernel, by decide +kernel⟩, TT_2 (TT_t1 (List.mem_of_getElem? (i := 239) (by decide +kernel)) (by decide +kernel)) (TT_2 (TT_t2 (List.mem_of_getElem? (i := 0) (by decide +kernel)) (by decide +kernel)) (TT_2 in_X8 (TT_2 (TT_t2 (List.mem_of_getElem? (i := 1) (by decide +kernel)) (by decide +kernel)) TT_0)))⟩
abbrev i_X8_road : Ym := (yX8_road, cX8_road, 2, (some .int), 6)
theorem j_X8_road : JV i_X8_road 0 := ⟨⟨by decide +kernel, by decide +kernel, by decide +kernel⟩, TT_2 (TT_t2 (List.mem_of_getElem? (i := 3) (by decide +kernel)) (by decide +kernel)) (TT_2 (TT_t2 (List.mem_of_getElem? (i := 4) (by decide +kernel)) (by decide +kernel)) (TT_2 in_X8 (TT_2 (TT_t2 (List.mem_of_getElem? (i := 5) (by decide +kernel)) (by decide +kernel)) TT_0)))⟩
abbrev i_X8_owes : Ym := (yX8_owes, cX8_owes, 2, (some .int), 4)
theorem j_X8_owes : JV i_X8_owes 1 := ⟨⟨by decide +kernel, by decide +kernel, by decide +kernel⟩, TT_2 (TT_t2 (List.mem_of_getElem? (i := 19) (by decide +kernel)) (by decide +kernel)) (TT_2 (TT_t2 (List.mem_of_getElem? (i := 20) (by decide +kernel)) (by decide +kernel)) (TT_2 in_X8 (TT_2 (TT_t2 (List.mem_of_getElem? (i := 21) (by decide +kernel)) (by decide +kernel)) TT_0)))⟩
abbrev i_X8_ring : Ym := (yX8_ring, cX8_ring, 2, (some .int), 5)
theorem j_X8_ring : JV i_X8_ring 0 := ⟨⟨by decide +kernel, by decide +kernel, by decide +kernel⟩, TT_2 (TT_t2 (List.mem_of_getElem? (i := 35) (by decide +kernel)) (by decide +kernel)) (TT_2 (TT_t2 (List.mem_of_getElem? (i := 36) (by decide +kernel)) (by decide +kernel)) (TT_2 in_X8 (TT_2 (TT_t2 (List.mem_of_getElem? (i := 37) (by decide +kernel)) (by decide +kernel)) TT_0)))⟩
abbrev i_X8_rings : Ym := (yX8_rings, cX8_rings, 2, (some .int), 5)
theorem j_X8_rings : JV i_X8_rings 1 := ⟨⟨by decide +kernel, by decide +kernel, by decide +kernel⟩, TT_2 (TT_t2 (List.mem_of_getElem? (i := 69) (by decide +kernel)) (by decide +kernel)) (TT_2 (TT_t2 (List.mem_of_getElem? (i := 70) (by decide +kernel)) (by decide +kernel)) (TT_2 in_X8 (TT_2 (TT_t2 (List.mem_of_getElem? (i := 71) (by decide +kernel)) (by decide +kernel)) TT_0)))⟩
abbrev i_X8_least : Ym := (yX8_least, cX8_least, 3, (some .int), 5)
theorem j_X8_least : JV i_X8_least 1 := ⟨⟨by decide +kernel, by decide +kernel, by decide +kernel⟩, TT_2 (TT_t2 (List.mem_of_getElem? (i := 77) (by decide +kernel)) (by decide +kernel)) (TT_2 (TT_t2 (List.mem_of_getElem? (i := 78) (by decide +kernel)) (by decide +kernel)) (TT_2 in_X8 (TT_2 (TT_t2 (List.mem_of_getElem? (i := 79) (by decide +kernel)) (by decide +kernel)) TT_0)))⟩
abbrev i_X8_chain : Ym := (yX8_chain, cX8_chain, 6, (some .int), 5)
theorem j_X8_chain : JV i_X8_chain 3 := ⟨⟨by decide +kernel, by decide +kernel, by decide +kernel⟩, TT_2 (TT_t2 (List.mem_of_getElem? (i := 85) (by decide +kernel)) (by decide +kernel)) (TT_2 (TT_t2 (List.mem_of_getElem? (i := 86) (by decide +kernel)) (by decide +kernel)) (TT_2 in_X8 (TT_2 (TT_t2 (List.mem_of_getElem? (i := 87) (by decide +kernel)) (by decide +kernel)) TT_0)))⟩
abbrev i_X8_dim : Ym := (yX8_dim, cX8_dim, 4, (some .int), 6)
theorem j_X8_dim : JV i_X8_dim 2 := ⟨⟨by decide +kernel, by decide +kernel, by decide +kernel⟩, TT_2 (TT_t2 (List.mem_of_getElem? (i := 113) (by decide +kernel)) (by decide +kernel)) (TT_2 (TT_t2 (List.mem_of_getElem? (i := 114) (by decide +kernel)) (by decide +kernel)) (TT_2 in_X8 (TT_2 (TT_t2 (List.mem_of_getElem? (i := 115) (by decide +kernel)) (by decide +kernel)) TT_0)))⟩
abbrev i_X8_firsts : Ym := (yX8_firsts, cX8_firsts, 5, (some .int), 4)
theorem j_X8_firsts : JV i_X8_firsts 2 := ⟨⟨by decide +kernel, by decide +kernel, by decide +kernel⟩, TT_2 (TT_t2 (List.mem_of_getElem? (i := 133) (by decide +kernel)) (by decide +kernel)) (TT_2 (TT_t2 (List.mem_of_getElem? (i := 134) (by decide +kernel)) (by decide +kernel)) (TT_2 in_X8 (TT_2 (TT_t2 (List.mem_of_getElem? (i := 135) (by decide +kernel)) (by decide +kernel)) TT_0)))⟩
abbrev i_X8_kinds : Ym := (yX8_kinds, cX8_kinds, 5, (some .int), 4)
theorem j_X8_kinds : JV i_X8_kinds 2 := ⟨⟨by decide +kernel, by decide +kernel, by decide +kernel⟩, TT_2 (TT_t2 (List.mem_of_getElem? (i := 153) (by decide +kernel)) (by decide +kernel)) (TT_2 (TT_t2 (List.mem_of_getElem? (i := 154) (by decide +kernel)) (by decide +kernel)) (TT_2 in_X8 (TT_2 (TT_t2 (List.mem_of_getElem? (i := 155) (by decide +kernel)) (by decide +kernel)) TT_0)))⟩
abbrev i_X8_test : Ym := (yX8_test, cX8_test, 8, (some .int), 5)
theorem j_X8_test : JV i_X8_test 2 := ⟨⟨by decide +kernel, by decide +kernel, by decide +kernel⟩, TT_2 (TT_t2 (List.mem_of_getElem? (i := 160) (by decide +kernel)) (by decide +kernel)) (TT_2 (TT_t2 (List.mem_of_getElem? (i := 161) (by decide +kernel)) (by decide +kernel)) (TT_2 in_X8 (TT_2 (TT_t2 (List.mem_of_getElem? (i := 162) (by decide +kernel)) (by decide +kernel)) TT_0)))⟩
abbrev i_X8_whose : Ym := (yX8_whose, cX8_whose, 4, (some .int), 6)
theorem j_X8_whose : JV i_X8_whose 2 := ⟨⟨by decide +kernel, by decide +kernel, by decide +kernel⟩, TT_2 (TT_t2 (List.mem_of_getElem? (i := 175) (by decide +kernel)) (by decide +kernel)) (TT_2 (TT_t2 (List.mem_of_getElem? (i := 176) (by decide +kernel)) (by decide +kernel)) (TT_2 in_X8 (TT_2 (TT_t2 (List.mem_of_getElem? (i := 177) (by decide +kernel)) (by decide +kernel)) TT_0)))⟩
abbrev i_X8_duel : Ym := (yX8_duel, cX8_duel, 3, (some .int), 6)
theorem j_X8_duel : JV i_X8_duel 2 := ⟨⟨by decide +kernel, by decide +kernel, by decide +kernel⟩, TT_2 (TT_t2 (List.mem_of_getElem? (i := 192) (by decide +kernel)) (by decide +kernel)) (TT_2 (TT_t2 (List.mem_of_getElem? (i := 193) (by decide +kernel)) (by decide +kernel)) (TT_2 in_X8 (TT_2 (TT_t2 (List.mem_of_getElem? (i := 194) (by decide +kernel)) (by decide +kernel)) TT_0)))⟩
abbrev i_X8_odds : Ym := (yX8_odds, cX8_odds, 6, (some .int), 6)
theorem j_X8_odds : JV i_X8_odds 3 := ⟨⟨by decide +kernel, by decide +kernel, by decide +kernel⟩, TT_2 (TT_t2 (List.mem_of_getElem? (i := 209) (by decide +kernel)) (by decide +kernel)) (TT_2 (TT_t2 (List.mem_of_getElem? (i := 210) (by decide +kernel)) (by decide +kernel)) (TT_2 in_X8 (TT_2 (TT_t2 (List.mem_of_getElem? (i := 211) (by decide +kernel)) (by decide +kernel)) TT_0)))⟩
abbrev i_X8_mid : Ym := (yX8_mid, cX8_mid, 5, (some .int), 5)
theorem j_X8_mid : JV i_X8_mid 2 := ⟨⟨by decide +kernel, by decide +kernel, by decide +kernel⟩, TT_2 (TT_t2 (List.mem_of_getElem? (i := 229) (by decide +kernel)) (by decide +kernel)) (TT_2 (TT_t2 (List.mem_of_getElem? (i := 230) (by decide +kernel)) (by decide +kernel)) (TT_2 in_X8 (TT_2 (TT_t2 (List.mem_of_getElem? (i := 231) (by decide +kernel)) (by decide +kernel)) TT_0)))⟩
abbrev i_X8_lots : Ym := (yX8_lots, cX8_lots, 6, (some .int), 4)
theorem j_X8_lots : JV i_X8_lots 2 := ⟨⟨by decide +kernel, by decide +kernel, by decide +kernel⟩, TT_2 (TT_t2 (List.mem_of_getElem? (i := 234) (by decide +kernel)) (by decide +kernel)) (TT_2 (TT_t2 (List.mem_of_getElem? (i := 235) (by decide +kernel)) (by decide +kernel)) (TT_2 in_X8 (TT_2 (TT_t2 (List.mem_of_getElem? (i := 236) (by decide +kernel)) (by decide +kernel)) TT_0)))⟩
abbrev i_X8_asked : Ym := (yX8_asked, cX8_asked, 1, (some .int), 0)
theorem j_X8_asked : JV i_X8_asked 0 := ⟨⟨by decide +kernel, by decide +kernel, by decide +kernel⟩, TT_2 (TT_t3 (List.mem_of_getElem? (i := 13) (by decide +kernel)) (by decide +kernel)) (TT_2 (TT_t3 (List.mem_of_getElem? (i := 14) (by decide +kernel)) (by decide +kernel)) (TT_2 in_X8 (TT_2 (TT_t3 (List.mem_of_getElem? (i := 15) (by decide +kernel)) (by decide +kernel)) TT_0)))⟩
abbrev i_X8_upper : Ym := (yX8_upper, cX8_upper, 1, (some .long), 0)
theorem j_X8_upper : JV i_X8_upper 0 := ⟨⟨by decide +kernel, by decide +kernel, by decide +kernel⟩, TT_2 (TT_t3 (List.mem_of_getElem? (i := 17) (by decide +kernel)) (by decide +kernel)) (TT_2 (TT_t3 (List.mem_of_getElem? (i := 18) (by decide +kernel)) (by decide +kernel)) (TT_2 in_X8 (TT_2 (TT_t3 (List.mem_of_getElem? (i := 19) (by decide +kernel)) (by decide +kernel)) TT_0)))⟩
abbrev i_X8_lower : Ym := (yX8_lower, cX8_lower, 1, (some .long), 0)
theorem j_X8_lower : JV i_X8_lower 0 := ⟨⟨by decide +kernel, by decide +kernel, by decide +kernel⟩, TT_2 (TT_t3 (List.mem_of_getElem? (i := 21) (by decide +kernel)) (by decide +kernel)) (TT_2 (TT_t3 (List.mem_of_getElem? (i := 22) (by decide +kernel)) (by decide +kernel)) (TT_2 in_X8 (TT_2 (TT_t3 (List.mem_of_getElem? (i := 23) (by decide +kernel)) (by decide +kernel)) TT_0)))⟩
abbrev i_X8_count : Ym := (yX8_count, cX8_count, 2, (some .int), 4)
theorem j_X8_count : JV i_X8_count 1 := ⟨⟨by decide +kernel, by decide +kernel, by decide +kernel⟩, TT_2 (TT_t3 (List.mem_of_getElem? (i := 25) (by decide +kernel)) (by decide +kernel)) (TT_2 (TT_t3 (List.mem_of_getElem? (i := 26) (by decide +kernel)) (by decide +kernel)) (TT_2 in_X8 (TT_2 (TT_t3 (List.mem_of_getElem? (i := 27) (by decide +kernel)) (by decide +kernel)) TT_0)))⟩
abbrev i_X8_finding : Ym := (yX8_finding, cX8_finding, 1, (some .int), 0)
theorem j_X8_finding : JV i_X8_finding 0 := ⟨⟨by decide +kernel, by decide +kernel, by decide +kernel⟩, TT_2 (TT_t3 (List.mem_of_getElem? (i := 40) (by decide +kernel)) (by decide +kernel)) (TT_2 (TT_t3 (List.mem_of_getElem? (i := 41) (by decide +kernel)) (by decide +kernel)) (TT_2 in_X8 (TT_2 (TT_t3 (List.mem_of_getElem? (i := 42) (by decide +kernel)) (by decide +kernel)) TT_0)))⟩
abbrev i_X8_findings : Ym := (yX8_findings, cX8_findings, 2, (some .int), 0)
theorem j_X8_findings : JV i_X8_findings 1 := ⟨⟨by decide +kernel, by decide +kernel, by decide +kernel⟩, TT_2 (TT_t3 (List.mem_of_getElem? (i := 44) (by decide +kernel)) (by decide +kernel)) (TT_2 (TT_t3 (List.mem_of_getElem? (i := 45) (by decide +kernel)) (by decide +kernel)) (TT_2 in_X8 (TT_2 (TT_t3 (List.mem_of_getElem? (i := 46) (by decide +kernel)) (by decide +kernel)) TT_0)))⟩
abbrev i_X8_digest : Ym := (yX8_digest, cX8_digest, 5, (some .long), 5)
theorem j_X8_digest : JV i_X8_digest 0 := ⟨⟨by decide +kernel, by decide +kernel, by decide +kernel⟩, TT_2 (TT_t3 (List.mem_of_getElem? (i := 48) (by decide +kernel)) (by decide +kernel)) (TT_2 (TT_t3 (List.mem_of_getElem? (i := 49) (by decide +kernel)) (by decide +kernel)) (TT_2 in_X8 (TT_2 (TT_t3 (List.mem_of_getElem? (i := 50) (by decide +kernel)) (by decide +kernel)) TT_0)))⟩
abbrev i_X8_isPlace : Ym := (yX8_isPlace, cX8_isPlace, 1, (some .boolean), 0)
theorem j_X8_isPlace : JS i_X8_isPlace 1 := ⟨⟨by decide +kernel, by decide +kernel, by decide +kernel⟩, TT_2 (TT_t1 (List.mem_of_getElem? (i := 163) (by decide +kernel)) (by decide +kernel)) (TT_2 in_X8 (TT_2 (TT_t1 (List.mem_of_getElem? (i := 164) (by decide +kernel)) (by decide +kernel)) TT_0))⟩
abbrev i_X8_isPerson : Ym := (yX8_isPerson, cX8_isPerson, 1, (some .boolean), 0)
theorem j_X8_isPerson : JS i_X8_isPerson 1 := ⟨⟨by decide +kernel, by decide +kernel, by decide +kernel⟩, TT_2 (TT_t2 (List.mem_of_getElem? (i := 23) (by decide +kernel)) (by decide +kernel)) (TT_2 in_X8 (TT_2 (TT_t2 (List.mem_of_getElem? (i := 24) (by decide +kernel)) (by decide +kernel)) TT_0))⟩
abbrev i_X8_isStretch : Ym := (yX8_isStretch, cX8_isStretch, 2, (some .boolean), 1)
theorem j_X8_isStretch : JS i_X8_isStretch 2 := ⟨⟨by decide +kernel, by decide +kernel, by decide +kernel⟩, TT_2 (TT_t1 (List.mem_of_getElem? (i := 219) (by decide +kernel)) (by decide +kernel)) (TT_2 in_X8 (TT_2 (TT_t1 (List.mem_of_getElem? (i := 220) (by decide +kernel)) (by decide +kernel)) TT_0))⟩
abbrev i_X8_rowOf : Ym := (yX8_rowOf, cX8_rowOf, 2, (some (.object "GlowDebts$Strip")), 0)
theorem j_X8_rowOf : JV i_X8_rowOf 1 := ⟨⟨by decide +kernel, by decide +kernel, by decide +kernel⟩, TT_2 (TT_t0 (List.mem_of_getElem? (i := 141) (by decide +kernel)) (by decide +kernel)) (TT_2 (TT_pv (List.mem_of_getElem? (i := 0) (by decide +kernel)) (by decide +kernel)) (TT_2 in_X8 (TT_2 (TT_t0 (List.mem_of_getElem? (i := 142) (by decide +kernel)) (by decide +kernel)) TT_0)))⟩
abbrev i_X8_textOf : Ym := (yX8_textOf, cX8_textOf, 2, (some (.object "GlowDebts$Strip")), 0)
theorem j_X8_textOf : JV i_X8_textOf 1 := ⟨⟨by decide +kernel, by decide +kernel, by decide +kernel⟩, TT_2 (TT_t0 (List.mem_of_getElem? (i := 237) (by decide +kernel)) (by decide +kernel)) (TT_2 (TT_pv (List.mem_of_getElem? (i := 5) (by decide +kernel)) (by decide +kernel)) (TT_2 in_X8 (TT_2 (TT_t0 (List.mem_of_getElem? (i := 238) (by decide +kernel)) (by decide +kernel)) TT_0)))⟩
abbrev i_X8_keepOf : Ym := (yX8_keepOf, cX8_keepOf, 2, (some (.object "GlowDebts$Bank")), 0)
theorem j_X8_keepOf : JV i_X8_keepOf 1 := ⟨⟨by decide +kernel, by decide +kernel, by decide +kernel⟩, TT_2 (TT_t1 (List.mem_of_getElem? (i := 43) (by decide +kernel)) (by decide +kernel)) (TT_2 (TT_pv (List.mem_of_getElem? (i := 6) (by decide +kernel)) (by decide +kernel)) (TT_2 in_X8 (TT_2 (TT_t1 (List.mem_of_getElem? (i := 44) (by decide +kernel)) (by decide +kernel)) TT_0)))⟩
abbrev i_X8_refuse : Ym := (yX8_refuse, cX8_refuse, 2, (some .int), 0)
theorem j_X8_refuse : JV i_X8_refuse 1 := ⟨⟨by decide +kernel, by decide +kernel, by decide +kernel⟩, TT_2 (TT_t0 (List.mem_of_getElem? (i := 153) (by decide +kernel)) (by decide +kernel)) (TT_2 (TT_pv (List.mem_of_getElem? (i := 2) (by decide +kernel)) (by decide +kernel)) (TT_2 in_X8 (TT_2 (TT_t0 (List.mem_of_getElem? (i := 154) (by decide +kernel)) (by decide +kernel)) TT_0)))⟩
abbrev i_X8_refusedMissing : Ym := (yX8_refusedMissing, cX8_refusedMissing, 2, (some .int), 1)
theorem j_X8_refusedMissing : JV i_X8_refusedMissing 1 := ⟨⟨by decide +kernel, by decide +kernel, by decide +kernel⟩, TT_2 (TT_t0 (List.mem_of_getElem? (i := 172) (by decide +kernel)) (by decide +kernel)) (TT_2 (TT_pv (List.mem_of_getElem? (i := 4) (by decide +kernel)) (by decide +kernel)) (TT_2 in_X8 (TT_2 (TT_t0 (List.mem_of_getElem? (i := 173) (by decide +kernel)) (by decide +kernel)) TT_0)))⟩
abbrev i_X8_refusedAt : Ym := (yX8_refusedAt, cX8_refusedAt, 4, (some .int), 2)
theorem j_X8_refusedAt : JV i_X8_refusedAt 2 := ⟨⟨by decide +kernel, by decide +kernel, by decide +kernel⟩, TT_2 (TT_t0 (List.mem_of_getElem? (i := 168) (by decide +kernel)) (by decide +kernel)) (TT_2 (TT_pv (List.mem_of_getElem? (i := 3) (by decide +kernel)) (by decide +kernel)) (TT_2 in_X8 (TT_2 (TT_t0 (List.mem_of_getElem? (i := 169) (by decide +kernel)) (by decide +kernel)) TT_0)))⟩
abbrev i_X8_refusedLooks : Ym := (yX8_refusedLooks, cX8_refusedLooks, 3, (some .int), 3)
theorem j_X8_refusedLooks : JV i_X8_refusedLooks 2 := ⟨⟨by decide +kernel, by decide +kernel, by decide +kernel⟩, TT_2 (TT_t2 (List.mem_of_getElem? (i := 138) (by decide +kernel)) (by decide +kernel)) (TT_2 (TT_pv (List.mem_of_getElem? (i := 14) (by decide +kernel)) (by decide +kernel)) (TT_2 in_X8 (TT_2 (TT_t2 (List.mem_of_getElem? (i := 139) (by decide +kernel)) (by decide +kernel)) TT_0)))⟩
abbrev i_X8_makeAnew : Ym := (yX8_makeAnew, cX8_makeAnew, 4, (some .int), 2)
theorem j_X8_makeAnew : JV i_X8_makeAnew 3 := ⟨⟨by decide +kernel, by decide +kernel, by decide +kernel⟩, TT_2 (TT_t0 (List.mem_of_getElem? (i := 145) (by decide +kernel)) (by decide +kernel)) (TT_2 (TT_pv (List.mem_of_getElem? (i := 1) (by decide +kernel)) (by decide +kernel)) (TT_2 in_X8 (TT_2 (TT_t0 (List.mem_of_getElem? (i := 146) (by decide +kernel)) (by decide +kernel)) TT_0)))⟩
abbrev i_X8_tellInLowestTerms : Ym := (yX8_tellInLowestTerms, cX8_tellInLowestTerms, 7, none, 1)
theorem j_X8_tellInLowestTerms : JV i_X8_tellInLowestTerms 2 := ⟨⟨by decide +kernel, by decide +kernel, by decide +kernel⟩, TT_2 (TT_t2 (List.mem_of_getElem? (i := 223) (by decide +kernel)) (by decide +kernel)) (TT_2 (TT_pv (List.mem_of_getElem? (i := 17) (by decide +kernel)) (by decide +kernel)) (TT_2 in_X8 (TT_2 (TT_t2 (List.mem_of_getElem? (i := 224) (by decide +kernel)) (by decide +kernel)) TT_0)))⟩
abbrev i_X8_greatestDivisor : Ym := (yX8_greatestDivisor, cX8_greatestDivisor, 11, (some .long), 0)
theorem j_X8_greatestDivisor : JS i_X8_greatestDivisor 2 := ⟨⟨by decide +kernel, by decide +kernel, by decide +kernel⟩, TT_2 (TT_t2 (List.mem_of_getElem? (i := 226) (by decide +kernel)) (by decide +kernel)) (TT_2 in_X8 (TT_2 (TT_t2 (List.mem_of_getElem? (i := 227) (by decide +kernel)) (by decide +kernel)) TT_0))⟩
abbrev i_X8_howManyThere : Ym := (yX8_howManyThere, cX8_howManyThere, 6, (some .int), 1)
theorem j_X8_howManyThere : JS i_X8_howManyThere 1 := ⟨⟨by decide +kernel, by decide +kernel, by decide +kernel⟩, TT_2 (TT_t3 (List.mem_of_getElem? (i := 33) (by decide +kernel)) (by decide +kernel)) (TT_2 in_X8 (TT_2 (TT_t3 (List.mem_of_getElem? (i := 34) (by decide +kernel)) (by decide +kernel)) TT_0))⟩
abbrev i_X8_howManyKept : Ym := (yX8_howManyKept, cX8_howManyKept, 6, (some .int), 1)
theorem j_X8_howManyKept : JV i_X8_howManyKept 0 := ⟨⟨by decide +kernel, by decide +kernel, by decide +kernel⟩, TT_2 (TT_t3 (List.mem_of_getElem? (i := 37) (by decide +kernel)) (by decide +kernel)) (TT_2 (TT_pv (List.mem_of_getElem? (i := 18) (by decide +kernel)) (by decide +kernel)) (TT_2 in_X8 (TT_2 (TT_t3 (List.mem_of_getElem? (i := 38) (by decide +kernel)) (by decide +kernel)) TT_0)))⟩
abbrev i_X8_digestOf : Ym := (yX8_digestOf, cX8_digestOf, 10, (some .long), 2)
theorem j_X8_digestOf : JS i_X8_digestOf 2 := ⟨⟨by decide +kernel, by decide +kernel, by decide +kernel⟩, TT_2 (TT_t3 (List.mem_of_getElem? (i := 55) (by decide +kernel)) (by decide +kernel)) (TT_2 in_X8 (TT_2 (TT_t3 (List.mem_of_getElem? (i := 56) (by decide +kernel)) (by decide +kernel)) TT_0))⟩
abbrev i_X9_in : Ym := (yX9_in, cX9_in, 6, (some .boolean), 0)
theorem j_X9_in : JS i_X9_in 3 := ⟨⟨by decide +kernel, by decide +kernel, by decide +kernel⟩, TT_2 (TT_t3 (List.mem_of_getElem? (i := 142) (by decide +kernel)) (by decide +kernel)) (TT_2 in_X9 (TT_2 (TT_t3 (List.mem_of_getElem? (i := 143) (by decide +kernel)) (by decide +kernel)) TT_0))⟩
abbrev i_X9_has : Ym := (yX9_has, cX9_has, 2, (some .boolean), 0)
theorem j_X9_has : JS i_X9_has 2 := ⟨⟨by decide +kernel, by decide +kernel, by decide +kernel⟩, TT_2 (TT_t4 (List.mem_of_getElem? (i := 22) (by decide +kernel)) (by decide +kernel)) (TT_2 in_X9 (TT_2 (TT_t4 (List.mem_of_getElem? (i := 23) (by decide +kernel)) (by decide +kernel)) TT_0))⟩
abbrev i_X9_ones : Ym := (yX9_ones, cX9_ones, 3, (some .int), 0)
theorem j_X9_ones : JS i_X9_ones 1 := ⟨⟨by decide +kernel, by decide +kernel, by decide +kernel⟩, TT_2 (TT_t4 (List.mem_of_getElem? (i := 132) (by decide +kernel)) (by decide +kernel)) (TT_2 in_X9 (TT_2 (TT_t4 (List.mem_of_getElem? (i := 133) (by decide +kernel)) (by decide +kernel)) TT_0))⟩
abbrev i_X9_finds : Ym := (yX9_finds, cX9_finds, 2, (some .int), 0)
theorem j_X9_finds : JV i_X9_finds 1 := ⟨⟨by decide +kernel, by decide +kernel, by decide +kernel⟩, TT_2 (TT_t3 (List.mem_of_getElem? (i := 146) (by decide +kernel)) (by decide +kernel)) (TT_2 (TT_pv (List.mem_of_getElem? (i := 19) (by decide +kernel)) (by decide +kernel)) (TT_2 in_X9 (TT_2 (TT_t3 (List.mem_of_getElem? (i := 147) (by decide +kernel)) (by decide +kernel)) TT_0)))⟩
abbrev i_X9_tells : Ym := (yX9_tells, cX9_tells, 2, (some .int), 0)
theorem j_X9_tells : JV i_X9_tells 1 := ⟨⟨by decide +kernel, by decide +kernel, by decide +kernel⟩, TT_2 (TT_t3 (List.mem_of_getElem? (i := 154) (by decide +kernel)) (by decide +kernel)) (TT_2 (TT_pv (List.mem_of_getElem? (i := 20) (by decide +kernel)) (by decide +kernel)) (TT_2 in_X9 (TT_2 (TT_t3 (List.mem_of_getElem? (i := 155) (by decide +kernel)) (by decide +kernel)) TT_0)))⟩
abbrev i_X9_bring : Ym := (yX9_bring, cX9_bring, 4, none, 0)
theorem j_X9_bring : JV i_X9_bring 2 := ⟨⟨by decide +kernel, by decide +kernel, by decide +kernel⟩, TT_2 (TT_t4 (List.mem_of_getElem? (i := 55) (by decide +kernel)) (by decide +kernel)) (TT_2 (TT_pv (List.mem_of_getElem? (i := 31) (by decide +kernel)) (by decide +kernel)) (TT_2 in_X9 (TT_2 (TT_t4 (List.mem_of_getElem? (i := 56) (by decide +kernel)) (by decide +kernel)) TT_0)))⟩
abbrev i_X9_isRow : Ym := (yX9_isRow, cX9_isRow, 1, (some .boolean), 1)
theorem j_X9_isRow : JS i_X9_isRow 1 := ⟨⟨by decide +kernel, by decide +kernel, by decide +kernel⟩, TT_2 (TT_t3 (List.mem_of_getElem? (i := 138) (by decide +kernel)) (by decide +kernel)) (TT_2 in_X9 (TT_2 (TT_t3 (List.mem_of_getElem? (i := 139) (by decide +kernel)) (by decide +kernel)) TT_0))⟩
abbrev i_X9_isText : Ym := (yX9_isText, cX9_isText, 1, (some .boolean), 1)
theorem j_X9_isText : JS i_X9_isText 1 := ⟨⟨by decide +kernel, by decide +kernel, by decide +kernel⟩, TT_2 (TT_t3 (List.mem_of_getElem? (i := 177) (by decide +kernel)) (by decide +kernel)) (TT_2 in_X9 (TT_2 (TT_t3 (List.mem_of_getElem? (i := 178) (by decide +kernel)) (by decide +kernel)) TT_0))⟩
abbrev i_X9_isLight : Ym := (yX9_isLight, cX9_isLight, 2, (some .boolean), 1)
theorem j_X9_isLight : JV i_X9_isLight 1 := ⟨⟨by decide +kernel, by decide +kernel, by decide +kernel⟩, TT_2 (TT_t3 (List.mem_of_getElem? (i := 217) (by decide +kernel)) (by decide +kernel)) (TT_2 (TT_pv (List.mem_of_getElem? (i := 25) (by decide +kernel)) (by decide +kernel)) (TT_2 in_X9 (TT_2 (TT_t3 (List.mem_of_getElem? (i := 218) (by decide +kernel)) (by decide +kernel)) TT_0)))⟩
abbrev i_X9_isPlace : Ym := (yX9_isPlace, cX9_isPlace, 1, (some .boolean), 1)
theorem j_X9_isPlace : JS i_X9_isPlace 1 := ⟨⟨by decide +kernel, by decide +kernel, by decide +kernel⟩, TT_2 (TT_t4 (List.mem_of_getElem? (i := 41) (by decide +kernel)) (by decide +kernel)) (TT_2 in_X9 (TT_2 (TT_t4 (List.mem_of_getElem? (i := 42) (by decide +kernel)) (by decide +kernel)) TT_0))⟩
abbrev i_X9_row : Ym := (yX9_row, cX9_row, 4, (some .int), 2)
theorem j_X9_row : JV i_X9_row 2 := ⟨⟨by decide +kernel, by decide +kernel, by decide +kernel⟩, TT_2 (TT_t3 (List.mem_of_getElem? (i := 134) (by decide +kernel)) (by decide +kernel)) (TT_2 (TT_t3 (List.mem_of_getElem? (i := 135) (by decide +kernel)) (by decide +kernel)) (TT_2 in_X9 (TT_2 (TT_t3 (List.mem_of_getElem? (i := 136) (by decide +kernel)) (by decide +kernel)) TT_0)))⟩
abbrev i_X9_lay : Ym := (yX9_lay, cX9_lay, 5, (some .int), 2)
theorem j_X9_lay : JV i_X9_lay 3 := ⟨⟨by decide +kernel, by decide +kernel, by decide +kernel⟩, TT_2 (TT_t3 (List.mem_of_getElem? (i := 149) (by decide +kernel)) (by decide +kernel)) (TT_2 (TT_t3 (List.mem_of_getElem? (i := 150) (by decide +kernel)) (by decide +kernel)) (TT_2 in_X9 (TT_2 (TT_t3 (List.mem_of_getElem? (i := 151) (by decide +kernel)) (by decide +kernel)) TT_0)))⟩
abbrev i_X9_at : Ym := (yX9_at, cX9_at, 3, (some .int), 2)
theorem j_X9_at : JV i_X9_at 2 := ⟨⟨by decide +kernel, by decide +kernel, by decide +kernel⟩, TT_2 (TT_t3 (List.mem_of_getElem? (i := 157) (by decide +kernel)) (by decide +kernel)) (TT_2 (TT_t3 (List.mem_of_getElem? (i := 158) (by decide +kernel)) (by decide +kernel)) (TT_2 in_X9 (TT_2 (TT_t3 (List.mem_of_getElem? (i := 159) (by decide +kernel)) (by decide +kernel)) TT_0)))⟩
abbrev i_X9_tear : Ym := (yX9_tear, cX9_tear, 2, (some .int), 2)
theorem j_X9_tear : JV i_X9_tear 1 := ⟨⟨by decide +kernel, by decide +kernel, by decide +kernel⟩, TT_2 (TT_t3 (List.mem_of_getElem? (i := 161) (by decide +kernel)) (by decide +kernel)) (TT_2 (TT_t3 (List.mem_of_getElem? (i := 162) (by decide +kernel)) (by decide +kernel)) (TT_2 in_X9 (TT_2 (TT_t3 (List.mem_of_getElem? (i := 163) (by decide +kernel)) (by decide +kernel)) TT_0)))⟩
abbrev i_X9_copy : Ym := (yX9_copy, cX9_copy, 7, (some .int), 2)
theorem j_X9_copy : JV i_X9_copy 5 := ⟨⟨by decide +kernel, by decide +kernel, by decide +kernel⟩, TT_2 (TT_t3 (List.mem_of_getElem? (i := 165) (by decide +kernel)) (by decide +kernel)) (TT_2 (TT_t3 (List.mem_of_getElem? (i := 166) (by decide +kernel)) (by decide +kernel)) (TT_2 in_X9 (TT_2 (TT_t3 (List.mem_of_getElem? (i := 167) (by decide +kernel)) (by decide +kernel)) TT_0)))⟩
abbrev i_X9_mean : Ym := (yX9_mean, cX9_mean, 5, (some .int), 2)
theorem j_X9_mean : JV i_X9_mean 1 := ⟨⟨by decide +kernel, by decide +kernel, by decide +kernel⟩, TT_2 (TT_t3 (List.mem_of_getElem? (i := 169) (by decide +kernel)) (by decide +kernel)) (TT_2 (TT_t3 (List.mem_of_getElem? (i := 170) (by decide +kernel)) (by decide +kernel)) (TT_2 in_X9 (TT_2 (TT_t3 (List.mem_of_getElem? (i := 171) (by decide +kernel)) (by decide +kernel)) TT_0)))⟩
abbrev i_X9_text : Ym := (yX9_text, cX9_text, 4, (some .int), 2)
theorem j_X9_text : JV i_X9_text 2 := ⟨⟨by decide +kernel, by decide +kernel, by decide +kernel⟩, TT_2 (TT_t3 (List.mem_of_getElem? (i := 173) (by decide +kernel)) (by decide +kernel)) (TT_2 (TT_t3 (List.mem_of_getElem? (i := 174) (by decide +kernel)) (by decide +kernel)) (TT_2 in_X9 (TT_2 (TT_t3 (List.mem_of_getElem? (i := 175) (by decide +kernel)) (by decide +kernel)) TT_0)))⟩
abbrev i_X9_put : Ym := (yX9_put, cX9_put, 5, (some .int), 2)
theorem j_X9_put : JV i_X9_put 3 := ⟨⟨by decide +kernel, by decide +kernel, by decide +kernel⟩, TT_2 (TT_t3 (List.mem_of_getElem? (i := 181) (by decide +kernel)) (by decide +kernel)) (TT_2 (TT_t3 (List.mem_of_getElem? (i := 182) (by decide +kernel)) (by decide +kernel)) (TT_2 in_X9 (TT_2 (TT_t3 (List.mem_of_getElem? (i := 183) (by decide +kernel)) (by decide +kernel)) TT_0)))⟩
abbrev i_X9_here : Ym := (yX9_here, cX9_here, 1, (some .int), 0)
theorem j_X9_here : JV i_X9_here 0 := ⟨⟨by decide +kernel, by decide +kernel, by decide +kernel⟩, TT_2 (TT_t3 (List.mem_of_getElem? (i := 194) (by decide +kernel)) (by decide +kernel)) (TT_2 (TT_pv (List.mem_of_getElem? (i := 22) (by decide +kernel)) (by decide +kernel)) (TT_2 in_X9 (TT_2 (TT_t3 (List.mem_of_getElem? (i := 195) (by decide +kernel)) (by decide +kernel)) TT_0)))⟩
abbrev i_X9_kindOf : Ym := (yX9_kindOf, cX9_kindOf, 1, (some .int), 0)
theorem j_X9_kindOf : JS i_X9_kindOf 1 := ⟨⟨by decide +kernel, by decide +kernel, by decide +kernel⟩, TT_2 (TT_t3 (List.mem_of_getElem? (i := 201) (by decide +kernel)) (by decide +kernel)) (TT_2 in_X9 (TT_2 (TT_t3 (List.mem_of_getElem? (i := 202) (by decide +kernel)) (by decide +kernel)) TT_0))⟩
abbrev i_X9_takes : Ym := (yX9_takes, cX9_takes, 4, (some .boolean), 1)
theorem j_X9_takes : JV i_X9_takes 2 := ⟨⟨by decide +kernel, by decide +kernel, by decide +kernel⟩, TT_2 (TT_t3 (List.mem_of_getElem? (i := 205) (by decide +kernel)) (by decide +kernel)) (TT_2 (TT_pv (List.mem_of_getElem? (i := 24) (by decide +kernel)) (by decide +kernel)) (TT_2 in_X9 (TT_2 (TT_t3 (List.mem_of_getElem? (i := 206) (by decide +kernel)) (by decide +kernel)) TT_0)))⟩
abbrev i_X9_takesLight : Ym := (yX9_takesLight, cX9_takesLight, 4, (some .boolean), 2)
theorem j_X9_takesLight : JV i_X9_takesLight 0 := ⟨⟨by decide +kernel, by decide +kernel, by decide +kernel⟩, TT_2 (TT_t3 (List.mem_of_getElem? (i := 198) (by decide +kernel)) (by decide +kernel)) (TT_2 (TT_pv (List.mem_of_getElem? (i := 23) (by decide +kernel)) (by decide +kernel)) (TT_2 in_X9 (TT_2 (TT_t3 (List.mem_of_getElem? (i := 199) (by decide +kernel)) (by decide +kernel)) TT_0)))⟩
abbrev i_X9_faultOf : Ym := (yX9_faultOf, cX9_faultOf, 3, (some .int), 3)
theorem j_X9_faultOf : JV i_X9_faultOf 1 := ⟨⟨by decide +kernel, by decide +kernel, by decide +kernel⟩, TT_2 (TT_t3 (List.mem_of_getElem? (i := 190) (by decide +kernel)) (by decide +kernel)) (TT_2 (TT_pv (List.mem_of_getElem? (i := 21) (by decide +kernel)) (by decide +kernel)) (TT_2 in_X9 (TT_2 (TT_t3 (List.mem_of_getElem? (i := 191) (by decide +kernel)) (by decide +kernel)) TT_0)))⟩
abbrev i_X9_fault : Ym := (yX9_fault, cX9_fault, 2, (some .int), 4)
theorem j_X9_fault : JV i_X9_fault 1 := ⟨⟨by decide +kernel, by decide +kernel, by decide +kernel⟩, TT_2 (TT_t3 (List.mem_of_getElem? (i := 185) (by decide +kernel)) (by decide +kernel)) (TT_2 (TT_t3 (List.mem_of_getElem? (i := 186) (by decide +kernel)) (by decide +kernel)) (TT_2 in_X9 (TT_2 (TT_t3 (List.mem_of_getElem? (i := 187) (by decide +kernel)) (by decide +kernel)) TT_0)))⟩
abbrev i_X9_bank : Ym := (yX9_bank, cX9_bank, 3, (some .int), 4)
theorem j_X9_bank : JV i_X9_bank 1 := ⟨⟨by decide +kernel, by decide +kernel, by decide +kernel⟩, TT_2 (TT_t3 (List.mem_of_getElem? (i := 208) (by decide +kernel)) (by decide +kernel)) (TT_2 (TT_t3 (List.mem_of_getElem? (i := 209) (by decide +kernel)) (by decide +kernel)) (TT_2 in_X9 (TT_2 (TT_t3 (List.mem_of_getElem? (i := 210) (by decide +kernel)) (by decide +kernel)) TT_0)))⟩
abbrev i_X9_dew : Ym := (yX9_dew, cX9_dew, 2, (some .int), 0)
theorem j_X9_dew : JS i_X9_dew 2 := ⟨⟨by decide +kernel, by decide +kernel, by decide +kernel⟩, TT_2 (TT_t3 (List.mem_of_getElem? (i := 232) (by decide +kernel)) (by decide +kernel)) (TT_2 in_X9 (TT_2 (TT_t3 (List.mem_of_getElem? (i := 233) (by decide +kernel)) (by decide +kernel)) TT_0))⟩
abbrev i_X9_forged : Ym := (yX9_forged, cX9_forged, 2, (some .int), 0)
theorem j_X9_forged : JS i_X9_forged 2 := ⟨⟨by decide +kernel, by decide +kernel, by decide +kernel⟩, TT_2 (TT_t3 (List.mem_of_getElem? (i := 235) (by decide +kernel)) (by decide +kernel)) (TT_2 in_X9 (TT_2 (TT_t3 (List.mem_of_getElem? (i := 236) (by decide +kernel)) (by decide +kernel)) TT_0))⟩
abbrev i_X9_glowBy : Ym := (yX9_glowBy, cX9_glowBy, 3, (some .int), 1)
theorem j_X9_glowBy : JS i_X9_glowBy 3 := ⟨⟨by decide +kernel, by decide +kernel, by decide +kernel⟩, TT_2 (TT_t3 (List.mem_of_getElem? (i := 229) (by decide +kernel)) (by decide +kernel)) (TT_2 in_X9 (TT_2 (TT_t3 (List.mem_of_getElem? (i := 230) (by decide +kernel)) (by decide +kernel)) TT_0))⟩
abbrev i_X9_glowOf : Ym := (yX9_glowOf, cX9_glowOf, 3, (some .int), 2)
theorem j_X9_glowOf : JV i_X9_glowOf 2 := ⟨⟨by decide +kernel, by decide +kernel, by decide +kernel⟩, TT_2 (TT_t3 (List.mem_of_getElem? (i := 226) (by decide +kernel)) (by decide +kernel)) (TT_2 (TT_pv (List.mem_of_getElem? (i := 27) (by decide +kernel)) (by decide +kernel)) (TT_2 in_X9 (TT_2 (TT_t3 (List.mem_of_getElem? (i := 227) (by decide +kernel)) (by decide +kernel)) TT_0)))⟩
abbrev i_X9_light : Ym := (yX9_light, cX9_light, 3, (some .int), 4)
theorem j_X9_light : JV i_X9_light 2 := ⟨⟨by decide +kernel, by decide +kernel, by decide +kernel⟩, TT_2 (TT_t3 (List.mem_of_getElem? (i := 212) (by decide +kernel)) (by decide +kernel)) (TT_2 (TT_t3 (List.mem_of_getElem? (i := 213) (by decide +kernel)) (by decide +kernel)) (TT_2 in_X9 (TT_2 (TT_t3 (List.mem_of_getElem? (i := 214) (by decide +kernel)) (by decide +kernel)) TT_0)))⟩
abbrev i_X9_lightOf : Ym := (yX9_lightOf, cX9_lightOf, 3, (some .int), 3)
theorem j_X9_lightOf : JV i_X9_lightOf 2 := ⟨⟨by decide +kernel, by decide +kernel, by decide +kernel⟩, TT_2 (TT_t3 (List.mem_of_getElem? (i := 222) (by decide +kernel)) (by decide +kernel)) (TT_2 (TT_pv (List.mem_of_getElem? (i := 26) (by decide +kernel)) (by decide +kernel)) (TT_2 in_X9 (TT_2 (TT_t3 (List.mem_of_getElem? (i := 223) (by decide +kernel)) (by decide +kernel)) TT_0)))⟩
abbrev i_X9_isA : Ym := (yX9_isA, cX9_isA, 2, (some .boolean), 0)
theorem j_X9_isA : JS i_X9_isA 2 := ⟨⟨by decide +kernel, by decide +kernel, by decide +kernel⟩, TT_2 (TT_t4 (List.mem_of_getElem? (i := 2) (by decide +kernel)) (by decide +kernel)) (TT_2 in_X9 (TT_2 (TT_t4 (List.mem_of_getElem? (i := 3) (by decide +kernel)) (by decide +kernel)) TT_0))⟩
abbrev i_X9_mark : Ym := (yX9_mark, cX9_mark, 5, (some .int), 3)
theorem j_X9_mark : JV i_X9_mark 2 := ⟨⟨by decide +kernel, by decide +kernel, by decide +kernel⟩, TT_2 (TT_t3 (List.mem_of_getElem? (i := 238) (by decide +kernel)) (by decide +kernel)) (TT_2 (TT_t3 (List.mem_of_getElem? (i := 239) (by decide +kernel)) (by decide +kernel)) (TT_2 in_X9 (TT_2 (TT_t4 (List.mem_of_getElem? (i := 0) (by decide +kernel)) (by decide +kernel)) TT_0)))⟩
abbrev i_X9_glows : Ym := (yX9_glows, cX9_glows, 3, (some .int), 3)
theorem j_X9_glows : JV i_X9_glows 2 := ⟨⟨by decide +kernel, by decide +kernel, by decide +kernel⟩, TT_2 (TT_t4 (List.mem_of_getElem? (i := 5) (by decide +kernel)) (by decide +kernel)) (TT_2 (TT_t4 (List.mem_of_getElem? (i := 6) (by decide +kernel)) (by decide +kernel)) (TT_2 in_X9 (TT_2 (TT_t4 (List.mem_of_getElem? (i := 7) (by decide +kernel)) (by decide +kernel)) TT_0)))⟩
abbrev i_X9_minds : Ym := (yX9_minds, cX9_minds, 3, none, 0)
theorem j_X9_minds : JV i_X9_minds 0 := ⟨⟨by decide +kernel, by decide +kernel, by decide +kernel⟩, TT_2 (TT_t4 (List.mem_of_getElem? (i := 15) (by decide +kernel)) (by decide +kernel)) (TT_2 (TT_pv (List.mem_of_getElem? (i := 28) (by decide +kernel)) (by decide +kernel)) (TT_2 in_X9 (TT_2 (TT_t4 (List.mem_of_getElem? (i := 16) (by decide +kernel)) (by decide +kernel)) TT_0)))⟩
abbrev i_X9_glowAll : Ym := (yX9_glowAll, cX9_glowAll, 3, (some .int), 3)
theorem j_X9_glowAll : JV i_X9_glowAll 0 := ⟨⟨by decide +kernel, by decide +kernel, by decide +kernel⟩, TT_2 (TT_t4 (List.mem_of_getElem? (i := 19) (by decide +kernel)) (by decide +kernel)) (TT_2 (TT_pv (List.mem_of_getElem? (i := 29) (by decide +kernel)) (by decide +kernel)) (TT_2 in_X9 (TT_2 (TT_t4 (List.mem_of_getElem? (i := 20) (by decide +kernel)) (by decide +kernel)) TT_0)))⟩
abbrev i_X9_night : Ym := (yX9_night, cX9_night, 1, (some .int), 4)
theorem j_X9_night : JV i_X9_night 0 := ⟨⟨by decide +kernel, by decide +kernel, by decide +kernel⟩, TT_2 (TT_t4 (List.mem_of_getElem? (i := 10) (by decide +kernel)) (by decide +kernel)) (TT_2 (TT_t4 (List.mem_of_getElem? (i := 11) (by decide +kernel)) (by decide +kernel)) (TT_2 in_X9 (TT_2 (TT_t4 (List.mem_of_getElem? (i := 12) (by decide +kernel)) (by decide +kernel)) TT_0)))⟩
abbrev i_X9_lights : Ym := (yX9_lights, cX9_lights, 3, (some .int), 3)
theorem j_X9_lights : JV i_X9_lights 2 := ⟨⟨by decide +kernel, by decide +kernel, by decide +kernel⟩, TT_2 (TT_t4 (List.mem_of_getElem? (i := 30) (by decide +kernel)) (by decide +kernel)) (TT_2 (TT_pv (List.mem_of_getElem? (i := 30) (by decide +kernel)) (by decide +kernel)) (TT_2 in_X9 (TT_2 (TT_t4 (List.mem_of_getElem? (i := 31) (by decide +kernel)) (by decide +kernel)) TT_0)))⟩
abbrev i_X9_answer : Ym := (yX9_answer, cX9_answer, 2, (some .int), 4)
theorem j_X9_answer : JV i_X9_answer 1 := ⟨⟨by decide +kernel, by decide +kernel, by decide +kernel⟩, TT_2 (TT_t4 (List.mem_of_getElem? (i := 25) (by decide +kernel)) (by decide +kernel)) (TT_2 (TT_t4 (List.mem_of_getElem? (i := 26) (by decide +kernel)) (by decide +kernel)) (TT_2 in_X9 (TT_2 (TT_t4 (List.mem_of_getElem? (i := 27) (by decide +kernel)) (by decide +kernel)) TT_0)))⟩
abbrev i_X9_relight : Ym := (yX9_relight, cX9_relight, 2, (some .int), 4)
theorem j_X9_relight : JV i_X9_relight 1 := ⟨⟨by decide +kernel, by decide +kernel, by decide +kernel⟩, TT_2 (TT_t4 (List.mem_of_getElem? (i := 33) (by decide +kernel)) (by decide +kernel)) (TT_2 (TT_t4 (List.mem_of_getElem? (i := 34) (by decide +kernel)) (by decide +kernel)) (TT_2 in_X9 (TT_2 (TT_t4 (List.mem_of_getElem? (i := 35) (by decide +kernel)) (by decide +kernel)) TT_0)))⟩
abbrev i_X9_carry : Ym := (yX9_carry, cX9_carry, 4, (some .int), 2)
theorem j_X9_carry : JV i_X9_carry 2 := ⟨⟨by decide +kernel, by decide +kernel, by decide +kernel⟩, TT_2 (TT_t4 (List.mem_of_getElem? (i := 37) (by decide +kernel)) (by decide +kernel)) (TT_2 (TT_t4 (List.mem_of_getElem? (i := 38) (by decide +kernel)) (by decide +kernel)) (TT_2 in_X9 (TT_2 (TT_t4 (List.mem_of_getElem? (i := 39) (by decide +kernel)) (by decide +kernel)) TT_0)))⟩
abbrev i_X9_undo : Ym := (yX9_undo, cX9_undo, 5, (some .int), 1)
theorem j_X9_undo : JV i_X9_undo 1 := ⟨⟨by decide +kernel, by decide +kernel, by decide +kernel⟩, TT_2 (TT_t4 (List.mem_of_getElem? (i := 45) (by decide +kernel)) (by decide +kernel)) (TT_2 (TT_t4 (List.mem_of_getElem? (i := 46) (by decide +kernel)) (by decide +kernel)) (TT_2 in_X9 (TT_2 (TT_t4 (List.mem_of_getElem? (i := 47) (by decide +kernel)) (by decide +kernel)) TT_0)))⟩
abbrev i_X9_keep : Ym := (yX9_keep, cX9_keep, 2, (some .int), 1)
theorem j_X9_keep : JV i_X9_keep 1 := ⟨⟨by decide +kernel, by decide +kernel, by decide +kernel⟩, TT_2 (TT_t4 (List.mem_of_getElem? (i := 49) (by decide +kernel)) (by decide +kernel)) (TT_2 (TT_t4 (List.mem_of_getElem? (i := 50) (by decide +kernel)) (by decide +kernel)) (TT_2 in_X9 (TT_2 (TT_t4 (List.mem_of_getElem? (i := 51) (by decide +kernel)) (by decide +kernel)) TT_0)))⟩
abbrev i_X9_on : Ym := (yX9_on, cX9_on, 2, (some .int), 1)
theorem j_X9_on : JV i_X9_on 1 := ⟨⟨by decide +kernel, by decide +kernel, by decide +kernel⟩, TT_2 (TT_t4 (List.mem_of_getElem? (i := 58) (by decide +kernel)) (by decide +kernel)) (TT_2 (TT_t4 (List.mem_of_getElem? (i := 59) (by decide +kernel)) (by decide +kernel)) (TT_2 in_X9 (TT_2 (TT_t4 (List.mem_of_getElem? (i := 60) (by decide +kernel)) (by decide +kernel)) TT_0)))⟩
abbrev i_X9_size : Ym := (yX9_size, cX9_size, 1, (some .int), 0)
theorem j_X9_size : JS i_X9_size 1 := ⟨⟨by decide +kernel, by decide +kernel, by decide +kernel⟩, TT_2 (TT_t4 (List.mem_of_getElem? (i := 78) (by decide +kernel)) (by decide +kernel)) (TT_2 in_X9 (TT_2 (TT_t4 (List.mem_of_getElem? (i := 79) (by decide +kernel)) (by decide +kernel)) TT_0))⟩
abbrev i_X9_gives : Ym := (yX9_gives, cX9_gives, 6, (some .int), 3)
theorem j_X9_gives : JV i_X9_gives 4 := ⟨⟨by decide +kernel, by decide +kernel, by decide +kernel⟩, TT_2 (TT_t4 (List.mem_of_getElem? (i := 75) (by decide +kernel)) (by decide +kernel)) (TT_2 (TT_pv (List.mem_of_getElem? (i := 34) (by decide +kernel)) (by decide +kernel)) (TT_2 in_X9 (TT_2 (TT_t4 (List.mem_of_getElem? (i := 76) (by decide +kernel)) (by decide +kernel)) TT_0)))⟩
abbrev i_X9_brightBy : Ym := (yX9_brightBy, cX9_brightBy, 6, (some .int), 4)
theorem j_X9_brightBy : JV i_X9_brightBy 3 := ⟨⟨by decide +kernel, by decide +kernel, by decide +kernel⟩, TT_2 (TT_t4 (List.mem_of_getElem? (i := 71) (by decide +kernel)) (by decide +kernel)) (TT_2 (TT_pv (List.mem_of_getElem? (i := 33) (by decide +kernel)) (by decide +kernel)) (TT_2 in_X9 (TT_2 (TT_t4 (List.mem_of_getElem? (i := 72) (by decide +kernel)) (by decide +kernel)) TT_0)))⟩
abbrev i_X9_brightNow : Ym := (yX9_brightNow, cX9_brightNow, 2, (some .int), 5)
theorem j_X9_brightNow : JV i_X9_brightNow 1 := ⟨⟨by decide +kernel, by decide +kernel, by decide +kernel⟩, TT_2 (TT_t4 (List.mem_of_getElem? (i := 67) (by decide +kernel)) (by decide +kernel)) (TT_2 (TT_pv (List.mem_of_getElem? (i := 32) (by decide +kernel)) (by decide +kernel)) (TT_2 in_X9 (TT_2 (TT_t4 (List.mem_of_getElem? (i := 68) (by decide +kernel)) (by decide +kernel)) TT_0)))⟩
abbrev i_X9_alongNow : Ym := (yX9_alongNow, cX9_alongNow, 5, (some .int), 6)
theorem j_X9_alongNow : JV i_X9_alongNow 2 := ⟨⟨by decide +kernel, by decide +kernel, by decide +kernel⟩, TT_2 (TT_t4 (List.mem_of_getElem? (i := 86) (by decide +kernel)) (by decide +kernel)) (TT_2 (TT_pv (List.mem_of_getElem? (i := 35) (by decide +kernel)) (by decide +kernel)) (TT_2 in_X9 (TT_2 (TT_t4 (List.mem_of_getElem? (i := 87) (by decide +kernel)) (by decide +kernel)) TT_0)))⟩
abbrev i_X9_bright : Ym := (yX9_bright, cX9_bright, 2, (some .int), 6)
theorem j_X9_bright : JV i_X9_bright 1 := ⟨⟨by decide +kernel, by decide +kernel, by decide +kernel⟩, TT_2 (TT_t4 (List.mem_of_getElem? (i := 62) (by decide +kernel)) (by decide +kernel)) (TT_2 (TT_t4 (List.mem_of_getElem? (i := 63) (by decide +kernel)) (by decide +kernel)) (TT_2 in_X9 (TT_2 (TT_t4 (List.mem_of_getElem? (i := 64) (by decide +kernel)) (by decide +kernel)) TT_0)))⟩
abbrev i_X9_along : Ym := (yX9_along, cX9_along, 3, (some .int), 7)
theorem j_X9_along : JV i_X9_along 2 := ⟨⟨by decide +kernel, by decide +kernel, by decide +kernel⟩, TT_2 (TT_t4 (List.mem_of_getElem? (i := 81) (by decide +kernel)) (by decide +kernel)) (TT_2 (TT_t4 (List.mem_of_getElem? (i := 82) (by decide +kernel)) (by decide +kernel)) (TT_2 in_X9 (TT_2 (TT_t4 (List.mem_of_getElem? (i := 83) (by decide +kernel)) (by decide +kernel)) TT_0)))⟩
abbrev i_X9_when : Ym := (yX9_when, cX9_when, 5, (some .int), 5)
theorem j_X9_when : JV i_X9_when 2 := ⟨⟨by decide +kernel, by decide +kernel, by decide +kernel⟩, TT_2 (TT_t4 (List.mem_of_getElem? (i := 89) (by decide +kernel)) (by decide +kernel)) (TT_2 (TT_t4 (List.mem_of_getElem? (i := 90) (by decide +kernel)) (by decide +kernel)) (TT_2 in_X9 (TT_2 (TT_t4 (List.mem_of_getElem? (i := 91) (by decide +kernel)) (by decide +kernel)) TT_0)))⟩
abbrev i_X9_stow : Ym := (yX9_stow, cX9_stow, 9, (some .int), 7)
theorem j_X9_stow : JV i_X9_stow 3 := ⟨⟨by decide +kernel, by decide +kernel, by decide +kernel⟩, TT_2 (TT_t4 (List.mem_of_getElem? (i := 94) (by decide +kernel)) (by decide +kernel)) (TT_2 (TT_t4 (List.mem_of_getElem? (i := 95) (by decide +kernel)) (by decide +kernel)) (TT_2 in_X9 (TT_2 (TT_t4 (List.mem_of_getElem? (i := 96) (by decide +kernel)) (by decide +kernel)) TT_0)))⟩
abbrev i_X9_dark : Ym := (yX9_dark, cX9_dark, 6, (some .int), 7)
theorem j_X9_dark : JV i_X9_dark 1 := ⟨⟨by decide +kernel, by decide +kernel, by decide +kernel⟩, TT_2 (TT_t4 (List.mem_of_getElem? (i := 99) (by decide +kernel)) (by decide +kernel)) (TT_2 (TT_t4 (List.mem_of_getElem? (i := 100) (by decide +kernel)) (by decide +kernel)) (TT_2 in_X9 (TT_2 (TT_t4 (List.mem_of_getElem? (i := 101) (by decide +kernel)) (by decide +kernel)) TT_0)))⟩
abbrev i_X9_road : Ym := (yX9_road, cX9_road, 6, (some .int), 6)
theorem j_X9_road : JV i_X9_road 0 := ⟨⟨by decide +kernel, by decide +kernel, by decide +kernel⟩, TT_2 (TT_t4 (List.mem_of_getElem? (i := 104) (by decide +kernel)) (by decide +kernel)) (TT_2 (TT_t4 (List.mem_of_getElem? (i := 105) (by decide +kernel)) (by decide +kernel)) (TT_2 in_X9 (TT_2 (TT_t4 (List.mem_of_getElem? (i := 106) (by decide +kernel)) (by decide +kernel)) TT_0)))⟩
abbrev i_X9_isForged : Ym := (yX9_isForged, cX9_isForged, 2, (some .boolean), 0)
theorem j_X9_isForged : JV i_X9_isForged 1 := ⟨⟨by decide +kernel, by decide +kernel, by decide +kernel⟩, TT_2 (TT_t4 (List.mem_of_getElem? (i := 117) (by decide +kernel)) (by decide +kernel)) (TT_2 (TT_pv (List.mem_of_getElem? (i := 37) (by decide +kernel)) (by decide +kernel)) (TT_2 in_X9 (TT_2 (TT_t4 (List.mem_of_getElem? (i := 118) (by decide +kernel)) (by decide +kernel)) TT_0)))⟩
abbrev i_X9_debts : Ym := (yX9_debts, cX9_debts, 3, (some .int), 1)
theorem j_X9_debts : JV i_X9_debts 0 := ⟨⟨by decide +kernel, by decide +kernel, by decide +kernel⟩, TT_2 (TT_t4 (List.mem_of_getElem? (i := 113) (by decide +kernel)) (by decide +kernel)) (TT_2 (TT_pv (List.mem_of_getElem? (i := 36) (by decide +kernel)) (by decide +kernel)) (TT_2 in_X9 (TT_2 (TT_t4 (List.mem_of_getElem? (i := 114) (by decide +kernel)) (by decide +kernel)) TT_0)))⟩
abbrev i_X9_owesBy : Ym := (yX9_owesBy, cX9_owesBy, 5, (some .int), 1)
theorem j_X9_owesBy : JV i_X9_owesBy 2 := ⟨⟨by decide +kernel, by decide +kernel, by decide +kernel⟩, TT_2 (TT_t4 (List.mem_of_getElem? (i := 121) (by decide +kernel)) (by decide +kernel)) (TT_2 (TT_pv (List.mem_of_getElem? (i := 38) (by decide +kernel)) (by decide +kernel)) (TT_2 in_X9 (TT_2 (TT_t4 (List.mem_of_getElem? (i := 122) (by decide +kernel)) (by decide +kernel)) TT_0)))⟩
abbrev i_X9_isRing : Ym := (yX9_isRing, cX9_isRing, 4, (some .boolean), 2)
theorem j_X9_isRing : JV i_X9_isRing 1 := ⟨⟨by decide +kernel, by decide +kernel, by decide +kernel⟩, TT_2 (TT_t4 (List.mem_of_getElem? (i := 129) (by decide +kernel)) (by decide +kernel)) (TT_2 (TT_pv (List.mem_of_getElem? (i := 39) (by decide +kernel)) (by decide +kernel)) (TT_2 in_X9 (TT_2 (TT_t4 (List.mem_of_getElem? (i := 130) (by decide +kernel)) (by decide +kernel)) TT_0)))⟩
abbrev i_X9_owes : Ym := (yX9_owes, cX9_owes, 2, (some .int), 2)
theorem j_X9_owes : JV i_X9_owes 1 := ⟨⟨by decide +kernel, by decide +kernel, by decide +kernel⟩, TT_2 (TT_t4 (List.mem_of_getElem? (i := 108) (by decide +kernel)) (by decide +kernel)) (TT_2 (TT_t4 (List.mem_of_getElem? (i := 109) (by decide +kernel)) (by decide +kernel)) (TT_2 in_X9 (TT_2 (TT_t4 (List.mem_of_getElem? (i := 110) (by decide +kernel)) (by decide +kernel)) TT_0)))⟩
abbrev i_X9_ring : Ym := (yX9_ring, cX9_ring, 3, (some .int), 3)
theorem j_X9_ring : JV i_X9_ring 0 := ⟨⟨by decide +kernel, by decide +kernel, by decide +kernel⟩, TT_2 (TT_t4 (List.mem_of_getElem? (i := 124) (by decide +kernel)) (by decide +kernel)) (TT_2 (TT_t4 (List.mem_of_getElem? (i := 125) (by decide +kernel)) (by decide +kernel)) (TT_2 in_X9 (TT_2 (TT_t4 (List.mem_of_getElem? (i := 126) (by decide +kernel)) (by decide +kernel)) TT_0)))⟩
abbrev i_X9_rings : Ym := (yX9_rings, cX9_rings, 4, (some .int), 3)
theorem j_X9_rings : JV i_X9_rings 1 := ⟨⟨by decide +kernel, by decide +kernel, by decide +kernel⟩, TT_2 (TT_t4 (List.mem_of_getElem? (i := 135) (by decide +kernel)) (by decide +kernel)) (TT_2 (TT_t4 (List.mem_of_getElem? (i := 136) (by decide +kernel)) (by decide +kernel)) (TT_2 in_X9 (TT_2 (TT_t4 (List.mem_of_getElem? (i := 137) (by decide +kernel)) (by decide +kernel)) TT_0)))⟩
abbrev i_X9_least : Ym := (yX9_least, cX9_least, 4, (some .int), 3)
theorem j_X9_least : JV i_X9_least 1 := ⟨⟨by decide +kernel, by decide +kernel, by decide +kernel⟩, TT_2 (TT_t4 (List.mem_of_getElem? (i := 139) (by decide +kernel)) (by decide +kernel)) (TT_2 (TT_t4 (List.mem_of_getElem? (i := 140) (by decide +kernel)) (by decide +kernel)) (TT_2 in_X9 (TT_2 (TT_t4 (List.mem_of_getElem? (i := 141) (by decide +kernel)) (by decide +kernel)) TT_0)))⟩
abbrev i_X9_chain : Ym := (yX9_chain, cX9_chain, 9, (some .int), 3)
theorem j_X9_chain : JV i_X9_chain 3 := ⟨⟨by decide +kernel, by decide +kernel, by decide +kernel⟩, TT_2 (TT_t4 (List.mem_of_getElem? (i := 143) (by decide +kernel)) (by decide +kernel)) (TT_2 (TT_t4 (List.mem_of_getElem? (i := 144) (by decide +kernel)) (by decide +kernel)) (TT_2 in_X9 (TT_2 (TT_t4 (List.mem_of_getElem? (i := 145) (by decide +kernel)) (by decide +kernel)) TT_0)))⟩
abbrev i_X9_dim : Ym := (yX9_dim, cX9_dim, 6, (some .int), 5)
theorem j_X9_dim : JV i_X9_dim 2 := ⟨⟨by decide +kernel, by decide +kernel, by decide +kernel⟩, TT_2 (TT_t4 (List.mem_of_getElem? (i := 148) (by decide +kernel)) (by decide +kernel)) (TT_2 (TT_t4 (List.mem_of_getElem? (i := 149) (by decide +kernel)) (by decide +kernel)) (TT_2 in_X9 (TT_2 (TT_t4 (List.mem_of_getElem? (i := 150) (by decide +kernel)) (by decide +kernel)) TT_0)))⟩
abbrev i_X9_against : Ym := (yX9_against, cX9_against, 4, (some .int), 1)
theorem j_X9_against : JV i_X9_against 1 := ⟨⟨by decide +kernel, by decide +kernel, by decide +kernel⟩, TT_2 (TT_t4 (List.mem_of_getElem? (i := 157) (by decide +kernel)) (by decide +kernel)) (TT_2 (TT_pv (List.mem_of_getElem? (i := 40) (by decide +kernel)) (by decide +kernel)) (TT_2 in_X9 (TT_2 (TT_t4 (List.mem_of_getElem? (i := 158) (by decide +kernel)) (by decide +kernel)) TT_0)))⟩
abbrev i_X9_fits : Ym := (yX9_fits, cX9_fits, 6, (some .boolean), 2)
theorem j_X9_fits : JV i_X9_fits 3 := ⟨⟨by decide +kernel, by decide +kernel, by decide +kernel⟩, TT_2 (TT_t4 (List.mem_of_getElem? (i := 161) (by decide +kernel)) (by decide +kernel)) (TT_2 (TT_pv (List.mem_of_getElem? (i := 41) (by decide +kernel)) (by decide +kernel)) (TT_2 in_X9 (TT_2 (TT_t4 (List.mem_of_getElem? (i := 162) (by decide +kernel)) (by decide +kernel)) TT_0)))⟩
abbrev i_X9_firsts : Ym := (yX9_firsts, cX9_firsts, 6, (some .int), 3)
theorem j_X9_firsts : JV i_X9_firsts 2 := ⟨⟨by decide +kernel, by decide +kernel, by decide +kernel⟩, TT_2 (TT_t4 (List.mem_of_getElem? (i := 152) (by decide +kernel)) (by decide +kernel)) (TT_2 (TT_t4 (List.mem_of_getElem? (i := 153) (by decide +kernel)) (by decide +kernel)) (TT_2 in_X9 (TT_2 (TT_t4 (List.mem_of_getElem? (i := 154) (by decide +kernel)) (by decide +kernel)) TT_0)))⟩
abbrev i_X9_kindsOf : Ym := (yX9_kindsOf, cX9_kindsOf, 5, (some .int), 3)
theorem j_X9_kindsOf : JV i_X9_kindsOf 2 := ⟨⟨by decide +kernel, by decide +kernel, by decide +kernel⟩, TT_2 (TT_t4 (List.mem_of_getElem? (i := 169) (by decide +kernel)) (by decide +kernel)) (TT_2 (TT_pv (List.mem_of_getElem? (i := 42) (by decide +kernel)) (by decide +kernel)) (TT_2 in_X9 (TT_2 (TT_t4 (List.mem_of_getElem? (i := 170) (by decide +kernel)) (by decide +kernel)) TT_0)))⟩
abbrev i_X9_kinds : Ym := (yX9_kinds, cX9_kinds, 4, (some .int), 4)
theorem j_X9_kinds : JV i_X9_kinds 2 := ⟨⟨by decide +kernel, by decide +kernel, by decide +kernel⟩, TT_2 (TT_t4 (List.mem_of_getElem? (i := 164) (by decide +kernel)) (by decide +kernel)) (TT_2 (TT_t4 (List.mem_of_getElem? (i := 165) (by decide +kernel)) (by decide +kernel)) (TT_2 in_X9 (TT_2 (TT_t4 (List.mem_of_getElem? (i := 166) (by decide +kernel)) (by decide +kernel)) TT_0)))⟩
abbrev i_X9_greatestPart : Ym := (yX9_greatestPart, cX9_greatestPart, 8, (some .int), 2)
theorem j_X9_greatestPart : JV i_X9_greatestPart 3 := ⟨⟨by decide +kernel, by decide +kernel, by decide +kernel⟩, TT_2 (TT_t4 (List.mem_of_getElem? (i := 177) (by decide +kernel)) (by decide +kernel)) (TT_2 (TT_pv (List.mem_of_getElem? (i := 43) (by decide +kernel)) (by decide +kernel)) (TT_2 in_X9 (TT_2 (TT_t4 (List.mem_of_getElem? (i := 178) (by decide +kernel)) (by decide +kernel)) TT_0)))⟩
abbrev i_X9_test : Ym := (yX9_test, cX9_test, 9, (some .int), 4)
theorem j_X9_test : JV i_X9_test 2 := ⟨⟨by decide +kernel, by decide +kernel, by decide +kernel⟩, TT_2 (TT_t4 (List.mem_of_getElem? (i := 172) (by decide +kernel)) (by decide +kernel)) (TT_2 (TT_t4 (List.mem_of_getElem? (i := 173) (by decide +kernel)) (by decide +kernel)) (TT_2 in_X9 (TT_2 (TT_t4 (List.mem_of_getElem? (i := 174) (by decide +kernel)) (by decide +kernel)) TT_0)))⟩
abbrev i_X9_whose : Ym := (yX9_whose, cX9_whose, 9, (some .int), 2)
theorem j_X9_whose : JV i_X9_whose 2 := ⟨⟨by decide +kernel, by decide +kernel, by decide +kernel⟩, TT_2 (TT_t4 (List.mem_of_getElem? (i := 180) (by decide +kernel)) (by decide +kernel)) (TT_2 (TT_t4 (List.mem_of_getElem? (i := 181) (by decide +kernel)) (by decide +kernel)) (TT_2 in_X9 (TT_2 (TT_t4 (List.mem_of_getElem? (i := 182) (by decide +kernel)) (by decide +kernel)) TT_0)))⟩
abbrev i_X9_duel : Ym := (yX9_duel, cX9_duel, 6, (some .int), 5)
theorem j_X9_duel : JV i_X9_duel 2 := ⟨⟨by decide +kernel, by decide +kernel, by decide +kernel⟩, TT_2 (TT_t4 (List.mem_of_getElem? (i := 184) (by decide +kernel)) (by decide +kernel)) (TT_2 (TT_t4 (List.mem_of_getElem? (i := 185) (by decide +kernel)) (by decide +kernel)) (TT_2 in_X9 (TT_2 (TT_t4 (List.mem_of_getElem? (i := 186) (by decide +kernel)) (by decide +kernel)) TT_0)))⟩
abbrev i_X9_betters : Ym := (yX9_betters, cX9_betters, 4, none, 0)
theorem j_X9_betters : JV i_X9_betters 1 := ⟨⟨by decide +kernel, by decide +kernel, by decide +kernel⟩, TT_2 (TT_t4 (List.mem_of_getElem? (i := 190) (by decide +kernel)) (by decide +kernel)) (TT_2 (TT_pv (List.mem_of_getElem? (i := 44) (by decide +kernel)) (by decide +kernel)) (TT_2 in_X9 (TT_2 (TT_t4 (List.mem_of_getElem? (i := 191) (by decide +kernel)) (by decide +kernel)) TT_0)))⟩
abbrev i_X9_tellsPart : Ym := (yX9_tellsPart, cX9_tellsPart, 11, (some .int), 0)
theorem j_X9_tellsPart : JV i_X9_tellsPart 2 := ⟨⟨by decide +kernel, by decide +kernel, by decide +kernel⟩, TT_2 (TT_t4 (List.mem_of_getElem? (i := 203) (by decide +kernel)) (by decide +kernel)) (TT_2 (TT_pv (List.mem_of_getElem? (i := 46) (by decide +kernel)) (by decide +kernel)) (TT_2 in_X9 (TT_2 (TT_t4 (List.mem_of_getElem? (i := 204) (by decide +kernel)) (by decide +kernel)) TT_0)))⟩
abbrev i_X9_chances : Ym := (yX9_chances, cX9_chances, 12, (some .int), 5)
theorem j_X9_chances : JV i_X9_chances 3 := ⟨⟨by decide +kernel, by decide +kernel, by decide +kernel⟩, TT_2 (TT_t4 (List.mem_of_getElem? (i := 199) (by decide +kernel)) (by decide +kernel)) (TT_2 (TT_pv (List.mem_of_getElem? (i := 45) (by decide +kernel)) (by decide +kernel)) (TT_2 in_X9 (TT_2 (TT_t4 (List.mem_of_getElem? (i := 200) (by decide +kernel)) (by decide +kernel)) TT_0)))⟩
abbrev i_X9_odds : Ym := (yX9_odds, cX9_odds, 4, (some .int), 6)
theorem j_X9_odds : JV i_X9_odds 3 := ⟨⟨by decide +kernel, by decide +kernel, by decide +kernel⟩, TT_2 (TT_t4 (List.mem_of_getElem? (i := 193) (by decide +kernel)) (by decide +kernel)) (TT_2 (TT_t4 (List.mem_of_getElem? (i := 194) (by decide +kernel)) (by decide +kernel)) (TT_2 in_X9 (TT_2 (TT_t4 (List.mem_of_getElem? (i := 195) (by decide +kernel)) (by decide +kernel)) TT_0)))⟩
abbrev i_X9_mid : Ym := (yX9_mid, cX9_mid, 3, (some .int), 6)
theorem j_X9_mid : JV i_X9_mid 2 := ⟨⟨by decide +kernel, by decide +kernel, by decide +kernel⟩, TT_2 (TT_t4 (List.mem_of_getElem? (i := 206) (by decide +kernel)) (by decide +kernel)) (TT_2 (TT_t4 (List.mem_of_getElem? (i := 207) (by decide +kernel)) (by decide +kernel)) (TT_2 in_X9 (TT_2 (TT_t4 (List.mem_of_getElem? (i := 208) (by decide +kernel)) (by decide +kernel)) TT_0)))⟩
abbrev i_X9_lots : Ym := (yX9_lots, cX9_lots, 7, (some .int), 4)
theorem j_X9_lots : JV i_X9_lots 2 := ⟨⟨by decide +kernel, by decide +kernel, by decide +kernel⟩, TT_2 (TT_t4 (List.mem_of_getElem? (i := 210) (by decide +kernel)) (by decide +kernel)) (TT_2 (TT_t4 (List.mem_of_getElem? (i := 211) (by decide +kernel)) (by decide +kernel)) (TT_2 in_X9 (TT_2 (TT_t4 (List.mem_of_getElem? (i := 212) (by decide +kernel)) (by decide +kernel)) TT_0)))⟩
abbrev i_X9_asked : Ym := (yX9_asked, cX9_asked, 1, (some .int), 0)
theorem j_X9_asked : JV i_X9_asked 0 := ⟨⟨by decide +kernel, by decide +kernel, by decide +kernel⟩, TT_2 (TT_t4 (List.mem_of_getElem? (i := 220) (by decide +kernel)) (by decide +kernel)) (TT_2 (TT_t4 (List.mem_of_getElem? (i := 221) (by decide +kernel)) (by decide +kernel)) (TT_2 in_X9 (TT_2 (TT_t4 (List.mem_of_getElem? (i := 222) (by decide +kernel)) (by decide +kernel)) TT_0)))⟩
abbrev i_X9_upper : Ym := (yX9_upper, cX9_upper, 1, (some .long), 0)
theorem j_X9_upper : JV i_X9_upper 0 := ⟨⟨by decide +kernel, by decide +kernel, by decide +kernel⟩, TT_2 (TT_t4 (List.mem_of_getElem? (i := 224) (by decide +kernel)) (by decide +kernel)) (TT_2 (TT_t4 (List.mem_of_getElem? (i := 225) (by decide +kernel)) (by decide +kernel)) (TT_2 in_X9 (TT_2 (TT_t4 (List.mem_of_getElem? (i := 226) (by decide +kernel)) (by decide +kernel)) TT_0)))⟩
abbrev i_X9_lower : Ym := (yX9_lower, cX9_lower, 1, (some .long), 0)
theorem j_X9_lower : JV i_X9_lower 0 := ⟨⟨by decide +kernel, by decide +kernel, by decide +kernel⟩, TT_2 (TT_t4 (List.mem_of_getElem? (i := 228) (by decide +kernel)) (by decide +kernel)) (TT_2 (TT_t4 (List.mem_of_getElem? (i := 229) (by decide +kernel)) (by decide +kernel)) (TT_2 in_X9 (TT_2 (TT_t4 (List.mem_of_getElem? (i := 230) (by decide +kernel)) (by decide +kernel)) TT_0)))⟩
abbrev i_X9_manyOf : Ym := (yX9_manyOf, cX9_manyOf, 5, (some .int), 0)
theorem j_X9_manyOf : JV i_X9_manyOf 2 := ⟨⟨by decide +kernel, by decide +kernel, by decide +kernel⟩, TT_2 (TT_t4 (List.mem_of_getElem? (i := 237) (by decide +kernel)) (by decide +kernel)) (TT_2 (TT_pv (List.mem_of_getElem? (i := 47) (by decide +kernel)) (by decide +kernel)) (TT_2 in_X9 (TT_2 (TT_t4 (List.mem_of_getElem? (i := 238) (by decide +kernel)) (by decide +kernel)) TT_0)))⟩
abbrev i_X9_rowsThere : Ym := (yX9_rowsThere, cX9_rowsThere, 3, (some .int), 0)
theorem j_X9_rowsThere : JV i_X9_rowsThere 0 := ⟨⟨by decide +kernel, by decide +kernel, by decide +kernel⟩, TT_2 (TT_t5 (List.mem_of_getElem? (i := 1) (by decide +kernel)) (by decide +kernel)) (TT_2 (TT_pv (List.mem_of_getElem? (i := 48) (by decide +kernel)) (by decide +kernel)) (TT_2 in_X9 (TT_2 (TT_t5 (List.mem_of_getElem? (i := 2) (by decide +kernel)) (by decide +kernel)) TT_0)))⟩
abbrev i_X9_textsThere : Ym := (yX9_textsThere, cX9_textsThere, 3, (some .int), 0)
theorem j_X9_textsThere : JV i_X9_textsThere 0 := ⟨⟨by decide +kernel, by decide +kernel, by decide +kernel⟩, TT_2 (TT_t5 (List.mem_of_getElem? (i := 5) (by decide +kernel)) (by decide +kernel)) (TT_2 (TT_pv (List.mem_of_getElem? (i := 49) (by decide +kernel)) (by decide +kernel)) (TT_2 in_X9 (TT_2 (TT_t5 (List.mem_of_getElem? (i := 6) (by decide +kernel)) (by decide +kernel)) TT_0)))⟩
abbrev i_X9_banksKept : Ym := (yX9_banksKept, cX9_banksKept, 3, (some .int), 0)
theorem j_X9_banksKept : JV i_X9_banksKept 0 := ⟨⟨by decide +kernel, by decide +kernel, by decide +kernel⟩, TT_2 (TT_t5 (List.mem_of_getElem? (i := 9) (by decide +kernel)) (by decide +kernel)) (TT_2 (TT_pv (List.mem_of_getElem? (i := 50) (by decide +kernel)) (by decide +kernel)) (TT_2 in_X9 (TT_2 (TT_t5 (List.mem_of_getElem? (i := 10) (by decide +kernel)) (by decide +kernel)) TT_0)))⟩
abbrev i_X9_count : Ym := (yX9_count, cX9_count, 2, (some .int), 4)
theorem j_X9_count : JV i_X9_count 1 := ⟨⟨by decide +kernel, by decide +kernel, by decide +kernel⟩, TT_2 (TT_t4 (List.mem_of_getElem? (i := 232) (by decide +kernel)) (by decide +kernel)) (TT_2 (TT_t4 (List.mem_of_getElem? (i := 233) (by decide +kernel)) (by decide +kernel)) (TT_2 in_X9 (TT_2 (TT_t4 (List.mem_of_getElem? (i := 234) (by decide +kernel)) (by decide +kernel)) TT_0)))⟩
abbrev i_X9_finding : Ym := (yX9_finding, cX9_finding, 1, (some .int), 0)
theorem j_X9_finding : JV i_X9_finding 0 := ⟨⟨by decide +kernel, by decide +kernel, by decide +kernel⟩, TT_2 (TT_t5 (List.mem_of_getElem? (i := 12) (by decide +kernel)) (by decide +kernel)) (TT_2 (TT_t5 (List.mem_of_getElem? (i := 13) (by decide +kernel)) (by decide +kernel)) (TT_2 in_X9 (TT_2 (TT_t5 (List.mem_of_getElem? (i := 14) (by decide +kernel)) (by decide +kernel)) TT_0)))⟩
abbrev i_X9_findings : Ym := (yX9_findings, cX9_findings, 2, (some .int), 1)
theorem j_X9_findings : JV i_X9_findings 1 := ⟨⟨by decide +kernel, by decide +kernel, by decide +kernel⟩, TT_2 (TT_t5 (List.mem_of_getElem? (i := 16) (by decide +kernel)) (by decide +kernel)) (TT_2 (TT_t5 (List.mem_of_getElem? (i := 17) (by decide +kernel)) (by decide +kernel)) (TT_2 in_X9 (TT_2 (TT_t5 (List.mem_of_getElem? (i := 18) (by decide +kernel)) (by decide +kernel)) TT_0)))⟩
abbrev i_X9_mix : Ym := (yX9_mix, cX9_mix, 3, none, 0)
theorem j_X9_mix : JV i_X9_mix 1 := ⟨⟨by decide +kernel, by decide +kernel, by decide +kernel⟩, TT_2 (TT_t5 (List.mem_of_getElem? (i := 27) (by decide +kernel)) (by decide +kernel)) (TT_2 (TT_pv (List.mem_of_getElem? (i := 51) (by decide +kernel)) (by decide +kernel)) (TT_2 in_X9 (TT_2 (TT_t5 (List.mem_of_getElem? (i := 28) (by decide +kernel)) (by decide +kernel)) TT_0)))⟩
abbrev i_X9_digest : Ym := (yX9_digest, cX9_digest, 3, (some .long), 5)
theorem j_X9_digest : JV i_X9_digest 0 := ⟨⟨by decide +kernel, by decide +kernel, by decide +kernel⟩, TT_2 (TT_t5 (List.mem_of_getElem? (i := 20) (by decide +kernel)) (by decide +kernel)) (TT_2 (TT_t5 (List.mem_of_getElem? (i := 21) (by decide +kernel)) (by decide +kernel)) (TT_2 in_X9 (TT_2 (TT_t5 (List.mem_of_getElem? (i := 22) (by decide +kernel)) (by decide +kernel)) TT_0)))⟩
abbrev i_X0_clear : Ym := (yX0_clear, cX0_clear, 1, none, 0)
theorem j_X0_clear : JV i_X0_clear 0 := ⟨⟨by decide +kernel, by decide +kernel, by decide +kernel⟩, TT_2 (TT_t1 (List.mem_of_getElem? (i := 34) (by decide +kernel)) (by decide +kernel)) (TT_2 (TT_t1 (List.mem_of_getElem? (i := 35) (by decide +kernel)) (by decide +kernel)) (TT_2 in_X0 (TT_2 (TT_t1 (List.mem_of_getElem? (i := 36) (by decide +kernel)) (by decide +kernel)) TT_0)))⟩
abbrev i_X0_add : Ym := (yX0_add, cX0_add, 6, none, 0)
theorem j_X0_add : JV i_X0_add 5 := ⟨⟨by decide +kernel, by decide +kernel, by decide +kernel⟩, TT_2 (TT_t1 (List.mem_of_getElem? (i := 38) (by decide +kernel)) (by decide +kernel)) (TT_2 (TT_t1 (List.mem_of_getElem? (i := 39) (by decide +kernel)) (by decide +kernel)) (TT_2 in_X0 (TT_2 (TT_t1 (List.mem_of_getElem? (i := 40) (by decide +kernel)) (by decide +kernel)) TT_0)))⟩
abbrev i_X0_become : Ym := (yX0_become, cX0_become, 2, none, 1)
theorem j_X0_become : JV i_X0_become 1 := ⟨⟨by decide +kernel, by decide +kernel, by decide +kernel⟩, TT_2 (TT_t1 (List.mem_of_getElem? (i := 187) (by decide +kernel)) (by decide +kernel)) (TT_2 (TT_t1 (List.mem_of_getElem? (i := 188) (by decide +kernel)) (by decide +kernel)) (TT_2 in_X0 (TT_2 (TT_t1 (List.mem_of_getElem? (i := 189) (by decide +kernel)) (by decide +kernel)) TT_0)))⟩
abbrev i_X0_size : Ym := (yX0_size, cX0_size, 1, (some .int), 0)
theorem j_X0_size : JV i_X0_size 0 := ⟨⟨by decide +kernel, by decide +kernel, by decide +kernel⟩, TT_2 (TT_t1 (List.mem_of_getElem? (i := 47) (by decide +kernel)) (by decide +kernel)) (TT_2 (TT_t1 (List.mem_of_getElem? (i := 48) (by decide +kernel)) (by decide +kernel)) (TT_2 in_X0 (TT_2 (TT_t1 (List.mem_of_getElem? (i := 49) (by decide +kernel)) (by decide +kernel)) TT_0)))⟩
abbrev i_X0_thisNight : Ym := (yX0_thisNight, cX0_thisNight, 1, (some .int), 0)
theorem j_X0_thisNight : JV i_X0_thisNight 0 := ⟨⟨by decide +kernel, by decide +kernel, by decide +kernel⟩, TT_2 (TT_t1 (List.mem_of_getElem? (i := 109) (by decide +kernel)) (by decide +kernel)) (TT_2 (TT_t1 (List.mem_of_getElem? (i := 110) (by decide +kernel)) (by decide +kernel)) (TT_2 in_X0 (TT_2 (TT_t1 (List.mem_of_getElem? (i := 111) (by decide +kernel)) (by decide +kernel)) TT_0)))⟩
abbrev i_X0_deedsDone : Ym := (yX0_deedsDone, cX0_deedsDone, 1, (some .int), 0)
theorem j_X0_deedsDone : JV i_X0_deedsDone 0 := ⟨⟨by decide +kernel, by decide +kernel, by decide +kernel⟩, TT_2 (TT_t1 (List.mem_of_getElem? (i := 126) (by decide +kernel)) (by decide +kernel)) (TT_2 (TT_t1 (List.mem_of_getElem? (i := 127) (by decide +kernel)) (by decide +kernel)) (TT_2 in_X0 (TT_2 (TT_t1 (List.mem_of_getElem? (i := 128) (by decide +kernel)) (by decide +kernel)) TT_0)))⟩
abbrev i_X0_litSet : Ym := (yX0_litSet, cX0_litSet, 1, (some .int), 0)
theorem j_X0_litSet : JV i_X0_litSet 0 := ⟨⟨by decide +kernel, by decide +kernel, by decide +kernel⟩, TT_2 (TT_t2 (List.mem_of_getElem? (i := 128) (by decide +kernel)) (by decide +kernel)) (TT_2 (TT_t2 (List.mem_of_getElem? (i := 129) (by decide +kernel)) (by decide +kernel)) (TT_2 in_X0 (TT_2 (TT_t2 (List.mem_of_getElem? (i := 130) (by decide +kernel)) (by decide +kernel)) TT_0)))⟩
abbrev i_X0_has : Ym := (yX0_has, cX0_has, 2, (some .boolean), 0)
theorem j_X0_has : JV i_X0_has 1 := ⟨⟨by decide +kernel, by decide +kernel, by decide +kernel⟩, TT_2 (TT_t1 (List.mem_of_getElem? (i := 55) (by decide +kernel)) (by decide +kernel)) (TT_2 (TT_t1 (List.mem_of_getElem? (i := 56) (by decide +kernel)) (by decide +kernel)) (TT_2 in_X0 (TT_2 (TT_t1 (List.mem_of_getElem? (i := 57) (by decide +kernel)) (by decide +kernel)) TT_0)))⟩
abbrev i_X0_isLit : Ym := (yX0_isLit, cX0_isLit, 2, (some .boolean), 1)
theorem j_X0_isLit : JV i_X0_isLit 1 := ⟨⟨by decide +kernel, by decide +kernel, by decide +kernel⟩, TT_2 (TT_t1 (List.mem_of_getElem? (i := 84) (by decide +kernel)) (by decide +kernel)) (TT_2 (TT_t1 (List.mem_of_getElem? (i := 85) (by decide +kernel)) (by decide +kernel)) (TT_2 in_X0 (TT_2 (TT_t1 (List.mem_of_getElem? (i := 86) (by decide +kernel)) (by decide +kernel)) TT_0)))⟩
abbrev i_X0_isOwing : Ym := (yX0_isOwing, cX0_isOwing, 2, (some .boolean), 2)
theorem j_X0_isOwing : JV i_X0_isOwing 1 := ⟨⟨by decide +kernel, by decide +kernel, by decide +kernel⟩, TT_2 (TT_t2 (List.mem_of_getElem? (i := 30) (by decide +kernel)) (by decide +kernel)) (TT_2 (TT_t2 (List.mem_of_getElem? (i := 31) (by decide +kernel)) (by decide +kernel)) (TT_2 in_X0 (TT_2 (TT_t2 (List.mem_of_getElem? (i := 32) (by decide +kernel)) (by decide +kernel)) TT_0)))⟩
abbrev i_X0_kindOf : Ym := (yX0_kindOf, cX0_kindOf, 2, (some .int), 1)
theorem j_X0_kindOf : JV i_X0_kindOf 1 := ⟨⟨by decide +kernel, by decide +kernel, by decide +kernel⟩, TT_2 (TT_t1 (List.mem_of_getElem? (i := 63) (by decide +kernel)) (by decide +kernel)) (TT_2 (TT_t1 (List.mem_of_getElem? (i := 64) (by decide +kernel)) (by decide +kernel)) (TT_2 in_X0 (TT_2 (TT_t1 (List.mem_of_getElem? (i := 65) (by decide +kernel)) (by decide +kernel)) TT_0)))⟩
abbrev i_X0_owerOf : Ym := (yX0_owerOf, cX0_owerOf, 2, (some .int), 1)
theorem j_X0_owerOf : JV i_X0_owerOf 1 := ⟨⟨by decide +kernel, by decide +kernel, by decide +kernel⟩, TT_2 (TT_t1 (List.mem_of_getElem? (i := 68) (by decide +kernel)) (by decide +kernel)) (TT_2 (TT_t1 (List.mem_of_getElem? (i := 69) (by decide +kernel)) (by decide +kernel)) (TT_2 in_X0 (TT_2 (TT_t1 (List.mem_of_getElem? (i := 70) (by decide +kernel)) (by decide +kernel)) TT_0)))⟩
abbrev i_X0_creditorOf : Ym := (yX0_creditorOf, cX0_creditorOf, 2, (some .int), 1)
theorem j_X0_creditorOf : JV i_X0_creditorOf 1 := ⟨⟨by decide +kernel, by decide +kernel, by decide +kernel⟩, TT_2 (TT_t1 (List.mem_of_getElem? (i := 72) (by decide +kernel)) (by decide +kernel)) (TT_2 (TT_t1 (List.mem_of_getElem? (i := 73) (by decide +kernel)) (by decide +kernel)) (TT_2 in_X0 (TT_2 (TT_t1 (List.mem_of_getElem? (i := 74) (by decide +kernel)) (by decide +kernel)) TT_0)))⟩
abbrev i_X0_placeOf : Ym := (yX0_placeOf, cX0_placeOf, 2, (some .int), 1)
theorem j_X0_placeOf : JV i_X0_placeOf 1 := ⟨⟨by decide +kernel, by decide +kernel, by decide +kernel⟩, TT_2 (TT_t1 (List.mem_of_getElem? (i := 76) (by decide +kernel)) (by decide +kernel)) (TT_2 (TT_t1 (List.mem_of_getElem? (i := 77) (by decide +kernel)) (by decide +kernel)) (TT_2 in_X0 (TT_2 (TT_t1 (List.mem_of_getElem? (i := 78) (by decide +kernel)) (by decide +kernel)) TT_0)))⟩
abbrev i_X0_firstOf : Ym := (yX0_firstOf, cX0_firstOf, 2, (some .int), 1)
theorem j_X0_firstOf : JV i_X0_firstOf 1 := ⟨⟨by decide +kernel, by decide +kernel, by decide +kernel⟩, TT_2 (TT_t1 (List.mem_of_getElem? (i := 80) (by decide +kernel)) (by decide +kernel)) (TT_2 (TT_t1 (List.mem_of_getElem? (i := 81) (by decide +kernel)) (by decide +kernel)) (TT_2 in_X0 (TT_2 (TT_t1 (List.mem_of_getElem? (i := 82) (by decide +kernel)) (by decide +kernel)) TT_0)))⟩
abbrev i_X0_partOf : Ym := (yX0_partOf, cX0_partOf, 3, (some .int), 3)
theorem j_X0_partOf : JV i_X0_partOf 2 := ⟨⟨by decide +kernel, by decide +kernel, by decide +kernel⟩, TT_2 (TT_t1 (List.mem_of_getElem? (i := 59) (by decide +kernel)) (by decide +kernel)) (TT_2 (TT_t1 (List.mem_of_getElem? (i := 60) (by decide +kernel)) (by decide +kernel)) (TT_2 in_X0 (TT_2 (TT_t1 (List.mem_of_getElem? (i := 61) (by decide +kernel)) (by decide +kernel)) TT_0)))⟩
abbrev i_X0_howManyOf : Ym := (yX0_howManyOf, cX0_howManyOf, 4, (some .int), 2)
theorem j_X0_howManyOf : JV i_X0_howManyOf 1 := ⟨⟨by decide +kernel, by decide +kernel, by decide +kernel⟩, TT_2 (TT_t3 (List.mem_of_getElem? (i := 29) (by decide +kernel)) (by decide +kernel)) (TT_2 (TT_t3 (List.mem_of_getElem? (i := 30) (by decide +kernel)) (by decide +kernel)) (TT_2 in_X0 (TT_2 (TT_t3 (List.mem_of_getElem? (i := 31) (by decide +kernel)) (by decide +kernel)) TT_0)))⟩
abbrev i_X0_glowOf : Ym := (yX0_glowOf, cX0_glowOf, 3, (some .int), 2)
theorem j_X0_glowOf : JV i_X0_glowOf 2 := ⟨⟨by decide +kernel, by decide +kernel, by decide +kernel⟩, TT_2 (TT_t1 (List.mem_of_getElem? (i := 88) (by decide +kernel)) (by decide +kernel)) (TT_2 (TT_t1 (List.mem_of_getElem? (i := 89) (by decide +kernel)) (by decide +kernel)) (TT_2 in_X0 (TT_2 (TT_t1 (List.mem_of_getElem? (i := 90) (by decide +kernel)) (by decide +kernel)) TT_0)))⟩
abbrev i_X0_litGlow : Ym := (yX0_litGlow, cX0_litGlow, 3, (some .int), 3)
theorem j_X0_litGlow : JV i_X0_litGlow 0 := ⟨⟨by decide +kernel, by decide +kernel, by decide +kernel⟩, TT_2 (TT_t1 (List.mem_of_getElem? (i := 138) (by decide +kernel)) (by decide +kernel)) (TT_2 (TT_t1 (List.mem_of_getElem? (i := 139) (by decide +kernel)) (by decide +kernel)) (TT_2 in_X0 (TT_2 (TT_t1 (List.mem_of_getElem? (i := 140) (by decide +kernel)) (by decide +kernel)) TT_0)))⟩
abbrev i_X0_faded : Ym := (yX0_faded, cX0_faded, 3, (some .int), 1)
theorem j_X0_faded : JS i_X0_faded 3 := ⟨⟨by decide +kernel, by decide +kernel, by decide +kernel⟩, TT_2 (TT_t1 (List.mem_of_getElem? (i := 208) (by decide +kernel)) (by decide +kernel)) (TT_2 in_X0 (TT_2 (TT_t1 (List.mem_of_getElem? (i := 209) (by decide +kernel)) (by decide +kernel)) TT_0))⟩
abbrev i_X0_glowAt : Ym := (yX0_glowAt, cX0_glowAt, 4, (some .int), 3)
theorem j_X0_glowAt : JV i_X0_glowAt 3 := ⟨⟨by decide +kernel, by decide +kernel, by decide +kernel⟩, TT_2 (TT_t1 (List.mem_of_getElem? (i := 204) (by decide +kernel)) (by decide +kernel)) (TT_2 (TT_t1 (List.mem_of_getElem? (i := 205) (by decide +kernel)) (by decide +kernel)) (TT_2 in_X0 (TT_2 (TT_t1 (List.mem_of_getElem? (i := 206) (by decide +kernel)) (by decide +kernel)) TT_0)))⟩
abbrev i_X0_brightAt : Ym := (yX0_brightAt, cX0_brightAt, 5, (some .int), 4)
theorem j_X0_brightAt : JV i_X0_brightAt 2 := ⟨⟨by decide +kernel, by decide +kernel, by decide +kernel⟩, TT_2 (TT_t1 (List.mem_of_getElem? (i := 200) (by decide +kernel)) (by decide +kernel)) (TT_2 (TT_t1 (List.mem_of_getElem? (i := 201) (by decide +kernel)) (by decide +kernel)) (TT_2 in_X0 (TT_2 (TT_t1 (List.mem_of_getElem? (i := 202) (by decide +kernel)) (by decide +kernel)) TT_0)))⟩
abbrev i_X0_brightAlong : Ym := (yX0_brightAlong, cX0_brightAlong, 5, (some .int), 5)
theorem j_X0_brightAlong : JV i_X0_brightAlong 2 := ⟨⟨by decide +kernel, by decide +kernel, by decide +kernel⟩, TT_2 (TT_t1 (List.mem_of_getElem? (i := 222) (by decide +kernel)) (by decide +kernel)) (TT_2 (TT_t1 (List.mem_of_getElem? (i := 223) (by decide +kernel)) (by decide +kernel)) (TT_2 in_X0 (TT_2 (TT_t1 (List.mem_of_getElem? (i := 224) (by decide +kernel)) (by decide +kernel)) TT_0)))⟩
abbrev i_X0_shareAlong : Ym := (yX0_shareAlong, cX0_shareAlong, 8, (some .int), 3)
theorem j_X0_shareAlong : JV i_X0_shareAlong 4 := ⟨⟨by decide +kernel, by decide +kernel, by decide +kernel⟩, TT_2 (TT_t1 (List.mem_of_getElem? (i := 235) (by decide +kernel)) (by decide +kernel)) (TT_2 (TT_t1 (List.mem_of_getElem? (i := 236) (by decide +kernel)) (by decide +kernel)) (TT_2 in_X0 (TT_2 (TT_t1 (List.mem_of_getElem? (i := 237) (by decide +kernel)) (by decide +kernel)) TT_0)))⟩
abbrev i_X0_balanceOf : Ym := (yX0_balanceOf, cX0_balanceOf, 4, (some .int), 3)
theorem j_X0_balanceOf : JV i_X0_balanceOf 1 := ⟨⟨by decide +kernel, by decide +kernel, by decide +kernel⟩, TT_2 (TT_t2 (List.mem_of_getElem? (i := 26) (by decide +kernel)) (by decide +kernel)) (TT_2 (TT_t2 (List.mem_of_getElem? (i := 27) (by decide +kernel)) (by decide +kernel)) (TT_2 in_X0 (TT_2 (TT_t2 (List.mem_of_getElem? (i := 28) (by decide +kernel)) (by decide +kernel)) TT_0)))⟩
abbrev i_X0_passNight : Ym := (yX0_passNight, cX0_passNight, 1, none, 1)
theorem j_X0_passNight : JV i_X0_passNight 0 := ⟨⟨by decide +kernel, by decide +kernel, by decide +kernel⟩, TT_2 (TT_t1 (List.mem_of_getElem? (i := 130) (by decide +kernel)) (by decide +kernel)) (TT_2 (TT_t1 (List.mem_of_getElem? (i := 131) (by decide +kernel)) (by decide +kernel)) (TT_2 in_X0 (TT_2 (TT_t1 (List.mem_of_getElem? (i := 132) (by decide +kernel)) (by decide +kernel)) TT_0)))⟩
abbrev i_X0_putOut : Ym := (yX0_putOut, cX0_putOut, 2, none, 1)
theorem j_X0_putOut : JV i_X0_putOut 1 := ⟨⟨by decide +kernel, by decide +kernel, by decide +kernel⟩, TT_2 (TT_t1 (List.mem_of_getElem? (i := 147) (by decide +kernel)) (by decide +kernel)) (TT_2 (TT_t1 (List.mem_of_getElem? (i := 148) (by decide +kernel)) (by decide +kernel)) (TT_2 in_X0 (TT_2 (TT_t1 (List.mem_of_getElem? (i := 149) (by decide +kernel)) (by decide +kernel)) TT_0)))⟩
abbrev i_X0_lightAgain : Ym := (yX0_lightAgain, cX0_lightAgain, 2, none, 1)
theorem j_X0_lightAgain : JV i_X0_lightAgain 1 := ⟨⟨by decide +kernel, by decide +kernel, by decide +kernel⟩, TT_2 (TT_t1 (List.mem_of_getElem? (i := 155) (by decide +kernel)) (by decide +kernel)) (TT_2 (TT_t1 (List.mem_of_getElem? (i := 156) (by decide +kernel)) (by decide +kernel)) (TT_2 in_X0 (TT_2 (TT_t1 (List.mem_of_getElem? (i := 157) (by decide +kernel)) (by decide +kernel)) TT_0)))⟩
abbrev i_X0_carryTo : Ym := (yX0_carryTo, cX0_carryTo, 3, none, 1)
theorem j_X0_carryTo : JV i_X0_carryTo 2 := ⟨⟨by decide +kernel, by decide +kernel, by decide +kernel⟩, TT_2 (TT_t1 (List.mem_of_getElem? (i := 167) (by decide +kernel)) (by decide +kernel)) (TT_2 (TT_t1 (List.mem_of_getElem? (i := 168) (by decide +kernel)) (by decide +kernel)) (TT_2 in_X0 (TT_2 (TT_t1 (List.mem_of_getElem? (i := 169) (by decide +kernel)) (by decide +kernel)) TT_0)))⟩
abbrev i_X0_doByLot : Ym := (yX0_doByLot, cX0_doByLot, 4, none, 2)
theorem j_X0_doByLot : JV i_X0_doByLot 1 := ⟨⟨by decide +kernel, by decide +kernel, by decide +kernel⟩, TT_2 (TT_t3 (List.mem_of_getElem? (i := 1) (by decide +kernel)) (by decide +kernel)) (TT_2 (TT_t3 (List.mem_of_getElem? (i := 2) (by decide +kernel)) (by decide +kernel)) (TT_2 in_X0 (TT_2 (TT_t3 (List.mem_of_getElem? (i := 3) (by decide +kernel)) (by decide +kernel)) TT_0)))⟩
abbrev i_X0_write : Ym := (yX0_write, cX0_write, 4, none, 0)
theorem j_X0_write : JV i_X0_write 3 := ⟨⟨by decide +kernel, by decide +kernel, by decide +kernel⟩, TT_2 (TT_t1 (List.mem_of_getElem? (i := 135) (by decide +kernel)) (by decide +kernel)) (TT_2 (TT_pv (List.mem_of_getElem? (i := 7) (by decide +kernel)) (by decide +kernel)) (TT_2 in_X0 (TT_2 (TT_t1 (List.mem_of_getElem? (i := 136) (by decide +kernel)) (by decide +kernel)) TT_0)))⟩
abbrev i_X0_takeBackFrom : Ym := (yX0_takeBackFrom, cX0_takeBackFrom, 2, none, 2)
theorem j_X0_takeBackFrom : JV i_X0_takeBackFrom 1 := ⟨⟨by decide +kernel, by decide +kernel, by decide +kernel⟩, TT_2 (TT_t1 (List.mem_of_getElem? (i := 175) (by decide +kernel)) (by decide +kernel)) (TT_2 (TT_t1 (List.mem_of_getElem? (i := 176) (by decide +kernel)) (by decide +kernel)) (TT_2 in_X0 (TT_2 (TT_t1 (List.mem_of_getElem? (i := 177) (by decide +kernel)) (by decide +kernel)) TT_0)))⟩
abbrev i_X0_takeBack : Ym := (yX0_takeBack, cX0_takeBack, 3, none, 1)
theorem j_X0_takeBack : JV i_X0_takeBack 1 := ⟨⟨by decide +kernel, by decide +kernel, by decide +kernel⟩, TT_2 (TT_t1 (List.mem_of_getElem? (i := 180) (by decide +kernel)) (by decide +kernel)) (TT_2 (TT_pv (List.mem_of_getElem? (i := 8) (by decide +kernel)) (by decide +kernel)) (TT_2 in_X0 (TT_2 (TT_t1 (List.mem_of_getElem? (i := 181) (by decide +kernel)) (by decide +kernel)) TT_0)))⟩
abbrev i_X1_shortest : Ym := (yX1_shortest, cX1_shortest, 7, (some .int), 3)
theorem j_X1_shortest : JV i_X1_shortest 3 := ⟨⟨by decide +kernel, by decide +kernel, by decide +kernel⟩, TT_2 (TT_t2 (List.mem_of_getElem? (i := 89) (by decide +kernel)) (by decide +kernel)) (TT_2 (TT_t2 (List.mem_of_getElem? (i := 90) (by decide +kernel)) (by decide +kernel)) (TT_2 in_X1 (TT_2 (TT_t2 (List.mem_of_getElem? (i := 91) (by decide +kernel)) (by decide +kernel)) TT_0)))⟩
abbrev i_X1_stepsOf : Ym := (yX1_stepsOf, cX1_stepsOf, 2, (some .int), 1)
theorem j_X1_stepsOf : JV i_X1_stepsOf 1 := ⟨⟨by decide +kernel, by decide +kernel, by decide +kernel⟩, TT_2 (TT_t2 (List.mem_of_getElem? (i := 99) (by decide +kernel)) (by decide +kernel)) (TT_2 (TT_pv (List.mem_of_getElem? (i := 11) (by decide +kernel)) (by decide +kernel)) (TT_2 in_X1 (TT_2 (TT_t2 (List.mem_of_getElem? (i := 100) (by decide +kernel)) (by decide +kernel)) TT_0)))⟩
abbrev i_X1_write : Ym := (yX1_write, cX1_write, 7, none, 4)
theorem j_X1_write : JV i_X1_write 3 := ⟨⟨by decide +kernel, by decide +kernel, by decide +kernel⟩, TT_2 (TT_t2 (List.mem_of_getElem? (i := 102) (by decide +kernel)) (by decide +kernel)) (TT_2 (TT_t2 (List.mem_of_getElem? (i := 103) (by decide +kernel)) (by decide +kernel)) (TT_2 in_X1 (TT_2 (TT_t2 (List.mem_of_getElem? (i := 104) (by decide +kernel)) (by decide +kernel)) TT_0)))⟩
abbrev i_X1_lowestNearer : Ym := (yX1_lowestNearer, cX1_lowestNearer, 4, (some .int), 3)
theorem j_X1_lowestNearer : JV i_X1_lowestNearer 2 := ⟨⟨by decide +kernel, by decide +kernel, by decide +kernel⟩, TT_2 (TT_t2 (List.mem_of_getElem? (i := 109) (by decide +kernel)) (by decide +kernel)) (TT_2 (TT_pv (List.mem_of_getElem? (i := 12) (by decide +kernel)) (by decide +kernel)) (TT_2 in_X1 (TT_2 (TT_t2 (List.mem_of_getElem? (i := 110) (by decide +kernel)) (by decide +kernel)) TT_0)))⟩
abbrev i_X2_ofLetter : Ym := (yX2_ofLetter, cX2_ofLetter, 2, (some .int), 0)
theorem j_X2_ofLetter : JS i_X2_ofLetter 1 := ⟨⟨by decide +kernel, by decide +kernel, by decide +kernel⟩, TT_2 (TT_t1 (List.mem_of_getElem? (i := 16) (by decide +kernel)) (by decide +kernel)) (TT_2 in_X2 (TT_2 (TT_t1 (List.mem_of_getElem? (i := 17) (by decide +kernel)) (by decide +kernel)) TT_0))⟩
abbrev i_X2_parentOf : Ym := (yX2_parentOf, cX2_parentOf, 1, (some .int), 0)
theorem j_X2_parentOf : JS i_X2_parentOf 1 := ⟨⟨by decide +kernel, by decide +kernel, by decide +kernel⟩, TT_2 (TT_t1 (List.mem_of_getElem? (i := 105) (by decide +kernel)) (by decide +kernel)) (TT_2 in_X2 (TT_2 (TT_t1 (List.mem_of_getElem? (i := 106) (by decide +kernel)) (by decide +kernel)) TT_0))⟩
abbrev i_X2_isOf : Ym := (yX2_isOf, cX2_isOf, 2, (some .boolean), 1)
theorem j_X2_isOf : JS i_X2_isOf 2 := ⟨⟨by decide +kernel, by decide +kernel, by decide +kernel⟩, TT_2 (TT_t1 (List.mem_of_getElem? (i := 102) (by decide +kernel)) (by decide +kernel)) (TT_2 in_X2 (TT_2 (TT_t1 (List.mem_of_getElem? (i := 103) (by decide +kernel)) (by decide +kernel)) TT_0))⟩
abbrev i_X2_glow : Ym := (yX2_glow, cX2_glow, 5, (some .int), 1)
theorem j_X2_glow : JS i_X2_glow 3 := ⟨⟨by decide +kernel, by decide +kernel, by decide +kernel⟩, TT_2 (TT_t1 (List.mem_of_getElem? (i := 92) (by decide +kernel)) (by decide +kernel)) (TT_2 in_X2 (TT_2 (TT_t1 (List.mem_of_getElem? (i := 93) (by decide +kernel)) (by decide +kernel)) TT_0))⟩
abbrev i_X2_signOf : Ym := (yX2_signOf, cX2_signOf, 5, (some .int), 2)
theorem j_X2_signOf : JS i_X2_signOf 4 := ⟨⟨by decide +kernel, by decide +kernel, by decide +kernel⟩, TT_2 (TT_t1 (List.mem_of_getElem? (i := 113) (by decide +kernel)) (by decide +kernel)) (TT_2 in_X2 (TT_2 (TT_t1 (List.mem_of_getElem? (i := 114) (by decide +kernel)) (by decide +kernel)) TT_0))⟩
abbrev i_X3_arePairs : Ym := (yX3_arePairs, cX3_arePairs, 2, (some .boolean), 2)
theorem j_X3_arePairs : JS i_X3_arePairs 1 := ⟨⟨by decide +kernel, by decide +kernel, by decide +kernel⟩, TT_2 (TT_t2 (List.mem_of_getElem? (i := 141) (by decide +kernel)) (by decide +kernel)) (TT_2 in_X3 (TT_2 (TT_t2 (List.mem_of_getElem? (i := 142) (by decide +kernel)) (by decide +kernel)) TT_0))⟩
abbrev i_X3_areTold : Ym := (yX3_areTold, cX3_areTold, 2, (some .boolean), 2)
theorem j_X3_areTold : JS i_X3_areTold 1 := ⟨⟨by decide +kernel, by decide +kernel, by decide +kernel⟩, TT_2 (TT_t2 (List.mem_of_getElem? (i := 179) (by decide +kernel)) (by decide +kernel)) (TT_2 in_X3 (TT_2 (TT_t2 (List.mem_of_getElem? (i := 180) (by decide +kernel)) (by decide +kernel)) TT_0))⟩
abbrev i_X3_fit : Ym := (yX3_fit, cX3_fit, 4, (some .boolean), 2)
theorem j_X3_fit : JS i_X3_fit 3 := ⟨⟨by decide +kernel, by decide +kernel, by decide +kernel⟩, TT_2 (TT_t2 (List.mem_of_getElem? (i := 149) (by decide +kernel)) (by decide +kernel)) (TT_2 in_X3 (TT_2 (TT_t2 (List.mem_of_getElem? (i := 150) (by decide +kernel)) (by decide +kernel)) TT_0))⟩
abbrev i_X3_fittingFirsts : Ym := (yX3_fittingFirsts, cX3_fittingFirsts, 4, (some .int), 3)
theorem j_X3_fittingFirsts : JS i_X3_fittingFirsts 2 := ⟨⟨by decide +kernel, by decide +kernel, by decide +kernel⟩, TT_2 (TT_t2 (List.mem_of_getElem? (i := 146) (by decide +kernel)) (by decide +kernel)) (TT_2 in_X3 (TT_2 (TT_t2 (List.mem_of_getElem? (i := 147) (by decide +kernel)) (by decide +kernel)) TT_0))⟩
abbrev i_X3_fittingKinds : Ym := (yX3_fittingKinds, cX3_fittingKinds, 4, (some .int), 3)
theorem j_X3_fittingKinds : JS i_X3_fittingKinds 2 := ⟨⟨by decide +kernel, by decide +kernel, by decide +kernel⟩, TT_2 (TT_t2 (List.mem_of_getElem? (i := 157) (by decide +kernel)) (by decide +kernel)) (TT_2 in_X3 (TT_2 (TT_t2 (List.mem_of_getElem? (i := 158) (by decide +kernel)) (by decide +kernel)) TT_0))⟩
abbrev i_X3_tellingNight : Ym := (yX3_tellingNight, cX3_tellingNight, 6, (some .int), 4)
theorem j_X3_tellingNight : JS i_X3_tellingNight 2 := ⟨⟨by decide +kernel, by decide +kernel, by decide +kernel⟩, TT_2 (TT_t2 (List.mem_of_getElem? (i := 164) (by decide +kernel)) (by decide +kernel)) (TT_2 in_X3 (TT_2 (TT_t2 (List.mem_of_getElem? (i := 165) (by decide +kernel)) (by decide +kernel)) TT_0))⟩
abbrev i_X3_largestPart : Ym := (yX3_largestPart, cX3_largestPart, 5, (some .int), 3)
theorem j_X3_largestPart : JS i_X3_largestPart 3 := ⟨⟨by decide +kernel, by decide +kernel, by decide +kernel⟩, TT_2 (TT_t2 (List.mem_of_getElem? (i := 167) (by decide +kernel)) (by decide +kernel)) (TT_2 in_X3 (TT_2 (TT_t2 (List.mem_of_getElem? (i := 168) (by decide +kernel)) (by decide +kernel)) TT_0))⟩
abbrev i_X3_howManyGlow : Ym := (yX3_howManyGlow, cX3_howManyGlow, 6, (some .int), 2)
theorem j_X3_howManyGlow : JS i_X3_howManyGlow 4 := ⟨⟨by decide +kernel, by decide +kernel, by decide +kernel⟩, TT_2 (TT_t2 (List.mem_of_getElem? (i := 170) (by decide +kernel)) (by decide +kernel)) (TT_2 in_X3 (TT_2 (TT_t2 (List.mem_of_getElem? (i := 171) (by decide +kernel)) (by decide +kernel)) TT_0))⟩
abbrev i_X3_fittingOwers : Ym := (yX3_fittingOwers, cX3_fittingOwers, 5, (some .int), 5)
theorem j_X3_fittingOwers : JS i_X3_fittingOwers 3 := ⟨⟨by decide +kernel, by decide +kernel, by decide +kernel⟩, TT_2 (TT_t2 (List.mem_of_getElem? (i := 182) (by decide +kernel)) (by decide +kernel)) (TT_2 in_X3 (TT_2 (TT_t2 (List.mem_of_getElem? (i := 183) (by decide +kernel)) (by decide +kernel)) TT_0))⟩
abbrev i_X3_fitsOwer : Ym := (yX3_fitsOwer, cX3_fitsOwer, 7, (some .boolean), 4)
theorem j_X3_fitsOwer : JS i_X3_fitsOwer 4 := ⟨⟨by decide +kernel, by decide +kernel, by decide +kernel⟩, TT_2 (TT_t2 (List.mem_of_getElem? (i := 186) (by decide +kernel)) (by decide +kernel)) (TT_2 in_X3 (TT_2 (TT_t2 (List.mem_of_getElem? (i := 187) (by decide +kernel)) (by decide +kernel)) TT_0))⟩
abbrev i_X4_setsOf : Ym := (yX4_setsOf, cX4_setsOf, 1, (some .int), 1)
theorem j_X4_setsOf : JS i_X4_setsOf 1 := ⟨⟨by decide +kernel, by decide +kernel, by decide +kernel⟩, TT_2 (TT_t2 (List.mem_of_getElem? (i := 54) (by decide +kernel)) (by decide +kernel)) (TT_2 in_X4 (TT_2 (TT_t2 (List.mem_of_getElem? (i := 55) (by decide +kernel)) (by decide +kernel)) TT_0))⟩
abbrev i_X4_isWithin : Ym := (yX4_isWithin, cX4_isWithin, 2, (some .boolean), 0)
theorem j_X4_isWithin : JS i_X4_isWithin 2 := ⟨⟨by decide +kernel, by decide +kernel, by decide +kernel⟩, TT_2 (TT_t2 (List.mem_of_getElem? (i := 59) (by decide +kernel)) (by decide +kernel)) (TT_2 in_X4 (TT_2 (TT_t2 (List.mem_of_getElem? (i := 60) (by decide +kernel)) (by decide +kernel)) TT_0))⟩
abbrev i_X4_sumUp : Ym := (yX4_sumUp, cX4_sumUp, 4, none, 0)
theorem j_X4_sumUp : JV i_X4_sumUp 0 := ⟨⟨by decide +kernel, by decide +kernel, by decide +kernel⟩, TT_2 (TT_t2 (List.mem_of_getElem? (i := 51) (by decide +kernel)) (by decide +kernel)) (TT_2 (TT_pv (List.mem_of_getElem? (i := 10) (by decide +kernel)) (by decide +kernel)) (TT_2 in_X4 (TT_2 (TT_t2 (List.mem_of_getElem? (i := 52) (by decide +kernel)) (by decide +kernel)) TT_0)))⟩
abbrev i_X4_sumGlow : Ym := (yX4_sumGlow, cX4_sumGlow, 4, none, 4)
theorem j_X4_sumGlow : JV i_X4_sumGlow 2 := ⟨⟨by decide +kernel, by decide +kernel, by decide +kernel⟩, TT_2 (TT_t2 (List.mem_of_getElem? (i := 122) (by decide +kernel)) (by decide +kernel)) (TT_2 (TT_pv (List.mem_of_getElem? (i := 13) (by decide +kernel)) (by decide +kernel)) (TT_2 in_X4 (TT_2 (TT_t2 (List.mem_of_getElem? (i := 123) (by decide +kernel)) (by decide +kernel)) TT_0)))⟩
abbrev i_X4_sumDebts : Ym := (yX4_sumDebts, cX4_sumDebts, 4, (some .int), 3)
theorem j_X4_sumDebts : JV i_X4_sumDebts 1 := ⟨⟨by decide +kernel, by decide +kernel, by decide +kernel⟩, TT_2 (TT_t2 (List.mem_of_getElem? (i := 44) (by decide +kernel)) (by decide +kernel)) (TT_2 (TT_pv (List.mem_of_getElem? (i := 9) (by decide +kernel)) (by decide +kernel)) (TT_2 in_X4 (TT_2 (TT_t2 (List.mem_of_getElem? (i := 45) (by decide +kernel)) (by decide +kernel)) TT_0)))⟩
abbrev i_X4_largestRing : Ym := (yX4_largestRing, cX4_largestRing, 5, (some .int), 4)
theorem j_X4_largestRing : JV i_X4_largestRing 1 := ⟨⟨by decide +kernel, by decide +kernel, by decide +kernel⟩, TT_2 (TT_t2 (List.mem_of_getElem? (i := 39) (by decide +kernel)) (by decide +kernel)) (TT_2 (TT_t2 (List.mem_of_getElem? (i := 40) (by decide +kernel)) (by decide +kernel)) (TT_2 in_X4 (TT_2 (TT_t2 (List.mem_of_getElem? (i := 41) (by decide +kernel)) (by decide +kernel)) TT_0)))⟩
abbrev i_X4_ringsWith : Ym := (yX4_ringsWith, cX4_ringsWith, 6, (some .int), 4)
theorem j_X4_ringsWith : JV i_X4_ringsWith 2 := ⟨⟨by decide +kernel, by decide +kernel, by decide +kernel⟩, TT_2 (TT_t2 (List.mem_of_getElem? (i := 73) (by decide +kernel)) (by decide +kernel)) (TT_2 (TT_t2 (List.mem_of_getElem? (i := 74) (by decide +kernel)) (by decide +kernel)) (TT_2 in_X4 (TT_2 (TT_t2 (List.mem_of_getElem? (i := 75) (by decide +kernel)) (by decide +kernel)) TT_0)))⟩
abbrev i_X4_smallestRingWith : Ym := (yX4_smallestRingWith, cX4_smallestRingWith, 7, (some .int), 4)
theorem j_X4_smallestRingWith : JV i_X4_smallestRingWith 2 := ⟨⟨by decide +kernel, by decide +kernel, by decide +kernel⟩, TT_2 (TT_t2 (List.mem_of_getElem? (i := 81) (by decide +kernel)) (by decide +kernel)) (TT_2 (TT_t2 (List.mem_of_getElem? (i := 82) (by decide +kernel)) (by decide +kernel)) (TT_2 in_X4 (TT_2 (TT_t2 (List.mem_of_getElem? (i := 83) (by decide +kernel)) (by decide +kernel)) TT_0)))⟩
abbrev i_X4_fewestToAnswer : Ym := (yX4_fewestToAnswer, cX4_fewestToAnswer, 9, (some .int), 5)
theorem j_X4_fewestToAnswer : JV i_X4_fewestToAnswer 3 := ⟨⟨by decide +kernel, by decide +kernel, by decide +kernel⟩, TT_2 (TT_t2 (List.mem_of_getElem? (i := 117) (by decide +kernel)) (by decide +kernel)) (TT_2 (TT_t2 (List.mem_of_getElem? (i := 118) (by decide +kernel)) (by decide +kernel)) (TT_2 in_X4 (TT_2 (TT_t2 (List.mem_of_getElem? (i := 119) (by decide +kernel)) (by decide +kernel)) TT_0)))⟩
abbrev i_X4_afterTurns : Ym := (yX4_afterTurns, cX4_afterTurns, 7, (some .int), 5)
theorem j_X4_afterTurns : JV i_X4_afterTurns 3 := ⟨⟨by decide +kernel, by decide +kernel, by decide +kernel⟩, TT_2 (TT_t2 (List.mem_of_getElem? (i := 196) (by decide +kernel)) (by decide +kernel)) (TT_2 (TT_t2 (List.mem_of_getElem? (i := 197) (by decide +kernel)) (by decide +kernel)) (TT_2 in_X4 (TT_2 (TT_t2 (List.mem_of_getElem? (i := 198) (by decide +kernel)) (by decide +kernel)) TT_0)))⟩
abbrev i_X4_letOneAnswer : Ym := (yX4_letOneAnswer, cX4_letOneAnswer, 6, none, 1)
theorem j_X4_letOneAnswer : JV i_X4_letOneAnswer 3 := ⟨⟨by decide +kernel, by decide +kernel, by decide +kernel⟩, TT_2 (TT_t2 (List.mem_of_getElem? (i := 201) (by decide +kernel)) (by decide +kernel)) (TT_2 (TT_pv (List.mem_of_getElem? (i := 15) (by decide +kernel)) (by decide +kernel)) (TT_2 in_X4 (TT_2 (TT_t2 (List.mem_of_getElem? (i := 202) (by decide +kernel)) (by decide +kernel)) TT_0)))⟩
abbrev i_X4_letOneLight : Ym := (yX4_letOneLight, cX4_letOneLight, 6, none, 1)
theorem j_X4_letOneLight : JV i_X4_letOneLight 3 := ⟨⟨by decide +kernel, by decide +kernel, by decide +kernel⟩, TT_2 (TT_t2 (List.mem_of_getElem? (i := 205) (by decide +kernel)) (by decide +kernel)) (TT_2 (TT_pv (List.mem_of_getElem? (i := 16) (by decide +kernel)) (by decide +kernel)) (TT_2 in_X4 (TT_2 (TT_t2 (List.mem_of_getElem? (i := 206) (by decide +kernel)) (by decide +kernel)) TT_0)))⟩
abbrev i_X4_waysToBeDark : Ym := (yX4_waysToBeDark, cX4_waysToBeDark, 10, (some .long), 5)
theorem j_X4_waysToBeDark : JV i_X4_waysToBeDark 4 := ⟨⟨by decide +kernel, by decide +kernel, by decide +kernel⟩, TT_2 (TT_t2 (List.mem_of_getElem? (i := 213) (by decide +kernel)) (by decide +kernel)) (TT_2 (TT_t2 (List.mem_of_getElem? (i := 214) (by decide +kernel)) (by decide +kernel)) (TT_2 in_X4 (TT_2 (TT_t2 (List.mem_of_getElem? (i := 215) (by decide +kernel)) (by decide +kernel)) TT_0)))⟩
abbrev i_X4_power : Ym := (yX4_power, cX4_power, 5, (some .long), 0)
theorem j_X4_power : JS i_X4_power 2 := ⟨⟨by decide +kernel, by decide +kernel, by decide +kernel⟩, TT_2 (TT_t2 (List.mem_of_getElem? (i := 217) (by decide +kernel)) (by decide +kernel)) (TT_2 in_X4 (TT_2 (TT_t2 (List.mem_of_getElem? (i := 218) (by decide +kernel)) (by decide +kernel)) TT_0))⟩
abbrev i_X5_room : Ym := (yX5_room, cX5_room, 1, (some .int), 0)
theorem j_X5_room : JV i_X5_room 0 := ⟨⟨by decide +kernel, by decide +kernel, by decide +kernel⟩, TT_2 (TT_t0 (List.mem_of_getElem? (i := 148) (by decide +kernel)) (by decide +kernel)) (TT_2 (TT_t0 (List.mem_of_getElem? (i := 149) (by decide +kernel)) (by decide +kernel)) (TT_2 in_X5 (TT_2 (TT_t0 (List.mem_of_getElem? (i := 150) (by decide +kernel)) (by decide +kernel)) TT_0)))⟩
abbrev i_X5_size : Ym := (yX5_size, cX5_size, 1, (some .int), 0)
theorem j_X5_size : JV i_X5_size 0 := ⟨⟨by decide +kernel, by decide +kernel, by decide +kernel⟩, TT_2 (TT_t0 (List.mem_of_getElem? (i := 224) (by decide +kernel)) (by decide +kernel)) (TT_2 (TT_t0 (List.mem_of_getElem? (i := 225) (by decide +kernel)) (by decide +kernel)) (TT_2 in_X5 (TT_2 (TT_t0 (List.mem_of_getElem? (i := 226) (by decide +kernel)) (by decide +kernel)) TT_0)))⟩
abbrev i_X5_isMissing : Ym := (yX5_isMissing, cX5_isMissing, 1, (some .boolean), 0)
theorem j_X5_isMissing : JV i_X5_isMissing 0 := ⟨⟨by decide +kernel, by decide +kernel, by decide +kernel⟩, TT_2 (TT_t0 (List.mem_of_getElem? (i := 175) (by decide +kernel)) (by decide +kernel)) (TT_2 (TT_t0 (List.mem_of_getElem? (i := 176) (by decide +kernel)) (by decide +kernel)) (TT_2 in_X5 (TT_2 (TT_t0 (List.mem_of_getElem? (i := 177) (by decide +kernel)) (by decide +kernel)) TT_0)))⟩
abbrev i_X5_remove : Ym := (yX5_remove, cX5_remove, 1, none, 0)
theorem j_X5_remove : JV i_X5_remove 0 := ⟨⟨by decide +kernel, by decide +kernel, by decide +kernel⟩, TT_2 (TT_t0 (List.mem_of_getElem? (i := 200) (by decide +kernel)) (by decide +kernel)) (TT_2 (TT_t0 (List.mem_of_getElem? (i := 201) (by decide +kernel)) (by decide +kernel)) (TT_2 in_X5 (TT_2 (TT_t0 (List.mem_of_getElem? (i := 202) (by decide +kernel)) (by decide +kernel)) TT_0)))⟩
abbrev i_X5_renew : Ym := (yX5_renew, cX5_renew, 4, none, 1)
theorem j_X5_renew : JV i_X5_renew 2 := ⟨⟨by decide +kernel, by decide +kernel, by decide +kernel⟩, TT_2 (TT_t0 (List.mem_of_getElem? (i := 156) (by decide +kernel)) (by decide +kernel)) (TT_2 (TT_t0 (List.mem_of_getElem? (i := 157) (by decide +kernel)) (by decide +kernel)) (TT_2 in_X5 (TT_2 (TT_t0 (List.mem_of_getElem? (i := 158) (by decide +kernel)) (by decide +kernel)) TT_0)))⟩
abbrev i_X5_holds : Ym := (yX5_holds, cX5_holds, 2, (some .boolean), 0)
theorem j_X5_holds : JV i_X5_holds 1 := ⟨⟨by decide +kernel, by decide +kernel, by decide +kernel⟩, TT_2 (TT_t0 (List.mem_of_getElem? (i := 179) (by decide +kernel)) (by decide +kernel)) (TT_2 (TT_t0 (List.mem_of_getElem? (i := 180) (by decide +kernel)) (by decide +kernel)) (TT_2 in_X5 (TT_2 (TT_t0 (List.mem_of_getElem? (i := 181) (by decide +kernel)) (by decide +kernel)) TT_0)))⟩
abbrev i_X5_get : Ym := (yX5_get, cX5_get, 2, (some .int), 1)
theorem j_X5_get : JV i_X5_get 1 := ⟨⟨by decide +kernel, by decide +kernel, by decide +kernel⟩, TT_2 (TT_t0 (List.mem_of_getElem? (i := 183) (by decide +kernel)) (by decide +kernel)) (TT_2 (TT_t0 (List.mem_of_getElem? (i := 184) (by decide +kernel)) (by decide +kernel)) (TT_2 in_X5 (TT_2 (TT_t0 (List.mem_of_getElem? (i := 185) (by decide +kernel)) (by decide +kernel)) TT_0)))⟩
abbrev i_X5_set : Ym := (yX5_set, cX5_set, 3, none, 1)
theorem j_X5_set : JV i_X5_set 2 := ⟨⟨by decide +kernel, by decide +kernel, by decide +kernel⟩, TT_2 (TT_t0 (List.mem_of_getElem? (i := 188) (by decide +kernel)) (by decide +kernel)) (TT_2 (TT_t0 (List.mem_of_getElem? (i := 189) (by decide +kernel)) (by decide +kernel)) (TT_2 in_X5 (TT_2 (TT_t0 (List.mem_of_getElem? (i := 190) (by decide +kernel)) (by decide +kernel)) TT_0)))⟩
abbrev i_X5_holdsRun : Ym := (yX5_holdsRun, cX5_holdsRun, 3, (some .boolean), 0)
theorem j_X5_holdsRun : JV i_X5_holdsRun 2 := ⟨⟨by decide +kernel, by decide +kernel, by decide +kernel⟩, TT_2 (TT_t0 (List.mem_of_getElem? (i := 208) (by decide +kernel)) (by decide +kernel)) (TT_2 (TT_t0 (List.mem_of_getElem? (i := 209) (by decide +kernel)) (by decide +kernel)) (TT_2 in_X5 (TT_2 (TT_t0 (List.mem_of_getElem? (i := 210) (by decide +kernel)) (by decide +kernel)) TT_0)))⟩
abbrev i_X5_takeRun : Ym := (yX5_takeRun, cX5_takeRun, 5, none, 1)
theorem j_X5_takeRun : JV i_X5_takeRun 4 := ⟨⟨by decide +kernel, by decide +kernel, by decide +kernel⟩, TT_2 (TT_t0 (List.mem_of_getElem? (i := 212) (by decide +kernel)) (by decide +kernel)) (TT_2 (TT_t0 (List.mem_of_getElem? (i := 213) (by decide +kernel)) (by decide +kernel)) (TT_2 in_X5 (TT_2 (TT_t0 (List.mem_of_getElem? (i := 214) (by decide +kernel)) (by decide +kernel)) TT_0)))⟩
abbrev i_X5_total : Ym := (yX5_total, cX5_total, 4, (some .long), 0)
theorem j_X5_total : JV i_X5_total 0 := ⟨⟨by decide +kernel, by decide +kernel, by decide +kernel⟩, TT_2 (TT_t0 (List.mem_of_getElem? (i := 228) (by decide +kernel)) (by decide +kernel)) (TT_2 (TT_t0 (List.mem_of_getElem? (i := 229) (by decide +kernel)) (by decide +kernel)) (TT_2 in_X5 (TT_2 (TT_t0 (List.mem_of_getElem? (i := 230) (by decide +kernel)) (by decide +kernel)) TT_0)))⟩
abbrev i_X6_darkest : Ym := (yX6_darkest, cX6_darkest, 7, (some .int), 5)
theorem j_X6_darkest : JS i_X6_darkest 1 := ⟨⟨by decide +kernel, by decide +kernel, by decide +kernel⟩, TT_2 (TT_t2 (List.mem_of_getElem? (i := 7) (by decide +kernel)) (by decide +kernel)) (TT_2 in_X6 (TT_2 (TT_t2 (List.mem_of_getElem? (i := 8) (by decide +kernel)) (by decide +kernel)) TT_0))⟩
abbrev i_X6_brightness : Ym := (yX6_brightness, cX6_brightness, 1, (some .int), 0)
theorem j_X6_brightness : JS i_X6_brightness 1 := ⟨⟨by decide +kernel, by decide +kernel, by decide +kernel⟩, TT_2 (TT_t2 (List.mem_of_getElem? (i := 16) (by decide +kernel)) (by decide +kernel)) (TT_2 in_X6 (TT_2 (TT_t2 (List.mem_of_getElem? (i := 17) (by decide +kernel)) (by decide +kernel)) TT_0))⟩
abbrev i_X6_placesOnRoad : Ym := (yX6_placesOnRoad, cX6_placesOnRoad, 1, (some .int), 0)
theorem j_X6_placesOnRoad : JS i_X6_placesOnRoad 1 := ⟨⟨by decide +kernel, by decide +kernel, by decide +kernel⟩, TT_2 (TT_t2 (List.mem_of_getElem? (i := 13) (by decide +kernel)) (by decide +kernel)) (TT_2 in_X6 (TT_2 (TT_t2 (List.mem_of_getElem? (i := 14) (by decide +kernel)) (by decide +kernel)) TT_0))⟩
abbrev i_X7_firstFault : Ym := (yX7_firstFault, cX7_firstFault, 4, (some .int), 5)
theorem j_X7_firstFault : JS i_X7_firstFault 1 := ⟨⟨by decide +kernel, by decide +kernel, by decide +kernel⟩, TT_2 (TT_t1 (List.mem_of_getElem? (i := 8) (by decide +kernel)) (by decide +kernel)) (TT_2 in_X7 (TT_2 (TT_t1 (List.mem_of_getElem? (i := 9) (by decide +kernel)) (by decide +kernel)) TT_0))⟩
abbrev i_X7_itemFault : Ym := (yX7_itemFault, cX7_itemFault, 3, (some .int), 4)
theorem j_X7_itemFault : JS i_X7_itemFault 2 := ⟨⟨by decide +kernel, by decide +kernel, by decide +kernel⟩, TT_2 (TT_t1 (List.mem_of_getElem? (i := 13) (by decide +kernel)) (by decide +kernel)) (TT_2 in_X7 (TT_2 (TT_t1 (List.mem_of_getElem? (i := 14) (by decide +kernel)) (by decide +kernel)) TT_0))⟩
abbrev i_X7_isFigureOf : Ym := (yX7_isFigureOf, cX7_isFigureOf, 6, (some .boolean), 3)
theorem j_X7_isFigureOf : JS i_X7_isFigureOf 3 := ⟨⟨by decide +kernel, by decide +kernel, by decide +kernel⟩, TT_2 (TT_t1 (List.mem_of_getElem? (i := 21) (by decide +kernel)) (by decide +kernel)) (TT_2 in_X7 (TT_2 (TT_t1 (List.mem_of_getElem? (i := 22) (by decide +kernel)) (by decide +kernel)) TT_0))⟩
abbrev i_X7_figureAt : Ym := (yX7_figureAt, cX7_figureAt, 2, (some .int), 2)
theorem j_X7_figureAt : JS i_X7_figureAt 2 := ⟨⟨by decide +kernel, by decide +kernel, by decide +kernel⟩, TT_2 (TT_t1 (List.mem_of_getElem? (i := 24) (by decide +kernel)) (by decide +kernel)) (TT_2 in_X7 (TT_2 (TT_t1 (List.mem_of_getElem? (i := 25) (by decide +kernel)) (by decide +kernel)) TT_0))⟩
abbrev i_X7_readInto : Ym := (yX7_readInto, cX7_readInto, 3, none, 3)
theorem j_X7_readInto : JS i_X7_readInto 2 := ⟨⟨by decide +kernel, by decide +kernel, by decide +kernel⟩, TT_2 (TT_t1 (List.mem_of_getElem? (i := 31) (by decide +kernel)) (by decide +kernel)) (TT_2 in_X7 (TT_2 (TT_t1 (List.mem_of_getElem? (i := 32) (by decide +kernel)) (by decide +kernel)) TT_0))⟩
abbrev i_J6_bitCount : Ym := (yJ6_bitCount_0f7a4, cJ6_bitCount_0f7a4, 1, some .int, 0)
theorem j_J6_bitCount : JS i_J6_bitCount 1 := ⟨⟨by decide +kernel, by decide +kernel, by decide +kernel⟩, TT_2 (TT_t2 (List.mem_of_getElem? (i := 62) (by decide +kernel)) (by decide +kernel)) (TT_2 in_J6 (TT_2 (TT_t2 (List.mem_of_getElem? (i := 63) (by decide +kernel)) (by decide +kernel)) TT_0))⟩
theorem lw_max_s : Cond.static Lib.Math.max.name ∈ TT := TT_t0 (List.mem_of_getElem? (i := 92) (by decide +kernel)) (by decide +kernel)
theorem lw_max_c : Cond.code Lib.Math.max.name Lib.Math.max.code 2 (some .int) ∈ TT := TT_t0 (List.mem_of_getElem? (i := 93) (by decide +kernel)) (by decide +kernel)
theorem lw_min_s : Cond.static Lib.Math.min.name ∈ TT := TT_t0 (List.mem_of_getElem? (i := 160) (by decide +kernel)) (by decide +kernel)
theorem lw_min_c : Cond.code Lib.Math.min.name Lib.Math.min.code 2 (some .int) ∈ TT := TT_t0 (List.mem_of_getElem? (i := 161) (by decide +kernel)) (by decide +kernel)
theorem lw_abs_s : Cond.static Lib.Math.abs.name ∈ TT := TT_t1 (List.mem_of_getElem? (i := 211) (by decide +kernel)) (by decide +kernel)
theorem lw_abs_c : Cond.code Lib.Math.abs.name Lib.Math.abs.code 1 (some .int) ∈ TT := TT_t1 (List.mem_of_getElem? (i := 212) (by decide +kernel)) (by decide +kernel)
theorem lw_copy_n : Cond.native arraycopyName ∈ TT := TT_t0 (List.mem_of_getElem? (i := 218) (by decide +kernel)) (by decide +kernel)
theorem lw_copy_s : Cond.static arraycopyName ∈ TT := TT_t0 (List.mem_of_getElem? (i := 217) (by decide +kernel)) (by decide +kernel)
end
section
/-! THE MACHINE LAYER: a state St (numbers by cell and field, longs, rows), its world wd, contracts CT, the judgement G at a point of a method's walk, a rule an instruction. -/
abbrev St : Type := (Nat → Nat → Int32) × (Nat → Nat → Int64) × (Nat → Nat → Int32)
def gI (S : St) (k j : Nat) : Int32 := S.1 k j
def gL (S : St) (k j : Nat) : Int64 := S.2.1 k j
def gA (S : St) (k : Nat) : Nat → Int32 := S.2.2 k
def sI (S : St) (k j : Nat) (v : Int32) : St := (fun a b => if a = k ∧ b = j then v else S.1 a b, S.2.1, S.2.2)
def sL (S : St) (k j : Nat) (v : Int64) : St := (S.1, fun a b => if a = k ∧ b = j then v else S.2.1 a b, S.2.2)
def sA (S : St) (k : Nat) (f : Nat → Int32) : St := (S.1, S.2.1, fun a => if a = k then f else S.2.2 a)
theorem gI_sI (S : St) (k j : Nat) (v : Int32) (a b : Nat) : gI (sI S k j v) a b = if a = k ∧ b = j then v else gI S a b := rfl
theorem gI_sL (S : St) (k j : Nat) (v : Int64) (a b : Nat) : gI (sL S k j v) a b = gI S a b := rfl
theorem gI_sA (S : St) (k : Nat) (f : Nat → Int32) (a b : Nat) : gI (sA S k f) a b = gI S a b := rfl
theorem gL_sI (S : St) (k j : Nat) (v : Int32) (a b : Nat) : gL (sI S k j v) a b = gL S a b := rfl
theorem gL_sL (S : St) (k j : Nat) (v : Int64) (a b : Nat) : gL (sL S k j v) a b = if a = k ∧ b = j then v else gL S a b := rfl
theorem gL_sA (S : St) (k : Nat) (f : Nat → Int32) (a b : Nat) : gL (sA S k f) a b = gL S a b := rfl
theorem gA_sI (S : St) (k j : Nat) (v : Int32) (a : Nat) : gA (sI S k j v) a = gA S a := rfl
theorem gA_sL (S : St) (k j : Nat) (v : Int64) (a : Nat) : gA (sL S k j v) a = gA S a := rfl
theorem gA_sA (S : St) (k : Nat) (f : Nat → Int32) (a : Nat) : gA (sA S k f) a = if a = k then f else gA S a := rfl
theorem gA_same (S : St) (k : Nat) (f : Nat → Int32) : gA (sA S k f) k = f := by rw [gA_sA, if_pos rfl]
theorem gI_same (S : St) (k j : Nat) (v : Int32) : gI (sI S k j v) k j = v := by rw [gI_sI, if_pos ⟨rfl, rfl⟩]
theorem gL_same (S : St) (k j : Nat) (v : Int64) : gL (sL S k j v) k j = v := by rw [gL_sL, if_pos ⟨rfl, rfl⟩]
theorem gA_ne {S : St} {k : Nat} {f : Nat → Int32} {a : Nat} (h : a ≠ k) : gA (sA S k f) a = gA S a := by rw [gA_sA, if_neg h]
theorem gI_ne {S : St} {k j : Nat} {v : Int32} {a b : Nat} (h : ¬ (a = k ∧ b = j)) : gI (sI S k j v) a b = gI S a b := by rw [gI_sI, if_neg h]
theorem st_ext {S T : St} (h1 : ∀ a b, gI S a b = gI T a b) (h2 : ∀ a b, gL S a b = gL T a b) (h3 : ∀ a i, gA S a i = gA T a i) : S = T := by
  obtain ⟨a, b, c⟩ := S
  obtain ⟨a2, b2, c2⟩ := T
  have e1 : a = a2 := funext fun x => funext fun y => h1 x y
  have e2 : b = b2 := funext fun x => funext fun y => h2 x y
  have e3 : c = c2 := funext fun x => funext fun y => h3 x y
  rw [e1, e2, e3]
theorem sA_sA (S : St) (k : Nat) (f g : Nat → Int32) : sA (sA S k f) k g = sA S k g := by
  refine st_ext (fun _ _ => rfl) (fun _ _ => rfl) (fun a i => ?_)
  rw [gA_sA, gA_sA, gA_sA]
  by_cases h : a = k <;> simp [h]
theorem sI_sI (S : St) (k j : Nat) (v u : Int32) : sI (sI S k j v) k j u = sI S k j u := by
  refine st_ext (fun a b => ?_) (fun _ _ => rfl) (fun _ _ => rfl)
  rw [gI_sI, gI_sI, gI_sI]
  by_cases h : a = k ∧ b = j <;> simp [h]
theorem sA_self (S : St) (k : Nat) : sA S k (gA S k) = S := by
  refine st_ext (fun _ _ => rfl) (fun _ _ => rfl) (fun a i => ?_)
  rw [gA_sA]
  by_cases h : a = k <;> simp [h]
theorem sI_self (S : St) (k j : Nat) : sI S k j (gI S k j) = S := by
  refine st_ext (fun a b => ?_) (fun _ _ => rfl) (fun _ _ => rfl)
  rw [gI_sI]
  by_cases h : a = k ∧ b = j
  · rw [if_pos h, h.1, h.2]
  · rw [if_neg h]
/-- the launch, the tables' numbers, the addresses of the cells 0 .. 71, the classes of rows of ints, of Banks, of Strips, the letters' address -/
abbrev En : Type := Launch × va_G × (Nat → Nat) × Nat × Nat × Nat × Nat
abbrev eN (E : En) : Launch := E.1
abbrev eD (E : En) : va_G := E.2.1
abbrev eA (E : En) (k : Nat) : Nat := E.2.2.1 k
abbrev eI (E : En) : ClassId := E.2.2.2.1
abbrev eB (E : En) : ClassId := E.2.2.2.2.1
abbrev eS (E : En) : ClassId := E.2.2.2.2.2.1
abbrev eT (E : En) : Nat := E.2.2.2.2.2.2
/-- which kind a cell is: 0 Bank, 1 Chains, 2 Sets, 3 Strip, 4 GlowDebts, 5 the reference, 6 ints, 7 Banks, 8 Strips -/
def kd (k : Nat) : Nat := [4, 8, 8, 7, 6, 2, 6, 6, 1, 6, 3, 3, 3, 3, 3, 3, 3, 3, 3, 3, 6, 6, 6, 6, 6, 6, 6, 6, 6, 6, 0, 0, 0, 0, 6, 6, 6, 6, 6, 6, 6, 6, 6, 6, 6, 6, 6, 6, 6, 6, 6, 6, 6, 6, 6, 6, 6, 6, 5, 6, 6, 6, 6, 6, 6, 6, 6, 6, 6, 6, 6, 6].getD k 99
def ln (k : Nat) : Nat := [0, 6, 4, 3, 6, 0, 8, 256, 0, 6, 0, 0, 0, 0, 0, 0, 0, 0, 0, 0, 40, 40, 40, 40, 40, 40, 60, 60, 60, 60, 0, 0, 0, 0, 8, 8, 8, 8, 8, 40, 8, 8, 8, 8, 8, 40, 8, 8, 8, 8, 8, 40, 8, 8, 8, 8, 8, 40, 0, 1776, 6, 240, 4, 240, 6, 40, 40, 10, 6, 5, 5, 5].getD k 0
def cell (E : En) (S : St) (k : Nat) : va_E := match kd k with
  | 0 => .inr (0, [.ref (eA E (34 + 6 * (k - 30))), .ref (eA E (34 + 6 * (k - 30) + 1)), .ref (eA E (34 + 6 * (k - 30) + 2)), .ref (eA E (34 + 6 * (k - 30) + 3)), .ref (eA E (34 + 6 * (k - 30) + 4)), .ref (eA E (34 + 6 * (k - 30) + 5)), .int (gI S k 6), .int (gI S k 7), .int (gI S k 8), .int (gI S k 9)])
  | 1 => .inr (1, [.ref (eA E 9)])
  | 2 => .inr (2, [.ref (eA E 6), .ref (eA E 7)])
  | 3 => .inr (3, [.ref (eA E (k + 10)), .int (gI S k 1)])
  | 4 => .inr (4, [.ref (eA E 1), .ref (eA E 2), .ref (eA E 30), .ref (eA E 3), .ref (eA E 5), .ref (eA E 8), .ref (eA E 4), .int (gI S k 7), .int (gI S k 8), .long (gL S k 9), .long (gL S k 10)])
  | 5 => .inr (5, [.ref (eA E 59), .ref (eA E 60), .ref (eA E 61), .ref (eA E 62), .ref (eA E 63), .int (gI S k 5), .ref (eA E 64), .int (gI S k 7), .long (gL S k 8), .long (gL S k 9), .ref (eA E 65), .int (gI S k 11), .int (gI S k 12), .int (gI S k 13), .int (gI S k 14), .int (gI S k 15), .ref (eA E 66), .ref (eA E 67), .ref (eA E 68), .ref (eA E 69), .ref (eA E 70), .ref (eA E 71), .long (gL S k 22)])
  | 6 => .inl (eI E, ln k, .inl (gA S k))
  | 7 => .inl (eB E, 3, .inr (.inr (.inr (.inr (fun j => if j < 3 then some (eA E (31 + j)) else none)))))
  | 8 => .inl (eS E, ln k, .inr (.inr (.inr (.inr (fun j => if j < ln k then some (eA E (if k = 1 then 10 + j else 16 + j)) else none)))))
  | _ => .inr (99, [])
def wd (E : En) (S : St) : va_W := (List.range 72).map (fun k => (eA E k, cell E S k))
abbrev tysE (E : En) : List (ClassId × FieldType) := [(eI E, .int), (eB E, .object "GlowDebts$Bank"), (eS E, .object "GlowDebts$Strip")]
def AD (E : En) : Nat → Prop := fun q => ∃ k : Nat, k < 72 ∧ q = eA E k
def InjE (E : En) : Prop := ∀ i j : Nat, i < 72 → j < 72 → eA E i = eA E j → i = j
def letV (j : Nat) : Value := .int ([108, 106, 100, 102, 111, 109].getD j 0)
def Kn (E : En) (A : Nat → Prop) (U : State) : Prop := va_K (eD E) vwCl (tysE E) U ∧ va_Nw (.methodLinkNest RX1 29 yX8_isPerson "GlowDebts") U ∧ (va_Z "GlowDebts$Kinds" "LETTERS" "[I" (.ref (eT E)) A U U.heap ∧ va_T .int (eT E) 6 letV A U U.heap) ∧ InjE E
theorem wd_get {E : En} {S : St} {k : Nat} (h : k < 72) : (wd E S)[k]? = some (eA E k, cell E S k) := by simp [wd, h]
theorem wd_len (E : En) (S : St) : (wd E S).length = 72 := by simp [wd]
theorem wd_set {E : En} {S S' : St} {k : Nat} (h : k < 72) (hc : ∀ j, j < 72 → j ≠ k → cell E S' j = cell E S j) : (wd E S).set k (eA E k, cell E S' k) = wd E S' := by
  refine List.ext_getElem? fun i => ?_
  by_cases hi : i < 72
  · rw [wd_get hi]
    by_cases hk : i = k
    · subst hk
      rw [List.getElem?_set_self (by rw [wd_len]; exact h)]
    · rw [List.getElem?_set_ne (fun z => hk z.symm), wd_get hi, hc i hi hk]
  · rw [List.getElem?_eq_none (by rw [List.length_set, wd_len]; omega), List.getElem?_eq_none (by rw [wd_len]; omega)]
theorem wd_D {E : En} {S : St} {A : Nat → Prop} (hi : InjE E) (hA : ∀ k, k < 72 → A (eA E k)) : va_D A (wd E S) := by
  have key : ∀ (k : Nat) (q : Nat × va_E), (wd E S)[k]? = some q → k < 72 ∧ q.1 = eA E k := by
    intro k q hq
    have hk : k < 72 := by
      have := (List.getElem?_eq_some_iff.mp hq).1
      rwa [wd_len] at this
    rw [wd_get hk] at hq
    cases hq
    exact ⟨hk, rfl⟩
  refine ⟨fun i j p q hp hq e => ?_, fun k q hq => ?_⟩
  · obtain ⟨h1, h2⟩ := key i p hp
    obtain ⟨h3, h4⟩ := key j q hq
    exact hi i j h1 h3 (by rw [← h2, ← h4]; exact e)
  · obtain ⟨h1, h2⟩ := key k q hq
    rw [h2]
    exact hA k h1
abbrev rmD (d : Nat) : Room := { frames := d, cells := 0, slots := 0, locals := 37 * d }
abbrev wsD (I : Ym) : List Cond := .code I.1 I.2.1 I.2.2.1 I.2.2.2.1 :: TT
def Qg (E : En) (Post : St → Option Value → Prop) : Array Value → State → Outcome → State → Prop := fun _ st oc t => (∃ (S' : St) (r : Option Value), oc = .returned r ∧ Post S' r ∧ va_P (eD E) vwCl (wd E S') t.heap) ∧ va_F (AD E) st t
/-- THE CONTRACT of a method: from the world of S, with these arguments, it returns, with Post of the new state and the answer -/
def CT (E : En) (I : Ym) (S : St) (args : List Value) (Post : St → Option Value → Prop) : Prop :=
  Met (eN E) I.1 (wsD I) (rmD I.2.2.2.2) (va_Pc args (fun U => va_P (eD E) vwCl (wd E S) U.heap ∧ Kn E (AD E) U)) (Qg E Post) 0 0 (AD E)
/-- the same, told exactly -/
abbrev CTe (E : En) (I : Ym) (S : St) (args : List Value) (S1 : St) (r : Option Value) : Prop := CT E I S args (fun S' r' => S' = S1 ∧ r' = r)
/-- where a walk stands: all of the machine that stays over it -/
abbrev Xt : Type := (Program × Env × Room × State) × (MethodId × Array Value × List Frame × Method × Code) × (Nat × Nat) × (Nat → Prop) × (State → Prop)
abbrev xp (X : Xt) : Program := X.1.1
abbrev xe (X : Xt) : Env := X.1.2.1
abbrev xR (X : Xt) : Room := X.1.2.2.1
abbrev xs (X : Xt) : State := X.1.2.2.2
abbrev xm (X : Xt) : MethodId := X.2.1.1
abbrev xa (X : Xt) : Array Value := X.2.1.2.1
abbrev xb (X : Xt) : List Frame := X.2.1.2.2.1
abbrev xM (X : Xt) : Method := X.2.1.2.2.2.1
abbrev xc (X : Xt) : Code := X.2.1.2.2.2.2
abbrev xk (X : Xt) : Nat := X.2.2.1.1
abbrev xn (X : Xt) : Nat := X.2.2.1.2
abbrev xA (X : Xt) : Nat → Prop := X.2.2.2.1
abbrev xQ (X : Xt) : State → Prop := X.2.2.2.2
def CX (E : En) (X : Xt) (I : Ym) : Prop := (xp X).tables.exec = Jvm.exec ∧ (xc X).code = I.2.1 ∧ (xc X).maxLocals = I.2.2.1 ∧ (xs X).vm.findClass I.1.cls = some (xm X).cls ∧ (∀ w ∈ TT, w.before (xa X) (xs X) = true) ∧ Kn E (xA X) (xs X) ∧ (∀ k, k < 72 → xA X (eA E k)) ∧ (xM X).locks = false ∧ (I.2.2.2.2 ≤ (xR X).frames ∧ 37 * I.2.2.2.2 ≤ (xR X).locals) ∧ xk X ≤ (xR X).cells ∧ xn X ≤ (xR X).slots
abbrev Wx (E : En) (X : Xt) (H : Heap) (locs : List Loc) (g : JFrame) : Prop := W (xp X) (eN E) (xe X) (xR X) (xs X) (xm X) (xa X) (xb X) (xM X) (xc X) H locs (xk X) (xn X) (xQ X) g
/-- THE JUDGEMENT: at pc, with the state S, these locals, this stack, the walk comes to its end -/
def G (E : En) (X : Xt) (I : Ym) (S : St) (pc : Nat) (L : List (Nat × Value)) (st : List Value) : Prop :=
  CX E X I → ∀ (H : Heap) (locs : List Loc) (ls : Array Slot), va_P (eD E) vwCl (wd E S) H → va_S (xA X) (xs X).heap H locs → lv_has ls I.2.2.1 L → Wx E X H locs (F0 (xm X) pc ls st)
section GR
variable {E : En} {X : Xt} {I : Ym} {S : St} {pc : Nat} {L : List (Nat × Value)} {st : List Value}
theorem g_iconst {n : Int} {v : Int32} (hd : decode I.2.1 pc = .ok (.iconst n, 1)) (hv : Int32.ofInt n = v) (k : G E X I S (pc + 1) L (.int v :: st)) : G E X I S pc L (st) := fun C H locs ls hP hS hl => lv_iconst C.1 C.2.1 hd hv (k C H locs ls hP hS hl)
theorem g_bipush {n : Int} {v : Int32} (hd : decode I.2.1 pc = .ok (.bipush n, 2)) (hv : (Int8.ofInt n).toInt32 = v) (k : G E X I S (pc + 2) L (.int v :: st)) : G E X I S pc L (st) := fun C H locs ls hP hS hl => lv_bipush C.1 C.2.1 hd hv (k C H locs ls hP hS hl)
theorem g_sipush {n : Int} {v : Int32} (hd : decode I.2.1 pc = .ok (.sipush n, 3)) (hv : (Int16.ofInt n).toInt32 = v) (k : G E X I S (pc + 3) L (.int v :: st)) : G E X I S pc L (st) := fun C H locs ls hP hS hl => lv_sipush C.1 C.2.1 hd hv (k C H locs ls hP hS hl)
theorem g_lconst {n : Fin 2} {v : Int64} (hd : decode I.2.1 pc = .ok (.lconst n, 1)) (hv : Int64.ofNat (n : Nat) = v) (k : G E X I S (pc + 1) L (.long v :: st)) : G E X I S pc L (st) := fun C H locs ls hP hS hl => lv_lconst C.1 C.2.1 hd hv (k C H locs ls hP hS hl)
theorem g_iload_n {k : Fin 4} {i : Nat} {x : Int32} (hd : decode I.2.1 pc = .ok (.iload_n k, 1)) (j : Nat) (hi : (k : Nat) = i) (hj : L[j]? = some (i, .int x)) (k : G E X I S (pc + 1) L (.int x :: st)) : G E X I S pc L (st) := fun C H locs ls hP hS hl => lv_iload_n C.1 C.2.1 hd hi (lv_at hl j hj) (k C H locs ls hP hS hl)
theorem g_iload {i : Nat} {x : Int32} (hd : decode I.2.1 pc = .ok (.iload i, 2)) (j : Nat) (hj : L[j]? = some (i, .int x)) (k : G E X I S (pc + 2) L (.int x :: st)) : G E X I S pc L (st) := fun C H locs ls hP hS hl => lv_iload C.1 C.2.1 hd (lv_at hl j hj) (k C H locs ls hP hS hl)
theorem g_lload_n {k : Fin 4} {i : Nat} {x : Int64} (hd : decode I.2.1 pc = .ok (.lload_n k, 1)) (j : Nat) (hi : (k : Nat) = i) (hj : L[j]? = some (i, .long x)) (k : G E X I S (pc + 1) L (.long x :: st)) : G E X I S pc L (st) := fun C H locs ls hP hS hl => lv_lload_n C.1 C.2.1 hd hi (lv_at hl j hj) (k C H locs ls hP hS hl)
theorem g_lload {i : Nat} {x : Int64} (hd : decode I.2.1 pc = .ok (.lload i, 2)) (j : Nat) (hj : L[j]? = some (i, .long x)) (k : G E X I S (pc + 2) L (.long x :: st)) : G E X I S pc L (st) := fun C H locs ls hP hS hl => lv_lload C.1 C.2.1 hd (lv_at hl j hj) (k C H locs ls hP hS hl)
theorem g_aload_n {k : Fin 4} {i : Nat} {x : Nat} (hd : decode I.2.1 pc = .ok (.aload_n k, 1)) (j : Nat) (hi : (k : Nat) = i) (hj : L[j]? = some (i, .ref x)) (k : G E X I S (pc + 1) L (.ref x :: st)) : G E X I S pc L (st) := fun C H locs ls hP hS hl => lv_aload_n C.1 C.2.1 hd hi (lv_at hl j hj) (k C H locs ls hP hS hl)
theorem g_aload {i : Nat} {x : Nat} (hd : decode I.2.1 pc = .ok (.aload i, 2)) (j : Nat) (hj : L[j]? = some (i, .ref x)) (k : G E X I S (pc + 2) L (.ref x :: st)) : G E X I S pc L (st) := fun C H locs ls hP hS hl => lv_aload C.1 C.2.1 hd (lv_at hl j hj) (k C H locs ls hP hS hl)
theorem g_aload_nN {k : Fin 4} {i : Nat} (hd : decode I.2.1 pc = .ok (.aload_n k, 1)) (j : Nat) (hi : (k : Nat) = i) (hj : L[j]? = some (i, .null)) (k : G E X I S (pc + 1) L (.null :: st)) : G E X I S pc L (st) := fun C H locs ls hP hS hl => lv_aload_nN C.1 C.2.1 hd hi (lv_at hl j hj) (k C H locs ls hP hS hl)
theorem g_aloadN {i : Nat} (hd : decode I.2.1 pc = .ok (.aload i, 2)) (j : Nat) (hj : L[j]? = some (i, .null)) (k : G E X I S (pc + 2) L (.null :: st)) : G E X I S pc L (st) := fun C H locs ls hP hS hl => lv_aloadN C.1 C.2.1 hd (lv_at hl j hj) (k C H locs ls hP hS hl)
theorem g_istore_n {k : Fin 4} {i : Nat} {x : Int32} {L' : List (Nat × Value)} (hd : decode I.2.1 pc = .ok (.istore_n k, 1)) (hi : (k : Nat) = i) (hn : i + 1 ≤ I.2.2.1) (hl2 : (i, Value.int x) :: L.filter (fun q => !(q.1 == i) && !(q.1 + 1 == i && q.2.category == 2)) = L') (k : G E X I S (pc + 1) L' st) : G E X I S pc L (Value.int x :: st) := fun C H locs ls hP hS hl => lv_istore_n C.1 C.2.1 hd hi hl hn hl2 (fun ls2 hl3 => k C H locs ls2 hP hS hl3)
theorem g_istore {i : Nat} {x : Int32} {L' : List (Nat × Value)} (hd : decode I.2.1 pc = .ok (.istore i, 2)) (hn : i + 1 ≤ I.2.2.1) (hl2 : (i, Value.int x) :: L.filter (fun q => !(q.1 == i) && !(q.1 + 1 == i && q.2.category == 2)) = L') (k : G E X I S (pc + 2) L' st) : G E X I S pc L (Value.int x :: st) := fun C H locs ls hP hS hl => lv_istore C.1 C.2.1 hd hl hn hl2 (fun ls2 hl3 => k C H locs ls2 hP hS hl3)
theorem g_lstore_n {k : Fin 4} {i : Nat} {x : Int64} {L' : List (Nat × Value)} (hd : decode I.2.1 pc = .ok (.lstore_n k, 1)) (hi : (k : Nat) = i) (hn : i + 2 ≤ I.2.2.1) (hl2 : (i, Value.long x) :: L.filter (fun q => !(q.1 == i) && (!(q.1 == i + 1) && !(q.1 + 1 == i && q.2.category == 2))) = L') (k : G E X I S (pc + 1) L' st) : G E X I S pc L (Value.long x :: st) := fun C H locs ls hP hS hl => lv_lstore_n C.1 C.2.1 hd hi hl hn hl2 (fun ls2 hl3 => k C H locs ls2 hP hS hl3)
theorem g_lstore {i : Nat} {x : Int64} {L' : List (Nat × Value)} (hd : decode I.2.1 pc = .ok (.lstore i, 2)) (hn : i + 2 ≤ I.2.2.1) (hl2 : (i, Value.long x) :: L.filter (fun q => !(q.1 == i) && (!(q.1 == i + 1) && !(q.1 + 1 == i && q.2.category == 2))) = L') (k : G E X I S (pc + 2) L' st) : G E X I S pc L (Value.long x :: st) := fun C H locs ls hP hS hl => lv_lstore C.1 C.2.1 hd hl hn hl2 (fun ls2 hl3 => k C H locs ls2 hP hS hl3)
theorem g_astore_n {k : Fin 4} {i : Nat} {x : Nat} {L' : List (Nat × Value)} (hd : decode I.2.1 pc = .ok (.astore_n k, 1)) (hi : (k : Nat) = i) (hn : i + 1 ≤ I.2.2.1) (hl2 : (i, Value.ref x) :: L.filter (fun q => !(q.1 == i) && !(q.1 + 1 == i && q.2.category == 2)) = L') (k : G E X I S (pc + 1) L' st) : G E X I S pc L (Value.ref x :: st) := fun C H locs ls hP hS hl => lv_astore_n C.1 C.2.1 hd hi hl hn hl2 (fun ls2 hl3 => k C H locs ls2 hP hS hl3)
theorem g_astore {i : Nat} {x : Nat} {L' : List (Nat × Value)} (hd : decode I.2.1 pc = .ok (.astore i, 2)) (hn : i + 1 ≤ I.2.2.1) (hl2 : (i, Value.ref x) :: L.filter (fun q => !(q.1 == i) && !(q.1 + 1 == i && q.2.category == 2)) = L') (k : G E X I S (pc + 2) L' st) : G E X I S pc L (Value.ref x :: st) := fun C H locs ls hP hS hl => lv_astore C.1 C.2.1 hd hl hn hl2 (fun ls2 hl3 => k C H locs ls2 hP hS hl3)
theorem g_astore_nN {k : Fin 4} {i : Nat} {L' : List (Nat × Value)} (hd : decode I.2.1 pc = .ok (.astore_n k, 1)) (hi : (k : Nat) = i) (hn : i + 1 ≤ I.2.2.1) (hl2 : (i, Value.null) :: L.filter (fun q => !(q.1 == i) && !(q.1 + 1 == i && q.2.category == 2)) = L') (k : G E X I S (pc + 1) L' st) : G E X I S pc L (Value.null :: st) := fun C H locs ls hP hS hl => lv_astore_nN C.1 C.2.1 hd hi hl hn hl2 (fun ls2 hl3 => k C H locs ls2 hP hS hl3)
theorem g_astoreN {i : Nat} {L' : List (Nat × Value)} (hd : decode I.2.1 pc = .ok (.astore i, 2)) (hn : i + 1 ≤ I.2.2.1) (hl2 : (i, Value.null) :: L.filter (fun q => !(q.1 == i) && !(q.1 + 1 == i && q.2.category == 2)) = L') (k : G E X I S (pc + 2) L' st) : G E X I S pc L (Value.null :: st) := fun C H locs ls hP hS hl => lv_astoreN C.1 C.2.1 hd hl hn hl2 (fun ls2 hl3 => k C H locs ls2 hP hS hl3)
theorem g_iinc {i k : Nat} {n : Int} {x v : Int32} {L' : List (Nat × Value)} (hd : decode I.2.1 pc = .ok (.iinc i n, 3)) (hk : L[k]? = some (i, .int x)) (hv : x + Int32.ofInt n = v) (hn : i + 1 ≤ I.2.2.1) (hl2 : (i, Value.int v) :: L.filter (fun q => !(q.1 == i) && !(q.1 + 1 == i && q.2.category == 2)) = L') (kk : G E X I S (pc + 3) L' st) : G E X I S pc L st := fun C H locs ls hP hS hl => lv_iinc C.1 C.2.1 hd hl hk hv hn hl2 (fun ls2 hl3 => kk C H locs ls2 hP hS hl3)
theorem g_iadd {x y : Int32} (hd : decode I.2.1 pc = .ok (.iadd, 1)) (k : G E X I S (pc + 1) L (.int (x + y) :: st)) : G E X I S pc L (.int y :: .int x :: st) := fun C H locs ls hP hS hl => lv_iadd C.1 C.2.1 hd (k C H locs ls hP hS hl)
theorem g_isub {x y : Int32} (hd : decode I.2.1 pc = .ok (.isub, 1)) (k : G E X I S (pc + 1) L (.int (x - y) :: st)) : G E X I S pc L (.int y :: .int x :: st) := fun C H locs ls hP hS hl => lv_isub C.1 C.2.1 hd (k C H locs ls hP hS hl)
theorem g_imul {x y : Int32} (hd : decode I.2.1 pc = .ok (.imul, 1)) (k : G E X I S (pc + 1) L (.int (x * y) :: st)) : G E X I S pc L (.int y :: .int x :: st) := fun C H locs ls hP hS hl => lv_imul C.1 C.2.1 hd (k C H locs ls hP hS hl)
theorem g_iand {x y : Int32} (hd : decode I.2.1 pc = .ok (.iand, 1)) (k : G E X I S (pc + 1) L (.int (x &&& y) :: st)) : G E X I S pc L (.int y :: .int x :: st) := fun C H locs ls hP hS hl => lv_iand C.1 C.2.1 hd (k C H locs ls hP hS hl)
theorem g_ior {x y : Int32} (hd : decode I.2.1 pc = .ok (.ior, 1)) (k : G E X I S (pc + 1) L (.int (x ||| y) :: st)) : G E X I S pc L (.int y :: .int x :: st) := fun C H locs ls hP hS hl => lv_ior C.1 C.2.1 hd (k C H locs ls hP hS hl)
theorem g_ixor {x y : Int32} (hd : decode I.2.1 pc = .ok (.ixor, 1)) (k : G E X I S (pc + 1) L (.int (x ^^^ y) :: st)) : G E X I S pc L (.int y :: .int x :: st) := fun C H locs ls hP hS hl => lv_ixor C.1 C.2.1 hd (k C H locs ls hP hS hl)
theorem g_ishl {x y : Int32} (hd : decode I.2.1 pc = .ok (.ishl, 1)) (k : G E X I S (pc + 1) L (.int (x <<< (y &&& 31)) :: st)) : G E X I S pc L (.int y :: .int x :: st) := fun C H locs ls hP hS hl => lv_ishl C.1 C.2.1 hd (k C H locs ls hP hS hl)
theorem g_ishr {x y : Int32} (hd : decode I.2.1 pc = .ok (.ishr, 1)) (k : G E X I S (pc + 1) L (.int (x >>> (y &&& 31)) :: st)) : G E X I S pc L (.int y :: .int x :: st) := fun C H locs ls hP hS hl => lv_ishr C.1 C.2.1 hd (k C H locs ls hP hS hl)
theorem g_idiv {x y : Int32} (hd : decode I.2.1 pc = .ok (.idiv, 1)) (hne : ¬ y = 0) (k : G E X I S (pc + 1) L (.int (x / y) :: st)) : G E X I S pc L (.int y :: .int x :: st) := fun C H locs ls hP hS hl => lv_idiv C.1 C.2.1 hd hne (k C H locs ls hP hS hl)
theorem g_irem {x y : Int32} (hd : decode I.2.1 pc = .ok (.irem, 1)) (hne : ¬ y = 0) (k : G E X I S (pc + 1) L (.int (x - x / y * y) :: st)) : G E X I S pc L (.int y :: .int x :: st) := fun C H locs ls hP hS hl => lv_irem C.1 C.2.1 hd hne (k C H locs ls hP hS hl)
theorem g_ineg {x : Int32} (hd : decode I.2.1 pc = .ok (.ineg, 1)) (k : G E X I S (pc + 1) L (.int (-x) :: st)) : G E X I S pc L (.int x :: st) := fun C H locs ls hP hS hl => lv_ineg C.1 C.2.1 hd (k C H locs ls hP hS hl)
theorem g_ladd {x y : Int64} (hd : decode I.2.1 pc = .ok (.ladd, 1)) (k : G E X I S (pc + 1) L (.long (x + y) :: st)) : G E X I S pc L (.long y :: .long x :: st) := fun C H locs ls hP hS hl => lv_ladd C.1 C.2.1 hd (k C H locs ls hP hS hl)
theorem g_lsub {x y : Int64} (hd : decode I.2.1 pc = .ok (.lsub, 1)) (k : G E X I S (pc + 1) L (.long (x - y) :: st)) : G E X I S pc L (.long y :: .long x :: st) := fun C H locs ls hP hS hl => lv_lsub C.1 C.2.1 hd (k C H locs ls hP hS hl)
theorem g_lmul {x y : Int64} (hd : decode I.2.1 pc = .ok (.lmul, 1)) (k : G E X I S (pc + 1) L (.long (x * y) :: st)) : G E X I S pc L (.long y :: .long x :: st) := fun C H locs ls hP hS hl => lv_lmul C.1 C.2.1 hd (k C H locs ls hP hS hl)
theorem g_ldiv {x y : Int64} (hd : decode I.2.1 pc = .ok (.ldiv, 1)) (hne : ¬ y = 0) (k : G E X I S (pc + 1) L (.long (x / y) :: st)) : G E X I S pc L (.long y :: .long x :: st) := fun C H locs ls hP hS hl => lv_ldiv C.1 C.2.1 hd hne (k C H locs ls hP hS hl)
theorem g_lrem {x y : Int64} (hd : decode I.2.1 pc = .ok (.lrem, 1)) (hne : ¬ y = 0) (k : G E X I S (pc + 1) L (.long (x - x / y * y) :: st)) : G E X I S pc L (.long y :: .long x :: st) := fun C H locs ls hP hS hl => lv_lrem C.1 C.2.1 hd hne (k C H locs ls hP hS hl)
theorem g_lcmp {x y : Int64} (hd : decode I.2.1 pc = .ok (.lcmp, 1)) (k : G E X I S (pc + 1) L (.int (lg_cmp x y) :: st)) : G E X I S pc L (.long y :: .long x :: st) := fun C H locs ls hP hS hl => W.lcmp C.1 C.2.1 hd (k C H locs ls hP hS hl)
theorem g_i2l {x : Int32} (hd : decode I.2.1 pc = .ok (.i2l, 1)) (k : G E X I S (pc + 1) L (.long x.toInt64 :: st)) : G E X I S pc L (.int x :: st) := fun C H locs ls hP hS hl => lv_i2l C.1 C.2.1 hd rfl (k C H locs ls hP hS hl)
theorem g_l2i {x : Int64} (hd : decode I.2.1 pc = .ok (.l2i, 1)) (k : G E X I S (pc + 1) L (.int x.toInt32 :: st)) : G E X I S pc L (.long x :: st) := fun C H locs ls hP hS hl => lv_l2i C.1 C.2.1 hd rfl (k C H locs ls hP hS hl)
theorem g_i2b {x : Int32} (hd : decode I.2.1 pc = .ok (.i2b, 1)) (k : G E X I S (pc + 1) L (.int x.toInt8.toInt32 :: st)) : G E X I S pc L (.int x :: st) := fun C H locs ls hP hS hl => lv_i2b C.1 C.2.1 hd rfl (k C H locs ls hP hS hl)
theorem g_iushr {x y : Int32} (hd : decode I.2.1 pc = .ok (.iushr, 1)) (k : G E X I S (pc + 1) L (.int ((x.toUInt32 >>> (y.toUInt32 &&& Int32.toUInt32 31)).toInt32) :: st)) : G E X I S pc L (.int y :: .int x :: st) := fun C H locs ls hP hS hl => lv_iushr C.1 C.2.1 hd rfl (k C H locs ls hP hS hl)
theorem g_dup {va : Value} (hd : decode I.2.1 pc = .ok (.dup, 1)) (h1 : va.category = 1) (k : G E X I S (pc + 1) L (va :: va :: st)) : G E X I S pc L (va :: st) := fun C H locs ls hP hS hl => lv_dup C.1 C.2.1 hd h1 (k C H locs ls hP hS hl)
theorem g_pop {va : Value} (hd : decode I.2.1 pc = .ok (.pop, 1)) (h1 : va.category = 1) (k : G E X I S (pc + 1) L (st)) : G E X I S pc L (va :: st) := fun C H locs ls hP hS hl => lv_pop C.1 C.2.1 hd h1 (k C H locs ls hP hS hl)
theorem g_dup2 {va vb : Value} (hd : decode I.2.1 pc = .ok (.dup2, 1)) (h1 : va.category = 1) (h2 : vb.category = 1) (k : G E X I S (pc + 1) L (va :: vb :: va :: vb :: st)) : G E X I S pc L (va :: vb :: st) := fun C H locs ls hP hS hl => lv_dup2_11 C.1 C.2.1 hd h1 h2 (k C H locs ls hP hS hl)
theorem g_null  (hd : decode I.2.1 pc = .ok (.aconst_null, 1)) (k : G E X I S (pc + 1) L (.null :: st)) : G E X I S pc L (st) := fun C H locs ls hP hS hl => lv_null C.1 C.2.1 hd (k C H locs ls hP hS hl)
theorem g_goto {off : Int} {tgt : Nat} (hd : decode I.2.1 pc = .ok (.goto off, 3)) (ht : (pc : Int) + off = (tgt : Int)) (k : G E X I S tgt L st) : G E X I S pc L st := fun C H locs ls hP hS hl => lv_goto C.1 C.2.1 hd ht (k C H locs ls hP hS hl)
theorem g_if_eq {x : Int32} {off : Int} {tgt : Nat} (hd : decode I.2.1 pc = .ok (.ifCond .eq off, 3)) (ht : (pc : Int) + off = (tgt : Int)) (kt : x = 0 → G E X I S tgt L st) (kf : ¬ x = 0 → G E X I S (pc + 3) L st) : G E X I S pc L (.int x :: st) := fun C H locs ls hP hS hl => lv_if_eq C.1 C.2.1 hd ht (fun q => kt q C H locs ls hP hS hl) (fun q => kf q C H locs ls hP hS hl)
theorem g_icmp_eq {x y : Int32} {off : Int} {tgt : Nat} (hd : decode I.2.1 pc = .ok (.if_icmp .eq off, 3)) (ht : (pc : Int) + off = (tgt : Int)) (kt : x = y → G E X I S tgt L st) (kf : ¬ x = y → G E X I S (pc + 3) L st) : G E X I S pc L (.int y :: .int x :: st) := fun C H locs ls hP hS hl => lv_icmp_eq C.1 C.2.1 hd ht (fun q => kt q C H locs ls hP hS hl) (fun q => kf q C H locs ls hP hS hl)
theorem g_if_ne {x : Int32} {off : Int} {tgt : Nat} (hd : decode I.2.1 pc = .ok (.ifCond .ne off, 3)) (ht : (pc : Int) + off = (tgt : Int)) (kt : ¬ x = 0 → G E X I S tgt L st) (kf : x = 0 → G E X I S (pc + 3) L st) : G E X I S pc L (.int x :: st) := fun C H locs ls hP hS hl => lv_if_ne C.1 C.2.1 hd ht (fun q => kt q C H locs ls hP hS hl) (fun q => kf q C H locs ls hP hS hl)
theorem g_icmp_ne {x y : Int32} {off : Int} {tgt : Nat} (hd : decode I.2.1 pc = .ok (.if_icmp .ne off, 3)) (ht : (pc : Int) + off = (tgt : Int)) (kt : ¬ x = y → G E X I S tgt L st) (kf : x = y → G E X I S (pc + 3) L st) : G E X I S pc L (.int y :: .int x :: st) := fun C H locs ls hP hS hl => lv_icmp_ne C.1 C.2.1 hd ht (fun q => kt q C H locs ls hP hS hl) (fun q => kf q C H locs ls hP hS hl)
theorem g_if_lt {x : Int32} {off : Int} {tgt : Nat} (hd : decode I.2.1 pc = .ok (.ifCond .lt off, 3)) (ht : (pc : Int) + off = (tgt : Int)) (kt : x < 0 → G E X I S tgt L st) (kf : ¬ x < 0 → G E X I S (pc + 3) L st) : G E X I S pc L (.int x :: st) := fun C H locs ls hP hS hl => lv_if_lt C.1 C.2.1 hd ht (fun q => kt q C H locs ls hP hS hl) (fun q => kf q C H locs ls hP hS hl)
theorem g_icmp_lt {x y : Int32} {off : Int} {tgt : Nat} (hd : decode I.2.1 pc = .ok (.if_icmp .lt off, 3)) (ht : (pc : Int) + off = (tgt : Int)) (kt : x < y → G E X I S tgt L st) (kf : ¬ x < y → G E X I S (pc + 3) L st) : G E X I S pc L (.int y :: .int x :: st) := fun C H locs ls hP hS hl => lv_icmp_lt C.1 C.2.1 hd ht (fun q => kt q C H locs ls hP hS hl) (fun q => kf q C H locs ls hP hS hl)
theorem g_if_ge {x : Int32} {off : Int} {tgt : Nat} (hd : decode I.2.1 pc = .ok (.ifCond .ge off, 3)) (ht : (pc : Int) + off = (tgt : Int)) (kt : 0 ≤ x → G E X I S tgt L st) (kf : ¬ 0 ≤ x → G E X I S (pc + 3) L st) : G E X I S pc L (.int x :: st) := fun C H locs ls hP hS hl => lv_if_ge C.1 C.2.1 hd ht (fun q => kt q C H locs ls hP hS hl) (fun q => kf q C H locs ls hP hS hl)
theorem g_icmp_ge {x y : Int32} {off : Int} {tgt : Nat} (hd : decode I.2.1 pc = .ok (.if_icmp .ge off, 3)) (ht : (pc : Int) + off = (tgt : Int)) (kt : y ≤ x → G E X I S tgt L st) (kf : ¬ y ≤ x → G E X I S (pc + 3) L st) : G E X I S pc L (.int y :: .int x :: st) := fun C H locs ls hP hS hl => lv_icmp_ge C.1 C.2.1 hd ht (fun q => kt q C H locs ls hP hS hl) (fun q => kf q C H locs ls hP hS hl)
theorem g_if_gt {x : Int32} {off : Int} {tgt : Nat} (hd : decode I.2.1 pc = .ok (.ifCond .gt off, 3)) (ht : (pc : Int) + off = (tgt : Int)) (kt : 0 < x → G E X I S tgt L st) (kf : ¬ 0 < x → G E X I S (pc + 3) L st) : G E X I S pc L (.int x :: st) := fun C H locs ls hP hS hl => lv_if_gt C.1 C.2.1 hd ht (fun q => kt q C H locs ls hP hS hl) (fun q => kf q C H locs ls hP hS hl)
theorem g_icmp_gt {x y : Int32} {off : Int} {tgt : Nat} (hd : decode I.2.1 pc = .ok (.if_icmp .gt off, 3)) (ht : (pc : Int) + off = (tgt : Int)) (kt : y < x → G E X I S tgt L st) (kf : ¬ y < x → G E X I S (pc + 3) L st) : G E X I S pc L (.int y :: .int x :: st) := fun C H locs ls hP hS hl => lv_icmp_gt C.1 C.2.1 hd ht (fun q => kt q C H locs ls hP hS hl) (fun q => kf q C H locs ls hP hS hl)
theorem g_if_le {x : Int32} {off : Int} {tgt : Nat} (hd : decode I.2.1 pc = .ok (.ifCond .le off, 3)) (ht : (pc : Int) + off = (tgt : Int)) (kt : x ≤ 0 → G E X I S tgt L st) (kf : ¬ x ≤ 0 → G E X I S (pc + 3) L st) : G E X I S pc L (.int x :: st) := fun C H locs ls hP hS hl => lv_if_le C.1 C.2.1 hd ht (fun q => kt q C H locs ls hP hS hl) (fun q => kf q C H locs ls hP hS hl)
theorem g_icmp_le {x y : Int32} {off : Int} {tgt : Nat} (hd : decode I.2.1 pc = .ok (.if_icmp .le off, 3)) (ht : (pc : Int) + off = (tgt : Int)) (kt : x ≤ y → G E X I S tgt L st) (kf : ¬ x ≤ y → G E X I S (pc + 3) L st) : G E X I S pc L (.int y :: .int x :: st) := fun C H locs ls hP hS hl => lv_icmp_le C.1 C.2.1 hd ht (fun q => kt q C H locs ls hP hS hl) (fun q => kf q C H locs ls hP hS hl)
theorem g_ifnull {x : Nat} {off : Int} (hd : decode I.2.1 pc = .ok (.ifnull off, 3)) (k : G E X I S (pc + 3) L st) : G E X I S pc L (.ref x :: st) := fun C H locs ls hP hS hl => lv_ifnull C.1 C.2.1 hd (k C H locs ls hP hS hl)
theorem g_ifnullN {off : Int} {tgt : Nat} (hd : decode I.2.1 pc = .ok (.ifnull off, 3)) (ht : (pc : Int) + off = (tgt : Int)) (k : G E X I S tgt L st) : G E X I S pc L (.null :: st) := fun C H locs ls hP hS hl => lv_ifnullN C.1 C.2.1 hd ht (k C H locs ls hP hS hl)
theorem g_ifnonnull {x : Nat} {off : Int} {tgt : Nat} (hd : decode I.2.1 pc = .ok (.ifnonnull off, 3)) (ht : (pc : Int) + off = (tgt : Int)) (k : G E X I S tgt L st) : G E X I S pc L (.ref x :: st) := fun C H locs ls hP hS hl => lv_ifnonnull C.1 C.2.1 hd ht (k C H locs ls hP hS hl)
theorem g_ifnonnullN {off : Int} (hd : decode I.2.1 pc = .ok (.ifnonnull off, 3)) (k : G E X I S (pc + 3) L st) : G E X I S pc L (.null :: st) := fun C H locs ls hP hS hl => lv_ifnonnullN C.1 C.2.1 hd (k C H locs ls hP hS hl)
theorem g_ldc {index : Nat} {v : Int32} (hw : Cond.constant I.1.cls index v ∈ TT) (hd : decode I.2.1 pc = .ok (.ldc index, 2)) (k : G E X I S (pc + 2) L (.int v :: st)) : G E X I S pc L st := fun C H locs ls hP hS hl => lv_ldc C.1 C.2.1 C.2.2.2.1 (C.2.2.2.2.1 _ hw) hd (k C H locs ls hP hS hl)
theorem g_ldcw {index : Nat} {v : Int32} (hw : Cond.constant I.1.cls index v ∈ TT) (hd : decode I.2.1 pc = .ok (.ldc_w index, 3)) (k : G E X I S (pc + 3) L (.int v :: st)) : G E X I S pc L st := fun C H locs ls hP hS hl => lv_ldcw C.1 C.2.1 C.2.2.2.1 (C.2.2.2.2.1 _ hw) hd (k C H locs ls hP hS hl)
theorem g_ldc2 {index : Nat} {v : Int64} (hw : Cond.constantLong I.1.cls index v ∈ TT) (hd : decode I.2.1 pc = .ok (.ldc2_w index, 3)) (k : G E X I S (pc + 3) L (.long v :: st)) : G E X I S pc L st := fun C H locs ls hP hS hl => lv_ldc2 C.1 C.2.1 C.2.2.2.1 (C.2.2.2.2.1 _ hw) hd (k C H locs ls hP hS hl)
theorem g_tsOut {dflt lo hi : Int} {offs : Array Int} {len : Nat} {x : Int32} {tgt : Nat} (hd : decode I.2.1 pc = .ok (.tableswitch dflt lo hi offs, len)) (h : x.toInt < lo ∨ hi < x.toInt) (ht : (pc : Int) + dflt = (tgt : Int)) (k : G E X I S tgt L st) : G E X I S pc L (.int x :: st) := fun C H locs ls hP hS hl => lv_tableOut C.1 C.2.1 hd h ht (k C H locs ls hP hS hl)
theorem g_tsIn {dflt lo hi : Int} {offs : Array Int} {len : Nat} {x : Int32} {off : Int} {tgt : Nat} (hd : decode I.2.1 pc = .ok (.tableswitch dflt lo hi offs, len)) (h1 : ¬ x.toInt < lo) (h2 : ¬ hi < x.toInt) (ho : offs[(x.toInt - lo).toNat]? = some off) (ht : (pc : Int) + off = (tgt : Int)) (k : G E X I S tgt L st) : G E X I S pc L (.int x :: st) := fun C H locs ls hP hS hl => lv_tableIn C.1 C.2.1 hd h1 h2 ho ht (k C H locs ls hP hS hl)
theorem g_lookup {dflt : Int} {ps : Array (Int × Int)} {len : Nat} {x : Int32} {off : Int} {tgt : Nat} (hd : decode I.2.1 pc = .ok (.lookupswitch dflt ps, len)) (hp : (ps.toList.zip (ps.toList.drop 1)).all (fun (a, next) => a.1 < next.1) = true) (ho : Op.lookupswitch.offset ps.toList dflt x.toInt = off) (ht : (pc : Int) + off = (tgt : Int)) (k : G E X I S tgt L st) : G E X I S pc L (.int x :: st) := fun C H locs ls hP hS hl => lv_lookup C.1 C.2.1 hd hp ho ht (k C H locs ls hP hS hl)
/-- fewer locals, in any order -/
theorem g_sub {L' : List (Nat × Value)} (ks : List Nat) (hk : lv_pick L ks = L') (k : G E X I S pc L' st) : G E X I S pc L st := fun C H locs ls hP hS hl => k C H locs ls hP hS (lv_sub hl ks hk)
/-- the same point, told otherwise -/
theorem g_eq {S' : St} {L' : List (Nat × Value)} {st' : List Value} (h1 : S = S') (h2 : L = L') (h3 : st = st') (k : G E X I S' pc L' st') : G E X I S pc L st := by subst h1; subst h2; subst h3; exact k
theorem Kn_call {A : Nat → Prop} {s U : State} {H : Heap} {locs : List Loc} (h : Kn E A s) (hA : ∀ q, AD E q → A q) (hS : va_S A s.heap H locs) (hU : U.heap = H) (hW : s.WarmedH U.vm) : Kn E (AD E) U := by
  obtain ⟨h1, h2, ⟨h3, h4⟩, h5⟩ := h
  refine ⟨va_K.moved hW.alike h1, va_Nw.warmM hW h2, ⟨?_, ?_⟩, h5⟩
  · rw [hU]
    exact ((h3.kept hS.2.1).moved hW.alike).narrow hA
  · rw [hU]
    exact ((h4.kept hS.2.1).moved hW.alike).narrow hA
theorem Kn_blind {A : Nat → Prop} {U : State} (a : Array Value) (g : JFrame) (mk : MethodId) (h : Kn E A U) : Kn E A (U.calling g mk a) := by
  obtain ⟨h1, h2, ⟨h3, h4⟩, h5⟩ := h
  exact ⟨va_K.moved (u := U) (U := U.calling g mk a) (Vm.Alike.refl U.vm) h1, va_Nw.same rfl rfl h2, ⟨h3.moved (u := U) (U := U.calling g mk a) (Vm.Alike.refl U.vm), h4.moved (u := U) (U := U.calling g mk a) (Vm.Alike.refl U.vm)⟩, h5⟩
/-- what comes of a run of a callee -/
theorem g_runB {p : Program} {e : Env} {R : Room} {s : State} {m : MethodId} {args a : Array Value} {below : List Frame} {meth : Method} {c : Code} {H : Heap} {locs : List Loc} {cells slots : Nat} {Q : State → Prop} {ls : Array Slot} {rest st0 : List Value} {A : Nat → Prop} {Post : St → Option Value → Prop}
    (hr : va_Run p (eN E) e R s m args below meth c H locs cells slots 0 0 (F0 m pc ls st0) rest (Qg E Post a) (AD E)) (hS : va_S A s.heap H locs) (hA : ∀ q, AD E q → A q)
    (kk : ∀ (S' : St) (r : Option Value) (H1 : Heap) (locs1 : List Loc), Post S' r → va_P (eD E) vwCl (wd E S') H1 → va_S A s.heap H1 locs1 → W p (eN E) e R s m args below meth c H1 locs1 cells slots Q (F0 m (pc + 3) ls (r.toList ++ rest))) : W p (eN E) e R s m args below meth c H locs cells slots Q (F0 m pc ls st0) := by
  intro T hT Y
  obtain ⟨v, st₀, t, T', Lc, h0, Y', hL, e1, e2, ⟨⟨S', r, hv, hp, hb⟩, hz, hk⟩, go⟩ := hr T hT Y
  cases hv
  rw [h0] at hz hk
  obtain ⟨t2, a1, b1⟩ := kk S' v T'.heap (locs ++ Lc) hp (by rw [e1]; exact hb)
    ⟨Nat.le_trans hS.1 (by rw [e1]; exact hz), fun q h1 h2 => by rw [e1, hk q (Nat.lt_of_lt_of_le h1 hS.1) (fun z => h2 (hA q z))]; exact hS.2.1 q h1 h2, fun q hq => by
      rcases List.mem_append.mp hq with h | h
      · exact hS.2.2 q h
      · exact hA _ (hL q h)⟩ T' rfl Y'
  exact ⟨t2, go t2 a1, b1⟩
theorem AD_A {A : Nat → Prop} (h : ∀ k, k < 72 → A (eA E k)) : ∀ q, AD E q → A q := by
  rintro q ⟨k, hk, rfl⟩
  exact h k hk
/-- a cell is an object of that class -/
def rcv (E : En) (S : St) (C : String) (k : Nat) : Prop := k < 72 ∧ ∃ (ci : Nat) (fs : List Value) (q : vw_C), cell E S k = .inr (ci, fs) ∧ vwCl[ci]? = some q ∧ q.1 = C
theorem g_invR {J : Ym} {n idx : Nat} {k : Nat} {As L2 : List Value} {Post : St → Option Value → Prop} (hJ : JV J n) (hm : Cond.methodLink I.1.cls idx J.1 ∈ TT) (hd : decode I.2.1 pc = .ok (.invokevirtual idx, 3)) (hk : rcv E S J.1.cls k) (hn : As.length = n) (hc : CT E J S (.ref (eA E k) :: As) Post)
    (hdep : J.2.2.2.2 + 1 ≤ I.2.2.2.2) (hnl : J.2.2.1 ≤ 18) (hst : st = As.reverse ++ .ref (eA E k) :: L2) (hrest : (L2.map fun v => v.category).sum ≤ 8)
    (kk : ∀ (S' : St) (r : Option Value), Post S' r → G E X I S' (pc + 3) L (r.toList ++ L2)) : G E X I S pc L st := by
  intro C H locs ls hP hS hl
  obtain ⟨hx, hb, hml, hown, hts, hK, hA, hlk, ⟨hf, hlo⟩, hcc, hss⟩ := id C
  obtain ⟨hJ1, hJ2⟩ := hJ
  obtain ⟨hk1, ci, fs, q, hk2, hk3, hk4⟩ := hk
  have hAD := AD_A hA
  have hpg : ∀ w ∈ wsD J, w ∈ TT ∧ ((w.onTables && w.keeps) = true ∨ ∃ ty, w = .arrayClass ty) := by
    intro w hw
    rcases List.mem_cons.mp hw with rfl | hw
    · exact hJ2 _ (by simp)
    · exact TT_ok w hw
  have cb : CallB (xR X) (xs X) (xa X) I.1.cls idx J.1 J.2.1 J.2.2.1 J.2.2.2.1 (wsD J) (rmD J.2.2.2.2) 0 0 n := callB_of n hts hpg rfl rfl rfl (hts _ (hJ2 _ (by simp)).1) (hts _ hm) hJ1 ⟨by show J.2.2.2.2 + 1 ≤ _; omega, by show 8 + (J.2.2.1 + 11) + 37 * J.2.2.2.2 ≤ _; omega⟩
  have hrun := va_runV (C := J.1.cls) (y := J.1) (l := eN E) (e := xe X) (below := xb X) (meth := xM X) (locs := locs) (cells := xk X) (slots := xn X) (rest := L2) (g := F0 (xm X) pc ls st) (nL := I.2.2.1) (H := H) (Ts := TT) ⟨hx, hb, hml, hown, hts⟩ hc ⟨cb, hts _ (hJ2 _ (by simp)).1, hts _ (hJ2 _ (by simp)).1⟩
    ⟨fun a U g mk z => ⟨z.1, z.2.1, Kn_blind a g mk z.2.2⟩, hk4 ▸ va_recv hK.1 hP hk3 ((wd_get hk1).trans (by rw [hk2])), fun U hU hW => ⟨rfl, by rw [hU]; exact hP, Kn_call hK hAD hS hU hW⟩⟩
    rfl hn hl.1 hst (lv_room hrest) hd ⟨by omega, by omega⟩
  exact g_runB hrun hS hAD (fun S' r H1 locs1 hp hP1 hS1 => kk S' r hp C H1 locs1 ls hP1 hS1 hl)
theorem g_invSR {J : Ym} {n idx : Nat} {As L2 : List Value} {Post : St → Option Value → Prop} (hJ : JS J n) (hm : Cond.methodLink I.1.cls idx J.1 ∈ TT) (hd : decode I.2.1 pc = .ok (.invokestatic idx, 3)) (hn : As.length = n) (hc : CT E J S As Post)
    (hdep : J.2.2.2.2 + 1 ≤ I.2.2.2.2) (hnl : J.2.2.1 ≤ 18) (hst : st = As.reverse ++ L2) (hrest : (L2.map fun v => v.category).sum ≤ 8)
    (kk : ∀ (S' : St) (r : Option Value), Post S' r → G E X I S' (pc + 3) L (r.toList ++ L2)) : G E X I S pc L st := by
  intro C H locs ls hP hS hl
  obtain ⟨hx, hb, hml, hown, hts, hK, hA, hlk, ⟨hf, hlo⟩, hcc, hss⟩ := id C
  obtain ⟨hJ1, hJ2⟩ := hJ
  have hAD := AD_A hA
  have hpg : ∀ w ∈ wsD J, w ∈ TT ∧ ((w.onTables && w.keeps) = true ∨ ∃ ty, w = .arrayClass ty) := by
    intro w hw
    rcases List.mem_cons.mp hw with rfl | hw
    · exact hJ2 _ (by simp)
    · exact TT_ok w hw
  have cb : CallB (xR X) (xs X) (xa X) I.1.cls idx J.1 J.2.1 J.2.2.1 J.2.2.2.1 (wsD J) (rmD J.2.2.2.2) 0 0 n := callB_of n hts hpg rfl rfl rfl (hts _ (hJ2 _ (by simp)).1) (hts _ hm) hJ1 ⟨by show J.2.2.2.2 + 1 ≤ _; omega, by show 8 + (J.2.2.1 + 11) + 37 * J.2.2.2.2 ≤ _; omega⟩
  have hrun := va_runS (y := J.1) (l := eN E) (e := xe X) (below := xb X) (meth := xM X) (locs := locs) (cells := xk X) (slots := xn X) (rest := L2) (g := F0 (xm X) pc ls st) (nL := I.2.2.1) (H := H) (Ts := TT) ⟨hx, hb, hml, hown, hts⟩ hc ⟨cb, hts _ (hJ2 _ (by simp)).1⟩
    ⟨fun a U g mk z => ⟨z.1, z.2.1, Kn_blind a g mk z.2.2⟩, fun U hU hW => ⟨rfl, by rw [hU]; exact hP, Kn_call hK hAD hS hU hW⟩⟩
    rfl hn hl.1 hst (lv_room hrest) hd ⟨by omega, by omega⟩
  exact g_runB hrun hS hAD (fun S' r H1 locs1 hp hP1 hS1 => kk S' r hp C H1 locs1 ls hP1 hS1 hl)
end GR
end
section
section GF
variable {E : En} {X : Xt} {I : Ym} {S : St} {pc : Nat} {L : List (Nat × Value)} {st : List Value}
theorem kd_lt {k c : Nat} (h : kd k = c) (hc : c ≠ 99) : k < 72 := by
  rcases Nat.lt_or_ge k 72 with q | q
  · exact q
  · exfalso
    apply hc
    rw [← h]
    unfold kd
    rw [List.getD_eq_getElem?_getD, List.getElem?_eq_none (by exact q)]
    rfl
theorem cell_sI (E : En) (S : St) {k j : Nat} (v : Int32) {i : Nat} (h : i ≠ k) : cell E (sI S k j v) i = cell E S i := by
  have e : ∀ b, gI (sI S k j v) i b = gI S i b := fun b => gI_ne (fun q => h q.1)
  unfold cell
  simp only [e, gL_sI, gA_sI]
theorem cell_sL (E : En) (S : St) {k j : Nat} (v : Int64) {i : Nat} (h : i ≠ k) : cell E (sL S k j v) i = cell E S i := by
  have e : ∀ b, gL (sL S k j v) i b = gL S i b := fun b => by rw [gL_sL, if_neg (fun q => h q.1)]
  unfold cell
  simp only [e, gI_sL, gA_sL]
theorem cell_sA (E : En) (S : St) {k : Nat} (f : Nat → Int32) {i : Nat} (h : i ≠ k) : cell E (sA S k f) i = cell E S i := by
  unfold cell
  simp only [gI_sA, gL_sA, gA_ne h]
theorem cell_0 (E : En) (S : St) {k : Nat} (h : kd k = 0) : cell E S k = .inr (0, [.ref (eA E (34 + 6 * (k - 30))), .ref (eA E (34 + 6 * (k - 30) + 1)), .ref (eA E (34 + 6 * (k - 30) + 2)), .ref (eA E (34 + 6 * (k - 30) + 3)), .ref (eA E (34 + 6 * (k - 30) + 4)), .ref (eA E (34 + 6 * (k - 30) + 5)), .int (gI S k 6), .int (gI S k 7), .int (gI S k 8), .int (gI S k 9)]) := by unfold cell; rw [h]; rfl
theorem cell_3 (E : En) (S : St) {k : Nat} (h : kd k = 3) : cell E S k = .inr (3, [.ref (eA E (k + 10)), .int (gI S k 1)]) := by unfold cell; rw [h]; rfl
theorem cell_6 (E : En) (S : St) {k : Nat} (h : kd k = 6) : cell E S k = .inl (eI E, ln k, .inl (gA S k)) := by unfold cell; rw [h]; rfl
theorem cell_4 (E : En) (S : St) : cell E S 0 = .inr (4, [.ref (eA E 1), .ref (eA E 2), .ref (eA E 30), .ref (eA E 3), .ref (eA E 5), .ref (eA E 8), .ref (eA E 4), .int (gI S 0 7), .int (gI S 0 8), .long (gL S 0 9), .long (gL S 0 10)]) := rfl
theorem cell_5 (E : En) (S : St) : cell E S 58 = .inr (5, [.ref (eA E 59), .ref (eA E 60), .ref (eA E 61), .ref (eA E 62), .ref (eA E 63), .int (gI S 58 5), .ref (eA E 64), .int (gI S 58 7), .long (gL S 58 8), .long (gL S 58 9), .ref (eA E 65), .int (gI S 58 11), .int (gI S 58 12), .int (gI S 58 13), .int (gI S 58 14), .int (gI S 58 15), .ref (eA E 66), .ref (eA E 67), .ref (eA E 68), .ref (eA E 69), .ref (eA E 70), .ref (eA E 71), .long (gL S 58 22)]) := rfl
theorem cell_1 (E : En) (S : St) : cell E S 8 = .inr (1, [.ref (eA E 9)]) := rfl
theorem cell_2 (E : En) (S : St) : cell E S 5 = .inr (2, [.ref (eA E 6), .ref (eA E 7)]) := rfl
theorem rcv_X8 : rcv E S "GlowDebts" 0 := ⟨by omega, 4, _, _, cell_4 E S, rfl, rfl⟩
theorem rcv_X9 : rcv E S "GlowDebtsModel" 58 := ⟨by omega, 5, _, _, cell_5 E S, rfl, rfl⟩
theorem rcv_X4 : rcv E S "GlowDebts$Sets" 5 := ⟨by omega, 2, _, _, cell_2 E S, rfl, rfl⟩
theorem rcv_X1 : rcv E S "GlowDebts$Chains" 8 := ⟨by omega, 1, _, _, cell_1 E S, rfl, rfl⟩
theorem rcv_X0 {k : Nat} (h : kd k = 0) : rcv E S "GlowDebts$Bank" k := ⟨kd_lt h (by omega), 0, _, _, cell_0 E S h, rfl, rfl⟩
theorem rcv_X5 {k : Nat} (h : kd k = 3) : rcv E S "GlowDebts$Strip" k := ⟨kd_lt h (by omega), 3, _, _, cell_3 E S h, rfl, rfl⟩
theorem g_get {k ci j N idx : Nat} {C : String} {T : u_T} {fs : List Value} {v : Value} (hc : cell E S k = .inr (ci, fs)) (hk : k < 72) (hcl : vwCl[ci]? = some (C, T, N)) (hix : ∀ w ∈ u_ws C T N, w ∈ TT) (hj : j < N) (hw : Cond.fieldLink I.1.cls idx (T j).1 (T j).2.1 (T j).2.2.1 ∈ TT) (hv : fs[j]? = some v) (hd : decode I.2.1 pc = .ok (.getfield idx, 3)) (kk : G E X I S (pc + 3) L (v :: st)) : G E X I S pc L (.ref (eA E k) :: st) :=
  fun Y H locs ls hP hS hl => va_get Y.1 Y.2.1 Y.2.2.2.2.1 hix Y.2.2.2.1 Y.2.2.2.2.2.1.1 hP k ((wd_get hk).trans (by rw [hc])) hcl j hj (Y.2.2.2.2.1 _ hw) (fun _ h => h) hv hd (kk Y H locs ls hP hS hl)
theorem g_put {S' : St} {k ci j N idx : Nat} {C : String} {T : u_T} {fs : List Value} {v : Value} {ty : FieldType} (ty0 : Nat → FieldType) (hty : ∀ k, k < N → parseFieldDescriptor (T k).2.2.1 = some (ty0 k)) (hnm : ∀ a, a < N → ∀ b, b < N → a ≠ b → (T a).2.1 ≠ (T b).2.1) (hc : cell E S k = .inr (ci, fs)) (hc' : cell E S' k = .inr (ci, fs.set j v)) (ho : ∀ i, i < 72 → i ≠ k → cell E S' i = cell E S i) (hk : k < 72) (hcl : vwCl[ci]? = some (C, T, N)) (hix : ∀ w ∈ u_ws C T N, w ∈ TT) (hj : j < N) (hw : Cond.fieldLink I.1.cls idx (T j).1 (T j).2.1 (T j).2.2.1 ∈ TT) (hfin : (T j).2.2.2 = false) (htd : parseFieldDescriptor (T j).2.2.1 = some ty) (hn : narrow ty v = v) (hfit : fits ty v = true) (hl2 : j < fs.length) (hd : decode I.2.1 pc = .ok (.putfield idx, 3)) (kk : G E X I S' (pc + 3) L st) : G E X I S pc L (v :: .ref (eA E k) :: st) :=
  fun Y H locs ls hP hS hl => va_put Y.1 Y.2.1 Y.2.2.2.2.1 hix ty0 hty hnm Y.2.2.2.1 Y.2.2.2.2.2.1.1 hP (wd_D Y.2.2.2.2.2.1.2.2.2 Y.2.2.2.2.2.2.1) hS k ((wd_get hk).trans (by rw [hc])) hcl j hj (Y.2.2.2.2.1 _ hw) (fun _ h => h) hfin htd hn hfit hl2 hd (fun H1 locs1 hP1 _ hS1 => kk Y H1 locs1 ls (by rw [← hc', wd_set hk ho] at hP1; exact hP1) hS1 hl)
/-- a place of a row of ints is read -/
theorem g_iald (n : Nat) {k : Nat} {i : Int32} (hi : i = nI n) (hk : kd k = 6) (hn : n < ln k) (hb : ln k < 2 ^ 31) (hd : decode I.2.1 pc = .ok (.iaload, 1)) (kk : G E X I S (pc + 1) L (.int (gA S k n) :: st)) : G E X I S pc L (.int i :: .ref (eA E k) :: st) := by
  subst hi
  have hc : (nI n).toNatClampNeg = n := nI_clamp (by omega)
  intro Y H locs ls hP hS hl
  refine va_iald Y.1 Y.2.1 Y.2.2.2.2.2.1.1 hP k 0 ((wd_get (kd_lt hk (by omega))).trans (by rw [cell_6 E S hk])) rfl (vp_in_nI hn hb) hd ?_
  rw [hc]
  exact kk Y H locs ls hP hS hl
theorem g_iast (n : Nat) {k : Nat} {i x : Int32} (hi : i = nI n) (hk : kd k = 6) (hn : n < ln k) (hb : ln k < 2 ^ 31) (hd : decode I.2.1 pc = .ok (.iastore, 1)) (kk : G E X I (sA S k (upd (gA S k) n x)) (pc + 1) L st) : G E X I S pc L (.int x :: .int i :: .ref (eA E k) :: st) := by
  subst hi
  have hc : (nI n).toNatClampNeg = n := nI_clamp (by omega)
  have hk1 := kd_lt hk (by omega)
  intro Y H locs ls hP hS hl
  refine va_iast Y.1 Y.2.1 Y.2.2.2.2.2.1.1 hP (wd_D Y.2.2.2.2.2.1.2.2.2 Y.2.2.2.2.2.2.1) hS k 0 ((wd_get hk1).trans (by rw [cell_6 E S hk])) rfl (vp_in_nI hn hb) hd (fun H1 locs1 hP1 _ hS1 => kk Y H1 locs1 ls ?_ hS1 hl)
  have e := cell_6 E (sA S k (upd (gA S k) n x)) hk
  rw [gA_same] at e
  rw [hc, ← e, wd_set hk1 (fun i _ hne => cell_sA E S _ hne)] at hP1
  exact hP1
theorem g_alen {k : Nat} {v : Int32} (hk : kd k = 6) (hv : Int32.ofNat (ln k) = v) (hd : decode I.2.1 pc = .ok (.arraylength, 1)) (kk : G E X I S (pc + 1) L (.int v :: st)) : G E X I S pc L (.ref (eA E k) :: st) :=
  fun Y H locs ls hP hS hl => va_alen Y.1 Y.2.1 Y.2.2.2.2.2.1.1 hP k 0 ((wd_get (kd_lt hk (by omega))).trans (by rw [cell_6 E S hk])) rfl hv hd (kk Y H locs ls hP hS hl)
theorem g_alenS {k : Nat} {v : Int32} (hk : k = 1 ∨ k = 2) (hv : Int32.ofNat (ln k) = v) (hd : decode I.2.1 pc = .ok (.arraylength, 1)) (kk : G E X I S (pc + 1) L (.int v :: st)) : G E X I S pc L (.ref (eA E k) :: st) := by
  rcases hk with rfl | rfl
  · exact fun Y H locs ls hP hS hl => va_alen Y.1 Y.2.1 Y.2.2.2.2.2.1.1 hP 1 2 (wd_get (by omega)) rfl hv hd (kk Y H locs ls hP hS hl)
  · exact fun Y H locs ls hP hS hl => va_alen Y.1 Y.2.1 Y.2.2.2.2.2.1.1 hP 2 2 (wd_get (by omega)) rfl hv hd (kk Y H locs ls hP hS hl)
theorem g_alenB (hd : decode I.2.1 pc = .ok (.arraylength, 1)) (kk : G E X I S (pc + 1) L (.int 3 :: st)) : G E X I S pc L (.ref (eA E 3) :: st) :=
  fun Y H locs ls hP hS hl => va_alen Y.1 Y.2.1 Y.2.2.2.2.2.1.1 hP 3 1 (wd_get (by omega)) rfl rfl hd (kk Y H locs ls hP hS hl)
theorem g_aald1 (n : Nat) {i : Int32} (hi : i = nI n) (hn : n < 6) (hd : decode I.2.1 pc = .ok (.aaload, 1)) (kk : G E X I S (pc + 1) L (.ref (eA E (10 + n)) :: st)) : G E X I S pc L (.int i :: .ref (eA E 1) :: st) := by
  subst hi
  have hc : (nI n).toNatClampNeg = n := nI_clamp (by omega)
  intro Y H locs ls hP hS hl
  refine va_aldq Y.1 Y.2.1 Y.2.2.2.2.2.1.1 hP 1 2 (wd_get (by omega)) rfl (vp_in_nI (N := 6) hn (by omega)) hd ?_
  rw [hc]
  have e : (if n < ln 1 then some (eA E (if (1 : Nat) = 1 then 10 + n else 16 + n)) else none) = some (eA E (10 + n)) := by rw [if_pos (show n < ln 1 from hn), if_pos rfl]
  show Wx E X H locs (F0 _ _ _ (va_rf (if n < ln 1 then some (eA E (if (1 : Nat) = 1 then 10 + n else 16 + n)) else none) :: st))
  rw [e]
  exact kk Y H locs ls hP hS hl
theorem g_aald2 (n : Nat) {i : Int32} (hi : i = nI n) (hn : n < 4) (hd : decode I.2.1 pc = .ok (.aaload, 1)) (kk : G E X I S (pc + 1) L (.ref (eA E (16 + n)) :: st)) : G E X I S pc L (.int i :: .ref (eA E 2) :: st) := by
  subst hi
  have hc : (nI n).toNatClampNeg = n := nI_clamp (by omega)
  intro Y H locs ls hP hS hl
  refine va_aldq Y.1 Y.2.1 Y.2.2.2.2.2.1.1 hP 2 2 (wd_get (by omega)) rfl (vp_in_nI (N := 4) hn (by omega)) hd ?_
  rw [hc]
  have e : (if n < ln 2 then some (eA E (if (2 : Nat) = 1 then 10 + n else 16 + n)) else none) = some (eA E (16 + n)) := by rw [if_pos (show n < ln 2 from hn), if_neg (by omega)]
  show Wx E X H locs (F0 _ _ _ (va_rf (if n < ln 2 then some (eA E (if (2 : Nat) = 1 then 10 + n else 16 + n)) else none) :: st))
  rw [e]
  exact kk Y H locs ls hP hS hl
theorem g_aald3 (n : Nat) {i : Int32} (hi : i = nI n) (hn : n < 3) (hd : decode I.2.1 pc = .ok (.aaload, 1)) (kk : G E X I S (pc + 1) L (.ref (eA E (31 + n)) :: st)) : G E X I S pc L (.int i :: .ref (eA E 3) :: st) := by
  subst hi
  have hc : (nI n).toNatClampNeg = n := nI_clamp (by omega)
  intro Y H locs ls hP hS hl
  refine va_aldq Y.1 Y.2.1 Y.2.2.2.2.2.1.1 hP 3 1 (wd_get (by omega)) rfl (vp_in_nI (N := 3) hn (by omega)) hd ?_
  rw [hc]
  have e : (if n < 3 then some (eA E (31 + n)) else none) = some (eA E (31 + n)) := if_pos hn
  show Wx E X H locs (F0 _ _ _ (va_rf (if n < 3 then some (eA E (31 + n)) else none) :: st))
  rw [e]
  exact kk Y H locs ls hP hS hl
theorem g_letters (ho : I.1.cls = RX2) (hd : decode I.2.1 pc = .ok (.getstatic 9, 3)) (kk : G E X I S (pc + 3) L (.ref (eT E) :: st)) : G E X I S pc L st :=
  fun Y H locs ls hP hS hl => va_gets Y.1 Y.2.1 Y.2.2.2.2.2.1.2.2.1.1 hS Y.2.2.2.1 (Y.2.2.2.2.1 _ (ho ▸ fw_X2_9)) (fun _ h => h) hd (kk Y H locs ls hP hS hl)
theorem g_tlen (hd : decode I.2.1 pc = .ok (.arraylength, 1)) (kk : G E X I S (pc + 1) L (.int 6 :: st)) : G E X I S pc L (.ref (eT E) :: st) :=
  fun Y H locs ls hP hS hl => va_tlen Y.1 Y.2.1 Y.2.2.2.2.2.1.2.2.1.2 hS rfl hd (kk Y H locs ls hP hS hl)
theorem g_tald (n : Nat) {i : Int32} (hi : i = nI n) (hn : n < 6) (hd : decode I.2.1 pc = .ok (.iaload, 1)) (kk : G E X I S (pc + 1) L (letV n :: st)) : G E X I S pc L (.int i :: .ref (eT E) :: st) := by
  subst hi
  have hc : (nI n).toNatClampNeg = n := nI_clamp (by omega)
  exact fun Y H locs ls hP hS hl => va_ti Y.1 Y.2.1 Y.2.2.2.2.2.1.2.2.1.2 hS (vp_in_nI hn (by omega)) (by rw [hc]) hd (kk Y H locs ls hP hS hl)
theorem g_max {idx : Nat} {x y : Int32} (hw : Cond.methodLink I.1.cls idx Lib.Math.max.name ∈ TT) (hd : decode I.2.1 pc = .ok (.invokestatic idx, 3)) (h1 : 1 ≤ I.2.2.2.2) (h2 : (st.map fun v => v.category).sum + 13 ≤ 37) (kk : G E X I S (pc + 3) L (.int (if x < y then y else x) :: st)) : G E X I S pc L (.int y :: .int x :: st) :=
  fun Y H locs ls hP hS hl => va_mmax Y.1 Y.2.1 (Y.2.2.1.trans hl.1.symm) Y.2.2.2.1 (Y.2.2.2.2.1 _ hw) (Y.2.2.2.2.1 _ lw_max_s) (Y.2.2.2.2.1 _ in_J9) (Y.2.2.2.2.1 _ lw_max_c) (by have := Y.2.2.2.2.2.2.2.2.1.1; omega) (by have := Y.2.2.2.2.2.2.2.2.1.2; omega) Y.2.2.2.2.2.2.2.2.2.1 Y.2.2.2.2.2.2.2.2.2.2 hd (kk Y H locs ls hP hS hl)
theorem g_min {idx : Nat} {x y : Int32} (hw : Cond.methodLink I.1.cls idx Lib.Math.min.name ∈ TT) (hd : decode I.2.1 pc = .ok (.invokestatic idx, 3)) (h1 : 1 ≤ I.2.2.2.2) (h2 : (st.map fun v => v.category).sum + 13 ≤ 37) (kk : G E X I S (pc + 3) L (.int (if y < x then y else x) :: st)) : G E X I S pc L (.int y :: .int x :: st) :=
  fun Y H locs ls hP hS hl => va_mmin Y.1 Y.2.1 (Y.2.2.1.trans hl.1.symm) Y.2.2.2.1 (Y.2.2.2.2.1 _ hw) (Y.2.2.2.2.1 _ lw_min_s) (Y.2.2.2.2.1 _ in_J9) (Y.2.2.2.2.1 _ lw_min_c) (by have := Y.2.2.2.2.2.2.2.2.1.1; omega) (by have := Y.2.2.2.2.2.2.2.2.1.2; omega) Y.2.2.2.2.2.2.2.2.2.1 Y.2.2.2.2.2.2.2.2.2.2 hd (kk Y H locs ls hP hS hl)
theorem g_abs {idx : Nat} {x : Int32} (hw : Cond.methodLink I.1.cls idx Lib.Math.abs.name ∈ TT) (hd : decode I.2.1 pc = .ok (.invokestatic idx, 3)) (h1 : 1 ≤ I.2.2.2.2) (h2 : (st.map fun v => v.category).sum + 13 ≤ 37) (kk : G E X I S (pc + 3) L (.int (if 0 ≤ x then x else 0 - x) :: st)) : G E X I S pc L (.int x :: st) :=
  fun Y H locs ls hP hS hl => va_mabs Y.1 Y.2.1 (Y.2.2.1.trans hl.1.symm) Y.2.2.2.1 (Y.2.2.2.2.1 _ hw) (Y.2.2.2.2.1 _ lw_abs_s) (Y.2.2.2.2.1 _ in_J9) (Y.2.2.2.2.1 _ lw_abs_c) (by have := Y.2.2.2.2.2.2.2.2.1.1; omega) (by have := Y.2.2.2.2.2.2.2.2.1.2; omega) Y.2.2.2.2.2.2.2.2.2.1 Y.2.2.2.2.2.2.2.2.2.2 hd (kk Y H locs ls hP hS hl)
/-- System.arraycopy between rows of ints (one and the same, too) -/
theorem g_copy (a b z : Nat) {idx k0 k1 : Nat} {sp dp n : Int32} (hw : Cond.methodLink I.1.cls idx arraycopyName ∈ TT) (ha : sp = nI a) (hb : dp = nI b) (hz : n = nI z) (hk0 : kd k0 = 6) (hk1 : kd k1 = 6) (h4 : a + z ≤ ln k0) (h5 : b + z ≤ ln k1) (hb0 : ln k0 < 2 ^ 31) (hb1 : ln k1 < 2 ^ 31) (hd : decode I.2.1 pc = .ok (.invokestatic idx, 3)) (h1 : 1 ≤ I.2.2.2.2) (h2 : (st.map fun v => v.category).sum + 18 ≤ 37)
    (kk : G E X I (sA S k1 (va_cpy (gA S k0) (gA S k1) a b z)) (pc + 3) L st) : G E X I S pc L (.int n :: .int dp :: .ref (eA E k1) :: .int sp :: .ref (eA E k0) :: st) := by
  subst ha; subst hb; subst hz
  have c1 : (nI a).toNatClampNeg = a := nI_clamp (by omega)
  have c2 : (nI b).toNatClampNeg = b := nI_clamp (by omega)
  have c3 : (nI z).toNatClampNeg = z := nI_clamp (by omega)
  have q0 := kd_lt hk0 (by omega)
  have q1 := kd_lt hk1 (by omega)
  intro Y H locs ls hP hS hl
  refine va_copyi Y.1 Y.2.1 (Y.2.2.1.trans hl.1.symm) Y.2.2.2.1 (Y.2.2.2.2.1 _ hw) (Y.2.2.2.2.1 _ lw_copy_n) (Y.2.2.2.2.1 _ lw_copy_s) (Y.2.2.2.2.1 _ in_J10) Y.2.2.2.2.2.1.1 hP (wd_D Y.2.2.2.2.2.1.2.2.2 Y.2.2.2.2.2.2.1) hS k0 k1 0 0 (ty := .int) ((wd_get q0).trans (by rw [cell_6 E S hk0])) ((wd_get q1).trans (by rw [cell_6 E S hk1])) rfl rfl rfl (nI_pos (by omega)) (nI_pos (by omega)) (nI_pos (by omega)) (by rw [c1, c3]; exact h4) (by rw [c2, c3]; exact h5) (fun _ _ => rfl) (by have := Y.2.2.2.2.2.2.2.2.1.1; omega) ?_ hd (fun H1 locs1 hP1 _ hS1 => kk Y H1 locs1 ls ?_ hS1 hl)
  · have := Y.2.2.2.2.2.2.2.2.1.2
    have e : nativeFrameWords "java/lang/System" "arraycopy" 5 = 7 := by decide +kernel
    rw [e]
    omega
  · have e := cell_6 E (sA S k1 (va_cpy (gA S k0) (gA S k1) a b z)) hk1
    rw [gA_same] at e
    rw [c1, c2, c3, ← e, wd_set q1 (fun i _ hne => cell_sA E S _ hne)] at hP1
    exact hP1
/-- the one call of a private method of another class: Chains asks isPerson -/
theorem g_nest {As L2 : List Value} {Post : St → Option Value → Prop} (ho : I.1.cls = RX1) (hd : decode I.2.1 pc = .ok (.invokestatic 29, 3)) (hn : As.length = 1) (hc : CT E i_X8_isPerson S As Post) (hdep : i_X8_isPerson.2.2.2.2 + 1 ≤ I.2.2.2.2) (hst : st = As.reverse ++ L2) (hrest : (L2.map fun v => v.category).sum ≤ 8)
    (kk : ∀ (S' : St) (r : Option Value), Post S' r → G E X I S' (pc + 3) L (r.toList ++ L2)) : G E X I S pc L st := by
  intro Y H locs ls hP hS hl
  obtain ⟨hx, hb, hml, hown, hts, hK, hA, hlk, ⟨hf, hlo⟩, hcc, hss⟩ := id Y
  obtain ⟨hJ1, hJ2⟩ := j_X8_isPerson
  have hAD := AD_A hA
  have hpg : ∀ w ∈ wsD i_X8_isPerson, w ∈ TT ∧ ((w.onTables && w.keeps) = true ∨ ∃ ty, w = .arrayClass ty) := by
    intro w hw
    rcases List.mem_cons.mp hw with rfl | hw
    · exact hJ2 _ (by simp)
    · exact TT_ok w hw
  have cb := va_cnB (R := xR X) (s := xs X) (args := xa X) (own := I.1.cls) (host := "GlowDebts") (index := 29) (y := yX8_isPerson) (rm := rmD i_X8_isPerson.2.2.2.2) (mc := 0) (ms := 0) 1 hts hpg rfl rfl rfl (by rw [ho]; exact hK.2.1) (hts _ (hJ2 _ (by simp)).1) hJ1 ⟨by show i_X8_isPerson.2.2.2.2 + 1 ≤ _; omega, by show 8 + (1 + 11) + 37 * i_X8_isPerson.2.2.2.2 ≤ _; omega⟩
  have hrun := va_runSN (y := yX8_isPerson) (l := eN E) (e := xe X) (below := xb X) (meth := xM X) (locs := locs) (cells := xk X) (slots := xn X) (rest := L2) (g := F0 (xm X) pc ls st) (nL := I.2.2.1) (H := H) (Ts := TT) ⟨hx, hb, hml, hown, hts⟩ hc ⟨cb, hts _ (hJ2 _ (by simp)).1, trivial⟩
    ⟨fun a U g mk z => ⟨z.1, z.2.1, Kn_blind a g mk z.2.2⟩, fun U hU hW => ⟨rfl, by rw [hU]; exact hP, Kn_call hK hAD hS hU hW⟩⟩
    rfl hn hl.1 hst (lv_room hrest) hd ⟨by omega, by omega⟩
  exact g_runB hrun hS hAD (fun S' r H1 locs1 hp hP1 hS1 => kk S' r hp Y H1 locs1 ls hP1 hS1 hl)
/-- the calls, told exactly: an answer, or none -/
theorem g_invV {J : Ym} {n idx : Nat} {k : Nat} {As L2 : List Value} {S1 : St} {v : Value} (hJ : JV J n) (hm : Cond.methodLink I.1.cls idx J.1 ∈ TT) (hd : decode I.2.1 pc = .ok (.invokevirtual idx, 3)) (hk : rcv E S J.1.cls k) (hn : As.length = n) (hc : CTe E J S (.ref (eA E k) :: As) S1 (some v)) (hdep : J.2.2.2.2 + 1 ≤ I.2.2.2.2) (hnl : J.2.2.1 ≤ 18) (hst : st = As.reverse ++ .ref (eA E k) :: L2) (hrest : (L2.map fun v => v.category).sum ≤ 8) (kk : G E X I S1 (pc + 3) L (v :: L2)) : G E X I S pc L st :=
  g_invR hJ hm hd hk hn hc hdep hnl hst hrest (fun S' r h => by obtain ⟨rfl, rfl⟩ := h; exact kk)
theorem g_invN {J : Ym} {n idx : Nat} {k : Nat} {As L2 : List Value} {S1 : St} (hJ : JV J n) (hm : Cond.methodLink I.1.cls idx J.1 ∈ TT) (hd : decode I.2.1 pc = .ok (.invokevirtual idx, 3)) (hk : rcv E S J.1.cls k) (hn : As.length = n) (hc : CTe E J S (.ref (eA E k) :: As) S1 none) (hdep : J.2.2.2.2 + 1 ≤ I.2.2.2.2) (hnl : J.2.2.1 ≤ 18) (hst : st = As.reverse ++ .ref (eA E k) :: L2) (hrest : (L2.map fun v => v.category).sum ≤ 8) (kk : G E X I S1 (pc + 3) L L2) : G E X I S pc L st :=
  g_invR hJ hm hd hk hn hc hdep hnl hst hrest (fun S' r h => by obtain ⟨rfl, rfl⟩ := h; exact kk)
theorem g_invS {J : Ym} {n idx : Nat} {As L2 : List Value} {S1 : St} {v : Value} (hJ : JS J n) (hm : Cond.methodLink I.1.cls idx J.1 ∈ TT) (hd : decode I.2.1 pc = .ok (.invokestatic idx, 3)) (hn : As.length = n) (hc : CTe E J S As S1 (some v)) (hdep : J.2.2.2.2 + 1 ≤ I.2.2.2.2) (hnl : J.2.2.1 ≤ 18) (hst : st = As.reverse ++ L2) (hrest : (L2.map fun v => v.category).sum ≤ 8) (kk : G E X I S1 (pc + 3) L (v :: L2)) : G E X I S pc L st :=
  g_invSR hJ hm hd hn hc hdep hnl hst hrest (fun S' r h => by obtain ⟨rfl, rfl⟩ := h; exact kk)
theorem g_invSN {J : Ym} {n idx : Nat} {As L2 : List Value} {S1 : St} (hJ : JS J n) (hm : Cond.methodLink I.1.cls idx J.1 ∈ TT) (hd : decode I.2.1 pc = .ok (.invokestatic idx, 3)) (hn : As.length = n) (hc : CTe E J S As S1 none) (hdep : J.2.2.2.2 + 1 ≤ I.2.2.2.2) (hnl : J.2.2.1 ≤ 18) (hst : st = As.reverse ++ L2) (hrest : (L2.map fun v => v.category).sum ≤ 8) (kk : G E X I S1 (pc + 3) L L2) : G E X I S pc L st :=
  g_invSR hJ hm hd hn hc hdep hnl hst hrest (fun S' r h => by obtain ⟨rfl, rfl⟩ := h; exact kk)
/-- what a method's end needs of where it stands -/
def MX (E : En) (X : Xt) (I : Ym) (Post : St → Option Value → Prop) : Prop := xQ X = MQ (xb X) (Qg E Post) (xa X) (xs X) 0 0 (AD E) ∧ xA X = AD E ∧ (xM X).sig.returnType = I.2.2.2.1 ∧ xk X = 0 ∧ xn X = 0
theorem ct_of {args : List Value} {Post : St → Option Value → Prop} (L : List (Nat × Value)) (hy : plainName I.1.cls = true) (hlen : (lg_sl args).length ≤ I.2.2.1) (hL : lv_args 0 args = L) (hg : ∀ X, MX E X I Post → G E X I S 0 L []) : CT E I S args Post := by
  refine Met.ofW (cc := I.2.1) (maxL := I.2.2.1) (ret := I.2.2.2.1) hy rfl ?_
  intro p e s m as below meth c s₁ B hml hv
  obtain ⟨rfl, hP, hK⟩ := hv
  have hown : s.vm.findClass I.1.cls = some m.cls := findClass_of_methodNamed B.named
  have hts := atoms_spec (ws := wsD I) B.pre
  have hl := lv_entry args (n := I.2.2.1) hlen
  rw [lg_entry_eq]
  generalize (lg_sl args ++ List.replicate (I.2.2.1 - (lg_sl args).length) Slot.unset).toArray = ls at hl ⊢
  rw [hL] at hl
  exact hg ((p, e, rmD I.2.2.2.2, s), (m, args.toArray, below, meth, c), (0, 0), AD E, MQ below (Qg E Post) args.toArray s 0 0 (AD E)) ⟨rfl, rfl, B.returns, rfl, rfl⟩
    ⟨B.exec, B.bytes, hml, hown, fun w hw => hts w (List.mem_cons_of_mem _ hw), hK, fun k hk => ⟨k, hk, rfl⟩, B.notSynchronized, ⟨Nat.le_refl _, Nat.le_refl _⟩, Nat.zero_le _, Nat.zero_le _⟩ s.heap [] ls hP va_S.rf hl
theorem g_post {H : Heap} {locs : List Loc} {Post : St → Option Value → Prop} (hM : MX E X I Post) (hP : va_P (eD E) vwCl (wd E S) H) (hS : va_S (xA X) (xs X).heap H locs) {r : Option Value} (hp : Post S r) : (∀ t : State, t.heap = H → (xs X).WarmedH t.vm → Qg E Post (xa X) (xs X) (.returned r) t) ∧ (∀ q ∈ locs, AD E q.base) := by
  rw [hM.2.1] at hS
  exact ⟨fun t ht hW => ⟨⟨S, r, rfl, hp, by rw [ht]; exact hP⟩, hS.F ht⟩, hS.2.2⟩
theorem g_iret {Post : St → Option Value → Prop} {v : Int32} {ty : FieldType} (hM : MX E X I Post) (hr : I.2.2.2.1 = some ty) (hn : narrow ty (.int v) = .int v) (hp : Post S (some (.int v))) (hd : decode I.2.1 pc = .ok (.ireturn, 1)) : G E X I S pc L [.int v] := by
  intro Y H locs ls hP hS hl
  obtain ⟨h1, h2⟩ := g_post hM hP hS hp
  show W _ _ _ _ _ _ _ _ _ _ _ _ _ _ (xQ X) _
  rw [hM.1, hM.2.2.2.1, hM.2.2.2.2]
  exact W.zret (v := v) (ty := ty) Y.1 Y.2.1 (hM.2.2.1.trans hr) hn h1 h2 hd (hlocks := Y.2.2.2.2.2.2.2.1)
theorem g_lret {Post : St → Option Value → Prop} {v : Int64} (hM : MX E X I Post) (hr : I.2.2.2.1 = some .long) (hp : Post S (some (.long v))) (hd : decode I.2.1 pc = .ok (.lreturn, 1)) : G E X I S pc L [.long v] := by
  intro Y H locs ls hP hS hl
  obtain ⟨h1, h2⟩ := g_post hM hP hS hp
  show W _ _ _ _ _ _ _ _ _ _ _ _ _ _ (xQ X) _
  rw [hM.1, hM.2.2.2.1, hM.2.2.2.2]
  exact W.lret (v := v) Y.1 Y.2.1 (hM.2.2.1.trans hr) h1 h2 hd (hlocks := Y.2.2.2.2.2.2.2.1)
theorem g_vret {Post : St → Option Value → Prop} (hM : MX E X I Post) (hr : I.2.2.2.1 = none) (hp : Post S none) (hd : decode I.2.1 pc = .ok (.return_, 1)) : G E X I S pc L [] := by
  intro Y H locs ls hP hS hl
  obtain ⟨h1, h2⟩ := g_post hM hP hS hp
  show W _ _ _ _ _ _ _ _ _ _ _ _ _ _ (xQ X) _
  rw [hM.1, hM.2.2.2.1, hM.2.2.2.2]
  exact W.vret Y.1 Y.2.1 (hM.2.2.1.trans hr) h1 h2 hd (hlocks := Y.2.2.2.2.2.2.2.1)
theorem g_aret {Post : St → Option Value → Prop} {v : Value} {C : String} (hM : MX E X I Post) (hr : I.2.2.2.1 = some (.object C)) (hv : v = .null ∨ ∃ a, v = .ref a) (hp : Post S (some v)) (hd : decode I.2.1 pc = .ok (.areturn, 1)) : G E X I S pc L [v] := by
  intro Y H locs ls hP hS hl
  obtain ⟨h1, h2⟩ := g_post hM hP hS hp
  show W _ _ _ _ _ _ _ _ _ _ _ _ _ _ (xQ X) _
  rw [hM.1, hM.2.2.2.1, hM.2.2.2.2]
  exact W.aret (v := v) Y.1 Y.2.1 (hM.2.2.1.trans hr) (Or.inl ⟨C, rfl⟩) hv h1 h2 hd (hlocks := Y.2.2.2.2.2.2.2.1)
theorem pf_X8_47 {x : Int32} (ho : I.1.cls = RX8) (hd : decode I.2.1 pc = .ok (.putfield 47, 3)) (kk : G E X I (sI S 0 7 x) (pc + 3) L st) : G E X I S pc L (.int x :: .ref (eA E 0) :: st) := by
  have e := (cell_4 E (sI S 0 7 x))
  simp only [gI_sI, gL_sI, gI_sL, gL_sL] at e
  exact g_put (k := 0) (j := 7) (ty := .int) tyX8 tyX8_ok nmX8 (cell_4 E S) (e.trans (by simp)) (fun i _ hne => cell_sI E S _ hne) (by omega) rfl ix_X8 (by omega) (ho ▸ fw_X8_47) rfl (by decide +kernel) rfl rfl (by show 7 < 11; omega) hd kk
theorem pf_X8_51 {x : Int32} (ho : I.1.cls = RX8) (hd : decode I.2.1 pc = .ok (.putfield 51, 3)) (kk : G E X I (sI S 0 8 x) (pc + 3) L st) : G E X I S pc L (.int x :: .ref (eA E 0) :: st) := by
  have e := (cell_4 E (sI S 0 8 x))
  simp only [gI_sI, gL_sI, gI_sL, gL_sL] at e
  exact g_put (k := 0) (j := 8) (ty := .int) tyX8 tyX8_ok nmX8 (cell_4 E S) (e.trans (by simp)) (fun i _ hne => cell_sI E S _ hne) (by omega) rfl ix_X8 (by omega) (ho ▸ fw_X8_51) rfl (by decide +kernel) rfl rfl (by show 8 < 11; omega) hd kk
theorem pf_X8_54 {x : Int64} (ho : I.1.cls = RX8) (hd : decode I.2.1 pc = .ok (.putfield 54, 3)) (kk : G E X I (sL S 0 9 x) (pc + 3) L st) : G E X I S pc L (.long x :: .ref (eA E 0) :: st) := by
  have e := (cell_4 E (sL S 0 9 x))
  simp only [gI_sI, gL_sI, gI_sL, gL_sL] at e
  exact g_put (k := 0) (j := 9) (ty := .long) tyX8 tyX8_ok nmX8 (cell_4 E S) (e.trans (by simp)) (fun i _ hne => cell_sL E S _ hne) (by omega) rfl ix_X8 (by omega) (ho ▸ fw_X8_54) rfl (by decide +kernel) rfl rfl (by show 9 < 11; omega) hd kk
theorem pf_X8_58 {x : Int64} (ho : I.1.cls = RX8) (hd : decode I.2.1 pc = .ok (.putfield 58, 3)) (kk : G E X I (sL S 0 10 x) (pc + 3) L st) : G E X I S pc L (.long x :: .ref (eA E 0) :: st) := by
  have e := (cell_4 E (sL S 0 10 x))
  simp only [gI_sI, gL_sI, gI_sL, gL_sL] at e
  exact g_put (k := 0) (j := 10) (ty := .long) tyX8 tyX8_ok nmX8 (cell_4 E S) (e.trans (by simp)) (fun i _ hne => cell_sL E S _ hne) (by omega) rfl ix_X8 (by omega) (ho ▸ fw_X8_58) rfl (by decide +kernel) rfl rfl (by show 10 < 11; omega) hd kk
theorem gf_X8_11 (ho : I.1.cls = RX8) (hd : decode I.2.1 pc = .ok (.getfield 11, 3)) (kk : G E X I S (pc + 3) L (.ref (eA E 1) :: st)) : G E X I S pc L (.ref (eA E 0) :: st) := g_get (k := 0) (j := 0) (cell_4 E S) (by omega) rfl ix_X8 (by omega) (ho ▸ fw_X8_11) rfl hd kk
theorem gf_X8_15 (ho : I.1.cls = RX8) (hd : decode I.2.1 pc = .ok (.getfield 15, 3)) (kk : G E X I S (pc + 3) L (.ref (eA E 2) :: st)) : G E X I S pc L (.ref (eA E 0) :: st) := g_get (k := 0) (j := 1) (cell_4 E S) (by omega) rfl ix_X8 (by omega) (ho ▸ fw_X8_15) rfl hd kk
theorem gf_X8_25 (ho : I.1.cls = RX8) (hd : decode I.2.1 pc = .ok (.getfield 25, 3)) (kk : G E X I S (pc + 3) L (.ref (eA E 3) :: st)) : G E X I S pc L (.ref (eA E 0) :: st) := g_get (k := 0) (j := 3) (cell_4 E S) (by omega) rfl ix_X8 (by omega) (ho ▸ fw_X8_25) rfl hd kk
theorem gf_X8_21 (ho : I.1.cls = RX8) (hd : decode I.2.1 pc = .ok (.getfield 21, 3)) (kk : G E X I S (pc + 3) L (.ref (eA E 30) :: st)) : G E X I S pc L (.ref (eA E 0) :: st) := g_get (k := 0) (j := 2) (cell_4 E S) (by omega) rfl ix_X8 (by omega) (ho ▸ fw_X8_21) rfl hd kk
theorem gf_X8_32 (ho : I.1.cls = RX8) (hd : decode I.2.1 pc = .ok (.getfield 32, 3)) (kk : G E X I S (pc + 3) L (.ref (eA E 5) :: st)) : G E X I S pc L (.ref (eA E 0) :: st) := g_get (k := 0) (j := 4) (cell_4 E S) (by omega) rfl ix_X8 (by omega) (ho ▸ fw_X8_32) rfl hd kk
theorem gf_X8_39 (ho : I.1.cls = RX8) (hd : decode I.2.1 pc = .ok (.getfield 39, 3)) (kk : G E X I S (pc + 3) L (.ref (eA E 8) :: st)) : G E X I S pc L (.ref (eA E 0) :: st) := g_get (k := 0) (j := 5) (cell_4 E S) (by omega) rfl ix_X8 (by omega) (ho ▸ fw_X8_39) rfl hd kk
theorem gf_X8_51 (ho : I.1.cls = RX8) (hd : decode I.2.1 pc = .ok (.getfield 51, 3)) (kk : G E X I S (pc + 3) L (.int (gI S 0 8) :: st)) : G E X I S pc L (.ref (eA E 0) :: st) := g_get (k := 0) (j := 8) (cell_4 E S) (by omega) rfl ix_X8 (by omega) (ho ▸ fw_X8_51) rfl hd kk
theorem gf_X8_54 (ho : I.1.cls = RX8) (hd : decode I.2.1 pc = .ok (.getfield 54, 3)) (kk : G E X I S (pc + 3) L (.long (gL S 0 9) :: st)) : G E X I S pc L (.ref (eA E 0) :: st) := g_get (k := 0) (j := 9) (cell_4 E S) (by omega) rfl ix_X8 (by omega) (ho ▸ fw_X8_54) rfl hd kk
theorem gf_X8_58 (ho : I.1.cls = RX8) (hd : decode I.2.1 pc = .ok (.getfield 58, 3)) (kk : G E X I S (pc + 3) L (.long (gL S 0 10) :: st)) : G E X I S pc L (.ref (eA E 0) :: st) := g_get (k := 0) (j := 10) (cell_4 E S) (by omega) rfl ix_X8 (by omega) (ho ▸ fw_X8_58) rfl hd kk
theorem gf_X8_47 (ho : I.1.cls = RX8) (hd : decode I.2.1 pc = .ok (.getfield 47, 3)) (kk : G E X I S (pc + 3) L (.int (gI S 0 7) :: st)) : G E X I S pc L (.ref (eA E 0) :: st) := g_get (k := 0) (j := 7) (cell_4 E S) (by omega) rfl ix_X8 (by omega) (ho ▸ fw_X8_47) rfl hd kk
theorem gf_X8_43 (ho : I.1.cls = RX8) (hd : decode I.2.1 pc = .ok (.getfield 43, 3)) (kk : G E X I S (pc + 3) L (.ref (eA E 4) :: st)) : G E X I S pc L (.ref (eA E 0) :: st) := g_get (k := 0) (j := 6) (cell_4 E S) (by omega) rfl ix_X8 (by omega) (ho ▸ fw_X8_43) rfl hd kk
theorem pf_X9_28 {x : Int64} (ho : I.1.cls = RX9) (hd : decode I.2.1 pc = .ok (.putfield 28, 3)) (kk : G E X I (sL S 58 9 x) (pc + 3) L st) : G E X I S pc L (.long x :: .ref (eA E 58) :: st) := by
  have e := (cell_5 E (sL S 58 9 x))
  simp only [gI_sI, gL_sI, gI_sL, gL_sL] at e
  exact g_put (k := 58) (j := 9) (ty := .long) tyX9 tyX9_ok nmX9 (cell_5 E S) (e.trans (by simp)) (fun i _ hne => cell_sL E S _ hne) (by omega) rfl ix_X9 (by omega) (ho ▸ fw_X9_28) rfl (by decide +kernel) rfl rfl (by show 9 < 23; omega) hd kk
theorem gf_X9_13 (ho : I.1.cls = RX9) (hd : decode I.2.1 pc = .ok (.getfield 13, 3)) (kk : G E X I S (pc + 3) L (.ref (eA E 60) :: st)) : G E X I S pc L (.ref (eA E 58) :: st) := g_get (k := 58) (j := 1) (cell_5 E S) (by omega) rfl ix_X9 (by omega) (ho ▸ fw_X9_13) rfl hd kk
theorem gf_X9_19 (ho : I.1.cls = RX9) (hd : decode I.2.1 pc = .ok (.getfield 19, 3)) (kk : G E X I S (pc + 3) L (.ref (eA E 62) :: st)) : G E X I S pc L (.ref (eA E 58) :: st) := g_get (k := 58) (j := 3) (cell_5 E S) (by omega) rfl ix_X9 (by omega) (ho ▸ fw_X9_19) rfl hd kk
theorem pf_X9_53 {x : Int32} (ho : I.1.cls = RX9) (hd : decode I.2.1 pc = .ok (.putfield 53, 3)) (kk : G E X I (sI S 58 5 x) (pc + 3) L st) : G E X I S pc L (.int x :: .ref (eA E 58) :: st) := by
  have e := (cell_5 E (sI S 58 5 x))
  simp only [gI_sI, gL_sI, gI_sL, gL_sL] at e
  exact g_put (k := 58) (j := 5) (ty := .int) tyX9 tyX9_ok nmX9 (cell_5 E S) (e.trans (by simp)) (fun i _ hne => cell_sI E S _ hne) (by omega) rfl ix_X9 (by omega) (ho ▸ fw_X9_53) rfl (by decide +kernel) rfl rfl (by show 5 < 23; omega) hd kk
theorem gf_X9_25 (ho : I.1.cls = RX9) (hd : decode I.2.1 pc = .ok (.getfield 25, 3)) (kk : G E X I S (pc + 3) L (.ref (eA E 64) :: st)) : G E X I S pc L (.ref (eA E 58) :: st) := g_get (k := 58) (j := 6) (cell_5 E S) (by omega) rfl ix_X9 (by omega) (ho ▸ fw_X9_25) rfl hd kk
theorem pf_X9_57 {x : Int32} (ho : I.1.cls = RX9) (hd : decode I.2.1 pc = .ok (.putfield 57, 3)) (kk : G E X I (sI S 58 7 x) (pc + 3) L st) : G E X I S pc L (.int x :: .ref (eA E 58) :: st) := by
  have e := (cell_5 E (sI S 58 7 x))
  simp only [gI_sI, gL_sI, gI_sL, gL_sL] at e
  exact g_put (k := 58) (j := 7) (ty := .int) tyX9 tyX9_ok nmX9 (cell_5 E S) (e.trans (by simp)) (fun i _ hne => cell_sI E S _ hne) (by omega) rfl ix_X9 (by omega) (ho ▸ fw_X9_57) rfl (by decide +kernel) rfl rfl (by show 7 < 23; omega) hd kk
theorem gf_X9_7 (ho : I.1.cls = RX9) (hd : decode I.2.1 pc = .ok (.getfield 7, 3)) (kk : G E X I S (pc + 3) L (.ref (eA E 59) :: st)) : G E X I S pc L (.ref (eA E 58) :: st) := g_get (k := 58) (j := 0) (cell_5 E S) (by omega) rfl ix_X9 (by omega) (ho ▸ fw_X9_7) rfl hd kk
theorem gf_X9_16 (ho : I.1.cls = RX9) (hd : decode I.2.1 pc = .ok (.getfield 16, 3)) (kk : G E X I S (pc + 3) L (.ref (eA E 61) :: st)) : G E X I S pc L (.ref (eA E 58) :: st) := g_get (k := 58) (j := 2) (cell_5 E S) (by omega) rfl ix_X9 (by omega) (ho ▸ fw_X9_16) rfl hd kk
theorem gf_X9_32 (ho : I.1.cls = RX9) (hd : decode I.2.1 pc = .ok (.getfield 32, 3)) (kk : G E X I S (pc + 3) L (.ref (eA E 65) :: st)) : G E X I S pc L (.ref (eA E 58) :: st) := g_get (k := 58) (j := 10) (cell_5 E S) (by omega) rfl ix_X9 (by omega) (ho ▸ fw_X9_32) rfl hd kk
theorem gf_X9_22 (ho : I.1.cls = RX9) (hd : decode I.2.1 pc = .ok (.getfield 22, 3)) (kk : G E X I S (pc + 3) L (.ref (eA E 63) :: st)) : G E X I S pc L (.ref (eA E 58) :: st) := g_get (k := 58) (j := 4) (cell_5 E S) (by omega) rfl ix_X9 (by omega) (ho ▸ fw_X9_22) rfl hd kk
theorem gf_X9_83 (ho : I.1.cls = RX9) (hd : decode I.2.1 pc = .ok (.getfield 83, 3)) (kk : G E X I S (pc + 3) L (.int (gI S 58 12) :: st)) : G E X I S pc L (.ref (eA E 58) :: st) := g_get (k := 58) (j := 12) (cell_5 E S) (by omega) rfl ix_X9 (by omega) (ho ▸ fw_X9_83) rfl hd kk
theorem gf_X9_86 (ho : I.1.cls = RX9) (hd : decode I.2.1 pc = .ok (.getfield 86, 3)) (kk : G E X I S (pc + 3) L (.int (gI S 58 13) :: st)) : G E X I S pc L (.ref (eA E 58) :: st) := g_get (k := 58) (j := 13) (cell_5 E S) (by omega) rfl ix_X9 (by omega) (ho ▸ fw_X9_86) rfl hd kk
theorem gf_X9_89 (ho : I.1.cls = RX9) (hd : decode I.2.1 pc = .ok (.getfield 89, 3)) (kk : G E X I S (pc + 3) L (.int (gI S 58 11) :: st)) : G E X I S pc L (.ref (eA E 58) :: st) := g_get (k := 58) (j := 11) (cell_5 E S) (by omega) rfl ix_X9 (by omega) (ho ▸ fw_X9_89) rfl hd kk
theorem pf_X9_96 {x : Int32} (ho : I.1.cls = RX9) (hd : decode I.2.1 pc = .ok (.putfield 96, 3)) (kk : G E X I (sI S 58 14 x) (pc + 3) L st) : G E X I S pc L (.int x :: .ref (eA E 58) :: st) := by
  have e := (cell_5 E (sI S 58 14 x))
  simp only [gI_sI, gL_sI, gI_sL, gL_sL] at e
  exact g_put (k := 58) (j := 14) (ty := .int) tyX9 tyX9_ok nmX9 (cell_5 E S) (e.trans (by simp)) (fun i _ hne => cell_sI E S _ hne) (by omega) rfl ix_X9 (by omega) (ho ▸ fw_X9_96) rfl (by decide +kernel) rfl rfl (by show 14 < 23; omega) hd kk
theorem pf_X9_83 {x : Int32} (ho : I.1.cls = RX9) (hd : decode I.2.1 pc = .ok (.putfield 83, 3)) (kk : G E X I (sI S 58 12 x) (pc + 3) L st) : G E X I S pc L (.int x :: .ref (eA E 58) :: st) := by
  have e := (cell_5 E (sI S 58 12 x))
  simp only [gI_sI, gL_sI, gI_sL, gL_sL] at e
  exact g_put (k := 58) (j := 12) (ty := .int) tyX9 tyX9_ok nmX9 (cell_5 E S) (e.trans (by simp)) (fun i _ hne => cell_sI E S _ hne) (by omega) rfl ix_X9 (by omega) (ho ▸ fw_X9_83) rfl (by decide +kernel) rfl rfl (by show 12 < 23; omega) hd kk
theorem gf_X9_102 (ho : I.1.cls = RX9) (hd : decode I.2.1 pc = .ok (.getfield 102, 3)) (kk : G E X I S (pc + 3) L (.int (gI S 58 15) :: st)) : G E X I S pc L (.ref (eA E 58) :: st) := g_get (k := 58) (j := 15) (cell_5 E S) (by omega) rfl ix_X9 (by omega) (ho ▸ fw_X9_102) rfl hd kk
theorem gf_X9_35 (ho : I.1.cls = RX9) (hd : decode I.2.1 pc = .ok (.getfield 35, 3)) (kk : G E X I S (pc + 3) L (.ref (eA E 66) :: st)) : G E X I S pc L (.ref (eA E 58) :: st) := g_get (k := 58) (j := 16) (cell_5 E S) (by omega) rfl ix_X9 (by omega) (ho ▸ fw_X9_35) rfl hd kk
theorem gf_X9_96 (ho : I.1.cls = RX9) (hd : decode I.2.1 pc = .ok (.getfield 96, 3)) (kk : G E X I S (pc + 3) L (.int (gI S 58 14) :: st)) : G E X I S pc L (.ref (eA E 58) :: st) := g_get (k := 58) (j := 14) (cell_5 E S) (by omega) rfl ix_X9 (by omega) (ho ▸ fw_X9_96) rfl hd kk
theorem pf_X9_102 {x : Int32} (ho : I.1.cls = RX9) (hd : decode I.2.1 pc = .ok (.putfield 102, 3)) (kk : G E X I (sI S 58 15 x) (pc + 3) L st) : G E X I S pc L (.int x :: .ref (eA E 58) :: st) := by
  have e := (cell_5 E (sI S 58 15 x))
  simp only [gI_sI, gL_sI, gI_sL, gL_sL] at e
  exact g_put (k := 58) (j := 15) (ty := .int) tyX9 tyX9_ok nmX9 (cell_5 E S) (e.trans (by simp)) (fun i _ hne => cell_sI E S _ hne) (by omega) rfl ix_X9 (by omega) (ho ▸ fw_X9_102) rfl (by decide +kernel) rfl rfl (by show 15 < 23; omega) hd kk
theorem pf_X9_89 {x : Int32} (ho : I.1.cls = RX9) (hd : decode I.2.1 pc = .ok (.putfield 89, 3)) (kk : G E X I (sI S 58 11 x) (pc + 3) L st) : G E X I S pc L (.int x :: .ref (eA E 58) :: st) := by
  have e := (cell_5 E (sI S 58 11 x))
  simp only [gI_sI, gL_sI, gI_sL, gL_sL] at e
  exact g_put (k := 58) (j := 11) (ty := .int) tyX9 tyX9_ok nmX9 (cell_5 E S) (e.trans (by simp)) (fun i _ hne => cell_sI E S _ hne) (by omega) rfl ix_X9 (by omega) (ho ▸ fw_X9_89) rfl (by decide +kernel) rfl rfl (by show 11 < 23; omega) hd kk
theorem pf_X9_86 {x : Int32} (ho : I.1.cls = RX9) (hd : decode I.2.1 pc = .ok (.putfield 86, 3)) (kk : G E X I (sI S 58 13 x) (pc + 3) L st) : G E X I S pc L (.int x :: .ref (eA E 58) :: st) := by
  have e := (cell_5 E (sI S 58 13 x))
  simp only [gI_sI, gL_sI, gI_sL, gL_sL] at e
  exact g_put (k := 58) (j := 13) (ty := .int) tyX9 tyX9_ok nmX9 (cell_5 E S) (e.trans (by simp)) (fun i _ hne => cell_sI E S _ hne) (by omega) rfl ix_X9 (by omega) (ho ▸ fw_X9_86) rfl (by decide +kernel) rfl rfl (by show 13 < 23; omega) hd kk
theorem gf_X9_38 (ho : I.1.cls = RX9) (hd : decode I.2.1 pc = .ok (.getfield 38, 3)) (kk : G E X I S (pc + 3) L (.ref (eA E 67) :: st)) : G E X I S pc L (.ref (eA E 58) :: st) := g_get (k := 58) (j := 17) (cell_5 E S) (by omega) rfl ix_X9 (by omega) (ho ▸ fw_X9_38) rfl hd kk
theorem gf_X9_41 (ho : I.1.cls = RX9) (hd : decode I.2.1 pc = .ok (.getfield 41, 3)) (kk : G E X I S (pc + 3) L (.ref (eA E 68) :: st)) : G E X I S pc L (.ref (eA E 58) :: st) := g_get (k := 58) (j := 18) (cell_5 E S) (by omega) rfl ix_X9 (by omega) (ho ▸ fw_X9_41) rfl hd kk
theorem gf_X9_44 (ho : I.1.cls = RX9) (hd : decode I.2.1 pc = .ok (.getfield 44, 3)) (kk : G E X I S (pc + 3) L (.ref (eA E 69) :: st)) : G E X I S pc L (.ref (eA E 58) :: st) := g_get (k := 58) (j := 19) (cell_5 E S) (by omega) rfl ix_X9 (by omega) (ho ▸ fw_X9_44) rfl hd kk
theorem gf_X9_47 (ho : I.1.cls = RX9) (hd : decode I.2.1 pc = .ok (.getfield 47, 3)) (kk : G E X I S (pc + 3) L (.ref (eA E 70) :: st)) : G E X I S pc L (.ref (eA E 58) :: st) := g_get (k := 58) (j := 20) (cell_5 E S) (by omega) rfl ix_X9 (by omega) (ho ▸ fw_X9_47) rfl hd kk
theorem gf_X9_50 (ho : I.1.cls = RX9) (hd : decode I.2.1 pc = .ok (.getfield 50, 3)) (kk : G E X I S (pc + 3) L (.ref (eA E 71) :: st)) : G E X I S pc L (.ref (eA E 58) :: st) := g_get (k := 58) (j := 21) (cell_5 E S) (by omega) rfl ix_X9 (by omega) (ho ▸ fw_X9_50) rfl hd kk
theorem pf_X9_223 {x : Int64} (ho : I.1.cls = RX9) (hd : decode I.2.1 pc = .ok (.putfield 223, 3)) (kk : G E X I (sL S 58 8 x) (pc + 3) L st) : G E X I S pc L (.long x :: .ref (eA E 58) :: st) := by
  have e := (cell_5 E (sL S 58 8 x))
  simp only [gI_sI, gL_sI, gI_sL, gL_sL] at e
  exact g_put (k := 58) (j := 8) (ty := .long) tyX9 tyX9_ok nmX9 (cell_5 E S) (e.trans (by simp)) (fun i _ hne => cell_sL E S _ hne) (by omega) rfl ix_X9 (by omega) (ho ▸ fw_X9_223) rfl (by decide +kernel) rfl rfl (by show 8 < 23; omega) hd kk
theorem gf_X9_57 (ho : I.1.cls = RX9) (hd : decode I.2.1 pc = .ok (.getfield 57, 3)) (kk : G E X I S (pc + 3) L (.int (gI S 58 7) :: st)) : G E X I S pc L (.ref (eA E 58) :: st) := g_get (k := 58) (j := 7) (cell_5 E S) (by omega) rfl ix_X9 (by omega) (ho ▸ fw_X9_57) rfl hd kk
theorem gf_X9_223 (ho : I.1.cls = RX9) (hd : decode I.2.1 pc = .ok (.getfield 223, 3)) (kk : G E X I S (pc + 3) L (.long (gL S 58 8) :: st)) : G E X I S pc L (.ref (eA E 58) :: st) := g_get (k := 58) (j := 8) (cell_5 E S) (by omega) rfl ix_X9 (by omega) (ho ▸ fw_X9_223) rfl hd kk
theorem gf_X9_28 (ho : I.1.cls = RX9) (hd : decode I.2.1 pc = .ok (.getfield 28, 3)) (kk : G E X I S (pc + 3) L (.long (gL S 58 9) :: st)) : G E X I S pc L (.ref (eA E 58) :: st) := g_get (k := 58) (j := 9) (cell_5 E S) (by omega) rfl ix_X9 (by omega) (ho ▸ fw_X9_28) rfl hd kk
theorem gf_X9_53 (ho : I.1.cls = RX9) (hd : decode I.2.1 pc = .ok (.getfield 53, 3)) (kk : G E X I S (pc + 3) L (.int (gI S 58 5) :: st)) : G E X I S pc L (.ref (eA E 58) :: st) := g_get (k := 58) (j := 5) (cell_5 E S) (by omega) rfl ix_X9 (by omega) (ho ▸ fw_X9_53) rfl hd kk
theorem gf_X9_261 (ho : I.1.cls = RX9) (hd : decode I.2.1 pc = .ok (.getfield 261, 3)) (kk : G E X I S (pc + 3) L (.long (gL S 58 22) :: st)) : G E X I S pc L (.ref (eA E 58) :: st) := g_get (k := 58) (j := 22) (cell_5 E S) (by omega) rfl ix_X9 (by omega) (ho ▸ fw_X9_261) rfl hd kk
theorem pf_X9_261 {x : Int64} (ho : I.1.cls = RX9) (hd : decode I.2.1 pc = .ok (.putfield 261, 3)) (kk : G E X I (sL S 58 22 x) (pc + 3) L st) : G E X I S pc L (.long x :: .ref (eA E 58) :: st) := by
  have e := (cell_5 E (sL S 58 22 x))
  simp only [gI_sI, gL_sI, gI_sL, gL_sL] at e
  exact g_put (k := 58) (j := 22) (ty := .long) tyX9 tyX9_ok nmX9 (cell_5 E S) (e.trans (by simp)) (fun i _ hne => cell_sL E S _ hne) (by omega) rfl ix_X9 (by omega) (ho ▸ fw_X9_261) rfl (by decide +kernel) rfl rfl (by show 22 < 23; omega) hd kk
theorem pf_X0_30 {k : Nat} (h : kd k = 0) {x : Int32} (ho : I.1.cls = RX0) (hd : decode I.2.1 pc = .ok (.putfield 30, 3)) (kk : G E X I (sI S k 6 x) (pc + 3) L st) : G E X I S pc L (.int x :: .ref (eA E k) :: st) := by
  have e := (cell_0 E (sI S k 6 x) h)
  simp only [gI_sI, gL_sI, gI_sL, gL_sL] at e
  exact g_put (k := k) (j := 6) (ty := .int) tyX0 tyX0_ok nmX0 (cell_0 E S h) (e.trans (by simp)) (fun i _ hne => cell_sI E S _ hne) (kd_lt h (by omega)) rfl ix_X0 (by omega) (ho ▸ fw_X0_30) rfl (by decide +kernel) rfl rfl (by show 6 < 10; omega) hd kk
theorem pf_X0_34 {k : Nat} (h : kd k = 0) {x : Int32} (ho : I.1.cls = RX0) (hd : decode I.2.1 pc = .ok (.putfield 34, 3)) (kk : G E X I (sI S k 7 x) (pc + 3) L st) : G E X I S pc L (.int x :: .ref (eA E k) :: st) := by
  have e := (cell_0 E (sI S k 7 x) h)
  simp only [gI_sI, gL_sI, gI_sL, gL_sL] at e
  exact g_put (k := k) (j := 7) (ty := .int) tyX0 tyX0_ok nmX0 (cell_0 E S h) (e.trans (by simp)) (fun i _ hne => cell_sI E S _ hne) (kd_lt h (by omega)) rfl ix_X0 (by omega) (ho ▸ fw_X0_34) rfl (by decide +kernel) rfl rfl (by show 7 < 10; omega) hd kk
theorem pf_X0_37 {k : Nat} (h : kd k = 0) {x : Int32} (ho : I.1.cls = RX0) (hd : decode I.2.1 pc = .ok (.putfield 37, 3)) (kk : G E X I (sI S k 8 x) (pc + 3) L st) : G E X I S pc L (.int x :: .ref (eA E k) :: st) := by
  have e := (cell_0 E (sI S k 8 x) h)
  simp only [gI_sI, gL_sI, gI_sL, gL_sL] at e
  exact g_put (k := k) (j := 8) (ty := .int) tyX0 tyX0_ok nmX0 (cell_0 E S h) (e.trans (by simp)) (fun i _ hne => cell_sI E S _ hne) (kd_lt h (by omega)) rfl ix_X0 (by omega) (ho ▸ fw_X0_37) rfl (by decide +kernel) rfl rfl (by show 8 < 10; omega) hd kk
theorem pf_X0_40 {k : Nat} (h : kd k = 0) {x : Int32} (ho : I.1.cls = RX0) (hd : decode I.2.1 pc = .ok (.putfield 40, 3)) (kk : G E X I (sI S k 9 x) (pc + 3) L st) : G E X I S pc L (.int x :: .ref (eA E k) :: st) := by
  have e := (cell_0 E (sI S k 9 x) h)
  simp only [gI_sI, gL_sI, gI_sL, gL_sL] at e
  exact g_put (k := k) (j := 9) (ty := .int) tyX0 tyX0_ok nmX0 (cell_0 E S h) (e.trans (by simp)) (fun i _ hne => cell_sI E S _ hne) (kd_lt h (by omega)) rfl ix_X0 (by omega) (ho ▸ fw_X0_40) rfl (by decide +kernel) rfl rfl (by show 9 < 10; omega) hd kk
theorem gf_X0_30 {k : Nat} (h : kd k = 0) (ho : I.1.cls = RX0) (hd : decode I.2.1 pc = .ok (.getfield 30, 3)) (kk : G E X I S (pc + 3) L (.int (gI S k 6) :: st)) : G E X I S pc L (.ref (eA E k) :: st) := g_get (k := k) (j := 6) (cell_0 E S h) (kd_lt h (by omega)) rfl ix_X0 (by omega) (ho ▸ fw_X0_30) rfl hd kk
theorem gf_X0_9 {k : Nat} (h : kd k = 0) (ho : I.1.cls = RX0) (hd : decode I.2.1 pc = .ok (.getfield 9, 3)) (kk : G E X I S (pc + 3) L (.ref (eA E (34 + 6 * (k - 30))) :: st)) : G E X I S pc L (.ref (eA E k) :: st) := g_get (k := k) (j := 0) (cell_0 E S h) (kd_lt h (by omega)) rfl ix_X0 (by omega) (ho ▸ fw_X0_9) rfl hd kk
theorem gf_X0_15 {k : Nat} (h : kd k = 0) (ho : I.1.cls = RX0) (hd : decode I.2.1 pc = .ok (.getfield 15, 3)) (kk : G E X I S (pc + 3) L (.ref (eA E (34 + 6 * (k - 30) + 1)) :: st)) : G E X I S pc L (.ref (eA E k) :: st) := g_get (k := k) (j := 1) (cell_0 E S h) (kd_lt h (by omega)) rfl ix_X0 (by omega) (ho ▸ fw_X0_15) rfl hd kk
theorem gf_X0_18 {k : Nat} (h : kd k = 0) (ho : I.1.cls = RX0) (hd : decode I.2.1 pc = .ok (.getfield 18, 3)) (kk : G E X I S (pc + 3) L (.ref (eA E (34 + 6 * (k - 30) + 2)) :: st)) : G E X I S pc L (.ref (eA E k) :: st) := g_get (k := k) (j := 2) (cell_0 E S h) (kd_lt h (by omega)) rfl ix_X0 (by omega) (ho ▸ fw_X0_18) rfl hd kk
theorem gf_X0_21 {k : Nat} (h : kd k = 0) (ho : I.1.cls = RX0) (hd : decode I.2.1 pc = .ok (.getfield 21, 3)) (kk : G E X I S (pc + 3) L (.ref (eA E (34 + 6 * (k - 30) + 3)) :: st)) : G E X I S pc L (.ref (eA E k) :: st) := g_get (k := k) (j := 3) (cell_0 E S h) (kd_lt h (by omega)) rfl ix_X0 (by omega) (ho ▸ fw_X0_21) rfl hd kk
theorem gf_X0_24 {k : Nat} (h : kd k = 0) (ho : I.1.cls = RX0) (hd : decode I.2.1 pc = .ok (.getfield 24, 3)) (kk : G E X I S (pc + 3) L (.ref (eA E (34 + 6 * (k - 30) + 4)) :: st)) : G E X I S pc L (.ref (eA E k) :: st) := g_get (k := k) (j := 4) (cell_0 E S h) (kd_lt h (by omega)) rfl ix_X0 (by omega) (ho ▸ fw_X0_24) rfl hd kk
theorem gf_X0_34 {k : Nat} (h : kd k = 0) (ho : I.1.cls = RX0) (hd : decode I.2.1 pc = .ok (.getfield 34, 3)) (kk : G E X I S (pc + 3) L (.int (gI S k 7) :: st)) : G E X I S pc L (.ref (eA E k) :: st) := g_get (k := k) (j := 7) (cell_0 E S h) (kd_lt h (by omega)) rfl ix_X0 (by omega) (ho ▸ fw_X0_34) rfl hd kk
theorem gf_X0_27 {k : Nat} (h : kd k = 0) (ho : I.1.cls = RX0) (hd : decode I.2.1 pc = .ok (.getfield 27, 3)) (kk : G E X I S (pc + 3) L (.ref (eA E (34 + 6 * (k - 30) + 5)) :: st)) : G E X I S pc L (.ref (eA E k) :: st) := g_get (k := k) (j := 5) (cell_0 E S h) (kd_lt h (by omega)) rfl ix_X0 (by omega) (ho ▸ fw_X0_27) rfl hd kk
theorem gf_X0_37 {k : Nat} (h : kd k = 0) (ho : I.1.cls = RX0) (hd : decode I.2.1 pc = .ok (.getfield 37, 3)) (kk : G E X I S (pc + 3) L (.int (gI S k 8) :: st)) : G E X I S pc L (.ref (eA E k) :: st) := g_get (k := k) (j := 8) (cell_0 E S h) (kd_lt h (by omega)) rfl ix_X0 (by omega) (ho ▸ fw_X0_37) rfl hd kk
theorem gf_X0_40 {k : Nat} (h : kd k = 0) (ho : I.1.cls = RX0) (hd : decode I.2.1 pc = .ok (.getfield 40, 3)) (kk : G E X I S (pc + 3) L (.int (gI S k 9) :: st)) : G E X I S pc L (.ref (eA E k) :: st) := g_get (k := k) (j := 9) (cell_0 E S h) (kd_lt h (by omega)) rfl ix_X0 (by omega) (ho ▸ fw_X0_40) rfl hd kk
theorem gf_X1_9 (ho : I.1.cls = RX1) (hd : decode I.2.1 pc = .ok (.getfield 9, 3)) (kk : G E X I S (pc + 3) L (.ref (eA E 9) :: st)) : G E X I S pc L (.ref (eA E 8) :: st) := g_get (k := 8) (j := 0) (cell_1 E S) (by omega) rfl ix_X1 (by omega) (ho ▸ fw_X1_9) rfl hd kk
theorem gf_X4_15 (ho : I.1.cls = RX4) (hd : decode I.2.1 pc = .ok (.getfield 15, 3)) (kk : G E X I S (pc + 3) L (.ref (eA E 7) :: st)) : G E X I S pc L (.ref (eA E 5) :: st) := g_get (k := 5) (j := 1) (cell_2 E S) (by omega) rfl ix_X4 (by omega) (ho ▸ fw_X4_15) rfl hd kk
theorem gf_X4_9 (ho : I.1.cls = RX4) (hd : decode I.2.1 pc = .ok (.getfield 9, 3)) (kk : G E X I S (pc + 3) L (.ref (eA E 6) :: st)) : G E X I S pc L (.ref (eA E 5) :: st) := g_get (k := 5) (j := 0) (cell_2 E S) (by omega) rfl ix_X4 (by omega) (ho ▸ fw_X4_9) rfl hd kk
theorem pf_X5_9 {k : Nat} (h : kd k = 3) {x : Int32} (ho : I.1.cls = RX5) (hd : decode I.2.1 pc = .ok (.putfield 9, 3)) (kk : G E X I (sI S k 1 x) (pc + 3) L st) : G E X I S pc L (.int x :: .ref (eA E k) :: st) := by
  have e := (cell_3 E (sI S k 1 x) h)
  simp only [gI_sI, gL_sI, gI_sL, gL_sL] at e
  exact g_put (k := k) (j := 1) (ty := .int) tyX5 tyX5_ok nmX5 (cell_3 E S h) (e.trans (by simp)) (fun i _ hne => cell_sI E S _ hne) (kd_lt h (by omega)) rfl ix_X5 (by omega) (ho ▸ fw_X5_9) rfl (by decide +kernel) rfl rfl (by show 1 < 2; omega) hd kk
theorem gf_X5_19 {k : Nat} (h : kd k = 3) (ho : I.1.cls = RX5) (hd : decode I.2.1 pc = .ok (.getfield 19, 3)) (kk : G E X I S (pc + 3) L (.ref (eA E (k + 10)) :: st)) : G E X I S pc L (.ref (eA E k) :: st) := g_get (k := k) (j := 0) (cell_3 E S h) (kd_lt h (by omega)) rfl ix_X5 (by omega) (ho ▸ fw_X5_19) rfl hd kk
theorem gf_X5_9 {k : Nat} (h : kd k = 3) (ho : I.1.cls = RX5) (hd : decode I.2.1 pc = .ok (.getfield 9, 3)) (kk : G E X I S (pc + 3) L (.int (gI S k 1) :: st)) : G E X I S pc L (.ref (eA E k) :: st) := g_get (k := k) (j := 1) (cell_3 E S h) (kd_lt h (by omega)) rfl ix_X5 (by omega) (ho ▸ fw_X5_9) rfl hd kk
end GF
end
section
theorem dX0_init_0 : decode cX0_init 0 = .ok (.aload_n 0, 1) := by decide +kernel
theorem dX0_init_1 : decode cX0_init 1 = .ok (.invokespecial 3, 3) := by decide +kernel
theorem dX0_init_4 : decode cX0_init 4 = .ok (.aload_n 0, 1) := by decide +kernel
theorem dX0_init_5 : decode cX0_init 5 = .ok (.bipush 8, 2) := by decide +kernel
theorem dX0_init_7 : decode cX0_init 7 = .ok (.newarray .int, 2) := by decide +kernel
theorem dX0_init_9 : decode cX0_init 9 = .ok (.putfield 9, 3) := by decide +kernel
theorem dX0_init_12 : decode cX0_init 12 = .ok (.aload_n 0, 1) := by decide +kernel
theorem dX0_init_13 : decode cX0_init 13 = .ok (.bipush 8, 2) := by decide +kernel
theorem dX0_init_15 : decode cX0_init 15 = .ok (.newarray .int, 2) := by decide +kernel
theorem dX0_init_17 : decode cX0_init 17 = .ok (.putfield 15, 3) := by decide +kernel
theorem dX0_init_20 : decode cX0_init 20 = .ok (.aload_n 0, 1) := by decide +kernel
theorem dX0_init_21 : decode cX0_init 21 = .ok (.bipush 8, 2) := by decide +kernel
theorem dX0_init_23 : decode cX0_init 23 = .ok (.newarray .int, 2) := by decide +kernel
theorem dX0_init_25 : decode cX0_init 25 = .ok (.putfield 18, 3) := by decide +kernel
theorem dX0_init_28 : decode cX0_init 28 = .ok (.aload_n 0, 1) := by decide +kernel
theorem dX0_init_29 : decode cX0_init 29 = .ok (.bipush 8, 2) := by decide +kernel
theorem dX0_init_31 : decode cX0_init 31 = .ok (.newarray .int, 2) := by decide +kernel
theorem dX0_init_33 : decode cX0_init 33 = .ok (.putfield 21, 3) := by decide +kernel
theorem dX0_init_36 : decode cX0_init 36 = .ok (.aload_n 0, 1) := by decide +kernel
theorem dX0_init_37 : decode cX0_init 37 = .ok (.bipush 8, 2) := by decide +kernel
theorem dX0_init_39 : decode cX0_init 39 = .ok (.newarray .int, 2) := by decide +kernel
theorem dX0_init_41 : decode cX0_init 41 = .ok (.putfield 24, 3) := by decide +kernel
theorem dX0_init_44 : decode cX0_init 44 = .ok (.aload_n 0, 1) := by decide +kernel
theorem dX0_init_45 : decode cX0_init 45 = .ok (.bipush 40, 2) := by decide +kernel
theorem dX0_init_47 : decode cX0_init 47 = .ok (.newarray .int, 2) := by decide +kernel
theorem dX0_init_49 : decode cX0_init 49 = .ok (.putfield 27, 3) := by decide +kernel
theorem dX0_init_52 : decode cX0_init 52 = .ok (.aload_n 0, 1) := by decide +kernel
theorem dX0_init_53 : decode cX0_init 53 = .ok (.iconst 0, 1) := by decide +kernel
theorem dX0_init_54 : decode cX0_init 54 = .ok (.putfield 30, 3) := by decide +kernel
theorem dX0_init_57 : decode cX0_init 57 = .ok (.aload_n 0, 1) := by decide +kernel
theorem dX0_init_58 : decode cX0_init 58 = .ok (.iconst 0, 1) := by decide +kernel
theorem dX0_init_59 : decode cX0_init 59 = .ok (.putfield 34, 3) := by decide +kernel
theorem dX0_init_62 : decode cX0_init 62 = .ok (.aload_n 0, 1) := by decide +kernel
theorem dX0_init_63 : decode cX0_init 63 = .ok (.iconst 0, 1) := by decide +kernel
theorem dX0_init_64 : decode cX0_init 64 = .ok (.putfield 37, 3) := by decide +kernel
theorem dX0_init_67 : decode cX0_init 67 = .ok (.aload_n 0, 1) := by decide +kernel
theorem dX0_init_68 : decode cX0_init 68 = .ok (.iconst 0, 1) := by decide +kernel
theorem dX0_init_69 : decode cX0_init 69 = .ok (.putfield 40, 3) := by decide +kernel
theorem dX0_init_72 : decode cX0_init 72 = .ok (.return_, 1) := by decide +kernel
theorem dX0_clear_0 : decode cX0_clear 0 = .ok (.aload_n 0, 1) := by decide +kernel
theorem dX0_clear_1 : decode cX0_clear 1 = .ok (.iconst 0, 1) := by decide +kernel
theorem dX0_clear_2 : decode cX0_clear 2 = .ok (.putfield 30, 3) := by decide +kernel
theorem dX0_clear_5 : decode cX0_clear 5 = .ok (.aload_n 0, 1) := by decide +kernel
theorem dX0_clear_6 : decode cX0_clear 6 = .ok (.iconst 0, 1) := by decide +kernel
theorem dX0_clear_7 : decode cX0_clear 7 = .ok (.putfield 34, 3) := by decide +kernel
theorem dX0_clear_10 : decode cX0_clear 10 = .ok (.aload_n 0, 1) := by decide +kernel
theorem dX0_clear_11 : decode cX0_clear 11 = .ok (.iconst 0, 1) := by decide +kernel
theorem dX0_clear_12 : decode cX0_clear 12 = .ok (.putfield 37, 3) := by decide +kernel
theorem dX0_clear_15 : decode cX0_clear 15 = .ok (.aload_n 0, 1) := by decide +kernel
theorem dX0_clear_16 : decode cX0_clear 16 = .ok (.iconst 0, 1) := by decide +kernel
theorem dX0_clear_17 : decode cX0_clear 17 = .ok (.putfield 40, 3) := by decide +kernel
theorem dX0_clear_20 : decode cX0_clear 20 = .ok (.return_, 1) := by decide +kernel
theorem dX0_add_0 : decode cX0_add 0 = .ok (.aload_n 0, 1) := by decide +kernel
theorem dX0_add_1 : decode cX0_add 1 = .ok (.getfield 30, 3) := by decide +kernel
theorem dX0_add_4 : decode cX0_add 4 = .ok (.bipush 8, 2) := by decide +kernel
theorem dX0_add_6 : decode cX0_add 6 = .ok (.if_icmp .ge 80, 3) := by decide +kernel
theorem dX0_add_9 : decode cX0_add 9 = .ok (.aload_n 0, 1) := by decide +kernel
theorem dX0_add_10 : decode cX0_add 10 = .ok (.getfield 9, 3) := by decide +kernel
theorem dX0_add_13 : decode cX0_add 13 = .ok (.aload_n 0, 1) := by decide +kernel
theorem dX0_add_14 : decode cX0_add 14 = .ok (.getfield 30, 3) := by decide +kernel
theorem dX0_add_17 : decode cX0_add 17 = .ok (.iload_n 1, 1) := by decide +kernel
theorem dX0_add_18 : decode cX0_add 18 = .ok (.iastore, 1) := by decide +kernel
theorem dX0_add_19 : decode cX0_add 19 = .ok (.aload_n 0, 1) := by decide +kernel
theorem dX0_add_20 : decode cX0_add 20 = .ok (.getfield 15, 3) := by decide +kernel
theorem dX0_add_23 : decode cX0_add 23 = .ok (.aload_n 0, 1) := by decide +kernel
theorem dX0_add_24 : decode cX0_add 24 = .ok (.getfield 30, 3) := by decide +kernel
theorem dX0_add_27 : decode cX0_add 27 = .ok (.iload_n 2, 1) := by decide +kernel
theorem dX0_add_28 : decode cX0_add 28 = .ok (.iastore, 1) := by decide +kernel
theorem dX0_add_29 : decode cX0_add 29 = .ok (.aload_n 0, 1) := by decide +kernel
theorem dX0_add_30 : decode cX0_add 30 = .ok (.getfield 18, 3) := by decide +kernel
theorem dX0_add_33 : decode cX0_add 33 = .ok (.aload_n 0, 1) := by decide +kernel
theorem dX0_add_34 : decode cX0_add 34 = .ok (.getfield 30, 3) := by decide +kernel
theorem dX0_add_37 : decode cX0_add 37 = .ok (.iload_n 3, 1) := by decide +kernel
theorem dX0_add_38 : decode cX0_add 38 = .ok (.iastore, 1) := by decide +kernel
theorem dX0_add_39 : decode cX0_add 39 = .ok (.aload_n 0, 1) := by decide +kernel
theorem dX0_add_40 : decode cX0_add 40 = .ok (.getfield 21, 3) := by decide +kernel
theorem dX0_add_43 : decode cX0_add 43 = .ok (.aload_n 0, 1) := by decide +kernel
theorem dX0_add_44 : decode cX0_add 44 = .ok (.getfield 30, 3) := by decide +kernel
theorem dX0_add_47 : decode cX0_add 47 = .ok (.iload 4, 2) := by decide +kernel
theorem dX0_add_49 : decode cX0_add 49 = .ok (.iastore, 1) := by decide +kernel
theorem dX0_add_50 : decode cX0_add 50 = .ok (.aload_n 0, 1) := by decide +kernel
theorem dX0_add_51 : decode cX0_add 51 = .ok (.getfield 24, 3) := by decide +kernel
theorem dX0_add_54 : decode cX0_add 54 = .ok (.aload_n 0, 1) := by decide +kernel
theorem dX0_add_55 : decode cX0_add 55 = .ok (.getfield 30, 3) := by decide +kernel
theorem dX0_add_58 : decode cX0_add 58 = .ok (.iload 5, 2) := by decide +kernel
theorem dX0_add_60 : decode cX0_add 60 = .ok (.iastore, 1) := by decide +kernel
theorem dX0_add_61 : decode cX0_add 61 = .ok (.aload_n 0, 1) := by decide +kernel
theorem dX0_add_62 : decode cX0_add 62 = .ok (.dup, 1) := by decide +kernel
theorem dX0_add_63 : decode cX0_add 63 = .ok (.getfield 34, 3) := by decide +kernel
theorem dX0_add_66 : decode cX0_add 66 = .ok (.iconst 1, 1) := by decide +kernel
theorem dX0_add_67 : decode cX0_add 67 = .ok (.aload_n 0, 1) := by decide +kernel
theorem dX0_add_68 : decode cX0_add 68 = .ok (.getfield 30, 3) := by decide +kernel
theorem dX0_add_71 : decode cX0_add 71 = .ok (.ishl, 1) := by decide +kernel
theorem dX0_add_72 : decode cX0_add 72 = .ok (.ior, 1) := by decide +kernel
theorem dX0_add_73 : decode cX0_add 73 = .ok (.putfield 34, 3) := by decide +kernel
theorem dX0_add_76 : decode cX0_add 76 = .ok (.aload_n 0, 1) := by decide +kernel
theorem dX0_add_77 : decode cX0_add 77 = .ok (.dup, 1) := by decide +kernel
theorem dX0_add_78 : decode cX0_add 78 = .ok (.getfield 30, 3) := by decide +kernel
theorem dX0_add_81 : decode cX0_add 81 = .ok (.iconst 1, 1) := by decide +kernel
theorem dX0_add_82 : decode cX0_add 82 = .ok (.iadd, 1) := by decide +kernel
theorem dX0_add_83 : decode cX0_add 83 = .ok (.putfield 30, 3) := by decide +kernel
theorem dX0_add_86 : decode cX0_add 86 = .ok (.return_, 1) := by decide +kernel
theorem dX0_become_0 : decode cX0_become 0 = .ok (.aload_n 1, 1) := by decide +kernel
theorem dX0_become_1 : decode cX0_become 1 = .ok (.ifnonnull 4, 3) := by decide +kernel
theorem dX0_become_4 : decode cX0_become 4 = .ok (.return_, 1) := by decide +kernel
theorem dX0_become_5 : decode cX0_become 5 = .ok (.aload_n 1, 1) := by decide +kernel
theorem dX0_become_6 : decode cX0_become 6 = .ok (.getfield 9, 3) := by decide +kernel
theorem dX0_become_9 : decode cX0_become 9 = .ok (.iconst 0, 1) := by decide +kernel
theorem dX0_become_10 : decode cX0_become 10 = .ok (.aload_n 0, 1) := by decide +kernel
theorem dX0_become_11 : decode cX0_become 11 = .ok (.getfield 9, 3) := by decide +kernel
theorem dX0_become_14 : decode cX0_become 14 = .ok (.iconst 0, 1) := by decide +kernel
theorem dX0_become_15 : decode cX0_become 15 = .ok (.bipush 8, 2) := by decide +kernel
theorem dX0_become_17 : decode cX0_become 17 = .ok (.invokestatic 43, 3) := by decide +kernel
theorem dX0_become_20 : decode cX0_become 20 = .ok (.aload_n 1, 1) := by decide +kernel
theorem dX0_become_21 : decode cX0_become 21 = .ok (.getfield 15, 3) := by decide +kernel
theorem dX0_become_24 : decode cX0_become 24 = .ok (.iconst 0, 1) := by decide +kernel
theorem dX0_become_25 : decode cX0_become 25 = .ok (.aload_n 0, 1) := by decide +kernel
theorem dX0_become_26 : decode cX0_become 26 = .ok (.getfield 15, 3) := by decide +kernel
theorem dX0_become_29 : decode cX0_become 29 = .ok (.iconst 0, 1) := by decide +kernel
theorem dX0_become_30 : decode cX0_become 30 = .ok (.bipush 8, 2) := by decide +kernel
theorem dX0_become_32 : decode cX0_become 32 = .ok (.invokestatic 43, 3) := by decide +kernel
theorem dX0_become_35 : decode cX0_become 35 = .ok (.aload_n 1, 1) := by decide +kernel
theorem dX0_become_36 : decode cX0_become 36 = .ok (.getfield 18, 3) := by decide +kernel
theorem dX0_become_39 : decode cX0_become 39 = .ok (.iconst 0, 1) := by decide +kernel
theorem dX0_become_40 : decode cX0_become 40 = .ok (.aload_n 0, 1) := by decide +kernel
theorem dX0_become_41 : decode cX0_become 41 = .ok (.getfield 18, 3) := by decide +kernel
theorem dX0_become_44 : decode cX0_become 44 = .ok (.iconst 0, 1) := by decide +kernel
theorem dX0_become_45 : decode cX0_become 45 = .ok (.bipush 8, 2) := by decide +kernel
theorem dX0_become_47 : decode cX0_become 47 = .ok (.invokestatic 43, 3) := by decide +kernel
theorem dX0_become_50 : decode cX0_become 50 = .ok (.aload_n 1, 1) := by decide +kernel
theorem dX0_become_51 : decode cX0_become 51 = .ok (.getfield 21, 3) := by decide +kernel
theorem dX0_become_54 : decode cX0_become 54 = .ok (.iconst 0, 1) := by decide +kernel
theorem dX0_become_55 : decode cX0_become 55 = .ok (.aload_n 0, 1) := by decide +kernel
theorem dX0_become_56 : decode cX0_become 56 = .ok (.getfield 21, 3) := by decide +kernel
theorem dX0_become_59 : decode cX0_become 59 = .ok (.iconst 0, 1) := by decide +kernel
theorem dX0_become_60 : decode cX0_become 60 = .ok (.bipush 8, 2) := by decide +kernel
theorem dX0_become_62 : decode cX0_become 62 = .ok (.invokestatic 43, 3) := by decide +kernel
theorem dX0_become_65 : decode cX0_become 65 = .ok (.aload_n 1, 1) := by decide +kernel
theorem dX0_become_66 : decode cX0_become 66 = .ok (.getfield 24, 3) := by decide +kernel
theorem dX0_become_69 : decode cX0_become 69 = .ok (.iconst 0, 1) := by decide +kernel
theorem dX0_become_70 : decode cX0_become 70 = .ok (.aload_n 0, 1) := by decide +kernel
theorem dX0_become_71 : decode cX0_become 71 = .ok (.getfield 24, 3) := by decide +kernel
theorem dX0_become_74 : decode cX0_become 74 = .ok (.iconst 0, 1) := by decide +kernel
theorem dX0_become_75 : decode cX0_become 75 = .ok (.bipush 8, 2) := by decide +kernel
theorem dX0_become_77 : decode cX0_become 77 = .ok (.invokestatic 43, 3) := by decide +kernel
theorem dX0_become_80 : decode cX0_become 80 = .ok (.aload_n 1, 1) := by decide +kernel
theorem dX0_become_81 : decode cX0_become 81 = .ok (.getfield 27, 3) := by decide +kernel
theorem dX0_become_84 : decode cX0_become 84 = .ok (.iconst 0, 1) := by decide +kernel
theorem dX0_become_85 : decode cX0_become 85 = .ok (.aload_n 0, 1) := by decide +kernel
theorem dX0_become_86 : decode cX0_become 86 = .ok (.getfield 27, 3) := by decide +kernel
theorem dX0_become_89 : decode cX0_become 89 = .ok (.iconst 0, 1) := by decide +kernel
theorem dX0_become_90 : decode cX0_become 90 = .ok (.bipush 40, 2) := by decide +kernel
theorem dX0_become_92 : decode cX0_become 92 = .ok (.invokestatic 43, 3) := by decide +kernel
theorem dX0_become_95 : decode cX0_become 95 = .ok (.aload_n 0, 1) := by decide +kernel
theorem dX0_become_96 : decode cX0_become 96 = .ok (.aload_n 1, 1) := by decide +kernel
theorem dX0_become_97 : decode cX0_become 97 = .ok (.getfield 30, 3) := by decide +kernel
theorem dX0_become_100 : decode cX0_become 100 = .ok (.putfield 30, 3) := by decide +kernel
theorem dX0_become_103 : decode cX0_become 103 = .ok (.aload_n 0, 1) := by decide +kernel
theorem dX0_become_104 : decode cX0_become 104 = .ok (.aload_n 1, 1) := by decide +kernel
theorem dX0_become_105 : decode cX0_become 105 = .ok (.getfield 34, 3) := by decide +kernel
theorem dX0_become_108 : decode cX0_become 108 = .ok (.putfield 34, 3) := by decide +kernel
theorem dX0_become_111 : decode cX0_become 111 = .ok (.aload_n 0, 1) := by decide +kernel
theorem dX0_become_112 : decode cX0_become 112 = .ok (.aload_n 1, 1) := by decide +kernel
theorem dX0_become_113 : decode cX0_become 113 = .ok (.getfield 37, 3) := by decide +kernel
theorem dX0_become_116 : decode cX0_become 116 = .ok (.putfield 37, 3) := by decide +kernel
theorem dX0_become_119 : decode cX0_become 119 = .ok (.aload_n 0, 1) := by decide +kernel
theorem dX0_become_120 : decode cX0_become 120 = .ok (.aload_n 1, 1) := by decide +kernel
theorem dX0_become_121 : decode cX0_become 121 = .ok (.getfield 40, 3) := by decide +kernel
theorem dX0_become_124 : decode cX0_become 124 = .ok (.putfield 40, 3) := by decide +kernel
theorem dX0_become_127 : decode cX0_become 127 = .ok (.return_, 1) := by decide +kernel
theorem dX0_size_0 : decode cX0_size 0 = .ok (.aload_n 0, 1) := by decide +kernel
theorem dX0_size_1 : decode cX0_size 1 = .ok (.getfield 30, 3) := by decide +kernel
theorem dX0_size_4 : decode cX0_size 4 = .ok (.ireturn, 1) := by decide +kernel
theorem dX0_thisNight_0 : decode cX0_thisNight 0 = .ok (.aload_n 0, 1) := by decide +kernel
theorem dX0_thisNight_1 : decode cX0_thisNight 1 = .ok (.getfield 37, 3) := by decide +kernel
theorem dX0_thisNight_4 : decode cX0_thisNight 4 = .ok (.ireturn, 1) := by decide +kernel
theorem dX0_deedsDone_0 : decode cX0_deedsDone 0 = .ok (.aload_n 0, 1) := by decide +kernel
theorem dX0_deedsDone_1 : decode cX0_deedsDone 1 = .ok (.getfield 40, 3) := by decide +kernel
theorem dX0_deedsDone_4 : decode cX0_deedsDone 4 = .ok (.ireturn, 1) := by decide +kernel
theorem dX0_litSet_0 : decode cX0_litSet 0 = .ok (.aload_n 0, 1) := by decide +kernel
theorem dX0_litSet_1 : decode cX0_litSet 1 = .ok (.getfield 34, 3) := by decide +kernel
theorem dX0_litSet_4 : decode cX0_litSet 4 = .ok (.ireturn, 1) := by decide +kernel
theorem dX0_has_0 : decode cX0_has 0 = .ok (.iload_n 1, 1) := by decide +kernel
theorem dX0_has_1 : decode cX0_has 1 = .ok (.ifCond .lt 15, 3) := by decide +kernel
theorem dX0_has_4 : decode cX0_has 4 = .ok (.iload_n 1, 1) := by decide +kernel
theorem dX0_has_5 : decode cX0_has 5 = .ok (.aload_n 0, 1) := by decide +kernel
theorem dX0_has_6 : decode cX0_has 6 = .ok (.getfield 30, 3) := by decide +kernel
theorem dX0_has_9 : decode cX0_has 9 = .ok (.if_icmp .ge 7, 3) := by decide +kernel
theorem dX0_has_12 : decode cX0_has 12 = .ok (.iconst 1, 1) := by decide +kernel
theorem dX0_has_13 : decode cX0_has 13 = .ok (.goto 4, 3) := by decide +kernel
theorem dX0_has_16 : decode cX0_has 16 = .ok (.iconst 0, 1) := by decide +kernel
theorem dX0_has_17 : decode cX0_has 17 = .ok (.ireturn, 1) := by decide +kernel
theorem dX0_isLit_0 : decode cX0_isLit 0 = .ok (.aload_n 0, 1) := by decide +kernel
theorem dX0_isLit_1 : decode cX0_isLit 1 = .ok (.iload_n 1, 1) := by decide +kernel
theorem dX0_isLit_2 : decode cX0_isLit 2 = .ok (.invokevirtual 49, 3) := by decide +kernel
theorem dX0_isLit_5 : decode cX0_isLit 5 = .ok (.ifCond .eq 19, 3) := by decide +kernel
theorem dX0_isLit_8 : decode cX0_isLit 8 = .ok (.aload_n 0, 1) := by decide +kernel
theorem dX0_isLit_9 : decode cX0_isLit 9 = .ok (.getfield 34, 3) := by decide +kernel
theorem dX0_isLit_12 : decode cX0_isLit 12 = .ok (.iload_n 1, 1) := by decide +kernel
theorem dX0_isLit_13 : decode cX0_isLit 13 = .ok (.ishr, 1) := by decide +kernel
theorem dX0_isLit_14 : decode cX0_isLit 14 = .ok (.iconst 1, 1) := by decide +kernel
theorem dX0_isLit_15 : decode cX0_isLit 15 = .ok (.iand, 1) := by decide +kernel
theorem dX0_isLit_16 : decode cX0_isLit 16 = .ok (.iconst 1, 1) := by decide +kernel
theorem dX0_isLit_17 : decode cX0_isLit 17 = .ok (.if_icmp .ne 7, 3) := by decide +kernel
theorem dX0_isLit_20 : decode cX0_isLit 20 = .ok (.iconst 1, 1) := by decide +kernel
theorem dX0_isLit_21 : decode cX0_isLit 21 = .ok (.goto 4, 3) := by decide +kernel
theorem dX0_isLit_24 : decode cX0_isLit 24 = .ok (.iconst 0, 1) := by decide +kernel
theorem dX0_isLit_25 : decode cX0_isLit 25 = .ok (.ireturn, 1) := by decide +kernel
theorem dX0_isOwing_0 : decode cX0_isOwing 0 = .ok (.aload_n 0, 1) := by decide +kernel
theorem dX0_isOwing_1 : decode cX0_isOwing 1 = .ok (.iload_n 1, 1) := by decide +kernel
theorem dX0_isOwing_2 : decode cX0_isOwing 2 = .ok (.invokevirtual 53, 3) := by decide +kernel
theorem dX0_isOwing_5 : decode cX0_isOwing 5 = .ok (.ifCond .eq 19, 3) := by decide +kernel
theorem dX0_isOwing_8 : decode cX0_isOwing 8 = .ok (.aload_n 0, 1) := by decide +kernel
theorem dX0_isOwing_9 : decode cX0_isOwing 9 = .ok (.iload_n 1, 1) := by decide +kernel
theorem dX0_isOwing_10 : decode cX0_isOwing 10 = .ok (.invokevirtual 56, 3) := by decide +kernel
theorem dX0_isOwing_13 : decode cX0_isOwing 13 = .ok (.iconst 3, 1) := by decide +kernel
theorem dX0_isOwing_14 : decode cX0_isOwing 14 = .ok (.invokestatic 60, 3) := by decide +kernel
theorem dX0_isOwing_17 : decode cX0_isOwing 17 = .ok (.ifCond .ne 7, 3) := by decide +kernel
theorem dX0_isOwing_20 : decode cX0_isOwing 20 = .ok (.iconst 1, 1) := by decide +kernel
theorem dX0_isOwing_21 : decode cX0_isOwing 21 = .ok (.goto 4, 3) := by decide +kernel
theorem dX0_isOwing_24 : decode cX0_isOwing 24 = .ok (.iconst 0, 1) := by decide +kernel
theorem dX0_isOwing_25 : decode cX0_isOwing 25 = .ok (.ireturn, 1) := by decide +kernel
theorem dX0_kindOf_0 : decode cX0_kindOf 0 = .ok (.aload_n 0, 1) := by decide +kernel
theorem dX0_kindOf_1 : decode cX0_kindOf 1 = .ok (.iload_n 1, 1) := by decide +kernel
theorem dX0_kindOf_2 : decode cX0_kindOf 2 = .ok (.invokevirtual 49, 3) := by decide +kernel
theorem dX0_kindOf_5 : decode cX0_kindOf 5 = .ok (.ifCond .eq 12, 3) := by decide +kernel
theorem dX0_kindOf_8 : decode cX0_kindOf 8 = .ok (.aload_n 0, 1) := by decide +kernel
theorem dX0_kindOf_9 : decode cX0_kindOf 9 = .ok (.getfield 9, 3) := by decide +kernel
theorem dX0_kindOf_12 : decode cX0_kindOf 12 = .ok (.iload_n 1, 1) := by decide +kernel
theorem dX0_kindOf_13 : decode cX0_kindOf 13 = .ok (.iaload, 1) := by decide +kernel
theorem dX0_kindOf_14 : decode cX0_kindOf 14 = .ok (.goto 5, 3) := by decide +kernel
theorem dX0_kindOf_17 : decode cX0_kindOf 17 = .ok (.bipush (-9), 2) := by decide +kernel
theorem dX0_kindOf_19 : decode cX0_kindOf 19 = .ok (.ireturn, 1) := by decide +kernel
theorem dX0_owerOf_0 : decode cX0_owerOf 0 = .ok (.aload_n 0, 1) := by decide +kernel
theorem dX0_owerOf_1 : decode cX0_owerOf 1 = .ok (.iload_n 1, 1) := by decide +kernel
theorem dX0_owerOf_2 : decode cX0_owerOf 2 = .ok (.invokevirtual 49, 3) := by decide +kernel
theorem dX0_owerOf_5 : decode cX0_owerOf 5 = .ok (.ifCond .eq 12, 3) := by decide +kernel
theorem dX0_owerOf_8 : decode cX0_owerOf 8 = .ok (.aload_n 0, 1) := by decide +kernel
theorem dX0_owerOf_9 : decode cX0_owerOf 9 = .ok (.getfield 15, 3) := by decide +kernel
theorem dX0_owerOf_12 : decode cX0_owerOf 12 = .ok (.iload_n 1, 1) := by decide +kernel
theorem dX0_owerOf_13 : decode cX0_owerOf 13 = .ok (.iaload, 1) := by decide +kernel
theorem dX0_owerOf_14 : decode cX0_owerOf 14 = .ok (.goto 5, 3) := by decide +kernel
theorem dX0_owerOf_17 : decode cX0_owerOf 17 = .ok (.bipush (-9), 2) := by decide +kernel
theorem dX0_owerOf_19 : decode cX0_owerOf 19 = .ok (.ireturn, 1) := by decide +kernel
theorem dX0_creditorOf_0 : decode cX0_creditorOf 0 = .ok (.aload_n 0, 1) := by decide +kernel
theorem dX0_creditorOf_1 : decode cX0_creditorOf 1 = .ok (.iload_n 1, 1) := by decide +kernel
theorem dX0_creditorOf_2 : decode cX0_creditorOf 2 = .ok (.invokevirtual 49, 3) := by decide +kernel
theorem dX0_creditorOf_5 : decode cX0_creditorOf 5 = .ok (.ifCond .eq 12, 3) := by decide +kernel
theorem dX0_creditorOf_8 : decode cX0_creditorOf 8 = .ok (.aload_n 0, 1) := by decide +kernel
theorem dX0_creditorOf_9 : decode cX0_creditorOf 9 = .ok (.getfield 18, 3) := by decide +kernel
theorem dX0_creditorOf_12 : decode cX0_creditorOf 12 = .ok (.iload_n 1, 1) := by decide +kernel
theorem dX0_creditorOf_13 : decode cX0_creditorOf 13 = .ok (.iaload, 1) := by decide +kernel
theorem dX0_creditorOf_14 : decode cX0_creditorOf 14 = .ok (.goto 5, 3) := by decide +kernel
theorem dX0_creditorOf_17 : decode cX0_creditorOf 17 = .ok (.bipush (-9), 2) := by decide +kernel
theorem dX0_creditorOf_19 : decode cX0_creditorOf 19 = .ok (.ireturn, 1) := by decide +kernel
theorem dX0_placeOf_0 : decode cX0_placeOf 0 = .ok (.aload_n 0, 1) := by decide +kernel
theorem dX0_placeOf_1 : decode cX0_placeOf 1 = .ok (.iload_n 1, 1) := by decide +kernel
theorem dX0_placeOf_2 : decode cX0_placeOf 2 = .ok (.invokevirtual 49, 3) := by decide +kernel
theorem dX0_placeOf_5 : decode cX0_placeOf 5 = .ok (.ifCond .eq 12, 3) := by decide +kernel
theorem dX0_placeOf_8 : decode cX0_placeOf 8 = .ok (.aload_n 0, 1) := by decide +kernel
theorem dX0_placeOf_9 : decode cX0_placeOf 9 = .ok (.getfield 21, 3) := by decide +kernel
theorem dX0_placeOf_12 : decode cX0_placeOf 12 = .ok (.iload_n 1, 1) := by decide +kernel
theorem dX0_placeOf_13 : decode cX0_placeOf 13 = .ok (.iaload, 1) := by decide +kernel
theorem dX0_placeOf_14 : decode cX0_placeOf 14 = .ok (.goto 5, 3) := by decide +kernel
theorem dX0_placeOf_17 : decode cX0_placeOf 17 = .ok (.bipush (-9), 2) := by decide +kernel
theorem dX0_placeOf_19 : decode cX0_placeOf 19 = .ok (.ireturn, 1) := by decide +kernel
theorem dX0_firstOf_0 : decode cX0_firstOf 0 = .ok (.aload_n 0, 1) := by decide +kernel
theorem dX0_firstOf_1 : decode cX0_firstOf 1 = .ok (.iload_n 1, 1) := by decide +kernel
theorem dX0_firstOf_2 : decode cX0_firstOf 2 = .ok (.invokevirtual 49, 3) := by decide +kernel
theorem dX0_firstOf_5 : decode cX0_firstOf 5 = .ok (.ifCond .eq 12, 3) := by decide +kernel
theorem dX0_firstOf_8 : decode cX0_firstOf 8 = .ok (.aload_n 0, 1) := by decide +kernel
theorem dX0_firstOf_9 : decode cX0_firstOf 9 = .ok (.getfield 24, 3) := by decide +kernel
theorem dX0_firstOf_12 : decode cX0_firstOf 12 = .ok (.iload_n 1, 1) := by decide +kernel
theorem dX0_firstOf_13 : decode cX0_firstOf 13 = .ok (.iaload, 1) := by decide +kernel
theorem dX0_firstOf_14 : decode cX0_firstOf 14 = .ok (.goto 5, 3) := by decide +kernel
theorem dX0_firstOf_17 : decode cX0_firstOf 17 = .ok (.bipush (-9), 2) := by decide +kernel
theorem dX0_firstOf_19 : decode cX0_firstOf 19 = .ok (.ireturn, 1) := by decide +kernel
theorem dX0_partOf_0 : decode cX0_partOf 0 = .ok (.iload_n 2, 1) := by decide +kernel
theorem dX0_partOf_1 : decode cX0_partOf 1 = .ok (.tableswitch 83 0 5 #[39, 45, 51, 57, 63, 69], 39) := by decide +kernel
theorem dX0_partOf_40 : decode cX0_partOf 40 = .ok (.aload_n 0, 1) := by decide +kernel
theorem dX0_partOf_41 : decode cX0_partOf 41 = .ok (.iload_n 1, 1) := by decide +kernel
theorem dX0_partOf_42 : decode cX0_partOf 42 = .ok (.invokevirtual 56, 3) := by decide +kernel
theorem dX0_partOf_45 : decode cX0_partOf 45 = .ok (.ireturn, 1) := by decide +kernel
theorem dX0_partOf_46 : decode cX0_partOf 46 = .ok (.aload_n 0, 1) := by decide +kernel
theorem dX0_partOf_47 : decode cX0_partOf 47 = .ok (.iload_n 1, 1) := by decide +kernel
theorem dX0_partOf_48 : decode cX0_partOf 48 = .ok (.invokevirtual 66, 3) := by decide +kernel
theorem dX0_partOf_51 : decode cX0_partOf 51 = .ok (.ireturn, 1) := by decide +kernel
theorem dX0_partOf_52 : decode cX0_partOf 52 = .ok (.aload_n 0, 1) := by decide +kernel
theorem dX0_partOf_53 : decode cX0_partOf 53 = .ok (.iload_n 1, 1) := by decide +kernel
theorem dX0_partOf_54 : decode cX0_partOf 54 = .ok (.invokevirtual 69, 3) := by decide +kernel
theorem dX0_partOf_57 : decode cX0_partOf 57 = .ok (.ireturn, 1) := by decide +kernel
theorem dX0_partOf_58 : decode cX0_partOf 58 = .ok (.aload_n 0, 1) := by decide +kernel
theorem dX0_partOf_59 : decode cX0_partOf 59 = .ok (.iload_n 1, 1) := by decide +kernel
theorem dX0_partOf_60 : decode cX0_partOf 60 = .ok (.invokevirtual 72, 3) := by decide +kernel
theorem dX0_partOf_63 : decode cX0_partOf 63 = .ok (.ireturn, 1) := by decide +kernel
theorem dX0_partOf_64 : decode cX0_partOf 64 = .ok (.aload_n 0, 1) := by decide +kernel
theorem dX0_partOf_65 : decode cX0_partOf 65 = .ok (.iload_n 1, 1) := by decide +kernel
theorem dX0_partOf_66 : decode cX0_partOf 66 = .ok (.invokevirtual 75, 3) := by decide +kernel
theorem dX0_partOf_69 : decode cX0_partOf 69 = .ok (.ireturn, 1) := by decide +kernel
theorem dX0_partOf_70 : decode cX0_partOf 70 = .ok (.aload_n 0, 1) := by decide +kernel
theorem dX0_partOf_71 : decode cX0_partOf 71 = .ok (.iload_n 1, 1) := by decide +kernel
theorem dX0_partOf_72 : decode cX0_partOf 72 = .ok (.invokevirtual 53, 3) := by decide +kernel
theorem dX0_partOf_75 : decode cX0_partOf 75 = .ok (.ifCond .eq 7, 3) := by decide +kernel
theorem dX0_partOf_78 : decode cX0_partOf 78 = .ok (.iconst 1, 1) := by decide +kernel
theorem dX0_partOf_79 : decode cX0_partOf 79 = .ok (.goto 4, 3) := by decide +kernel
theorem dX0_partOf_82 : decode cX0_partOf 82 = .ok (.iconst 0, 1) := by decide +kernel
theorem dX0_partOf_83 : decode cX0_partOf 83 = .ok (.ireturn, 1) := by decide +kernel
theorem dX0_partOf_84 : decode cX0_partOf 84 = .ok (.aload_n 0, 1) := by decide +kernel
theorem dX0_partOf_85 : decode cX0_partOf 85 = .ok (.iload_n 1, 1) := by decide +kernel
theorem dX0_partOf_86 : decode cX0_partOf 86 = .ok (.aload_n 0, 1) := by decide +kernel
theorem dX0_partOf_87 : decode cX0_partOf 87 = .ok (.getfield 37, 3) := by decide +kernel
theorem dX0_partOf_90 : decode cX0_partOf 90 = .ok (.invokevirtual 78, 3) := by decide +kernel
theorem dX0_partOf_93 : decode cX0_partOf 93 = .ok (.ireturn, 1) := by decide +kernel
theorem dX0_howManyOf_0 : decode cX0_howManyOf 0 = .ok (.iconst 0, 1) := by decide +kernel
theorem dX0_howManyOf_1 : decode cX0_howManyOf 1 = .ok (.istore_n 2, 1) := by decide +kernel
theorem dX0_howManyOf_2 : decode cX0_howManyOf 2 = .ok (.iconst 0, 1) := by decide +kernel
theorem dX0_howManyOf_3 : decode cX0_howManyOf 3 = .ok (.istore_n 3, 1) := by decide +kernel
theorem dX0_howManyOf_4 : decode cX0_howManyOf 4 = .ok (.iload_n 3, 1) := by decide +kernel
theorem dX0_howManyOf_5 : decode cX0_howManyOf 5 = .ok (.aload_n 0, 1) := by decide +kernel
theorem dX0_howManyOf_6 : decode cX0_howManyOf 6 = .ok (.getfield 30, 3) := by decide +kernel
theorem dX0_howManyOf_9 : decode cX0_howManyOf 9 = .ok (.if_icmp .ge 24, 3) := by decide +kernel
theorem dX0_howManyOf_12 : decode cX0_howManyOf 12 = .ok (.aload_n 0, 1) := by decide +kernel
theorem dX0_howManyOf_13 : decode cX0_howManyOf 13 = .ok (.iload_n 3, 1) := by decide +kernel
theorem dX0_howManyOf_14 : decode cX0_howManyOf 14 = .ok (.invokevirtual 56, 3) := by decide +kernel
theorem dX0_howManyOf_17 : decode cX0_howManyOf 17 = .ok (.iload_n 1, 1) := by decide +kernel
theorem dX0_howManyOf_18 : decode cX0_howManyOf 18 = .ok (.invokestatic 60, 3) := by decide +kernel
theorem dX0_howManyOf_21 : decode cX0_howManyOf 21 = .ok (.ifCond .eq 6, 3) := by decide +kernel
theorem dX0_howManyOf_24 : decode cX0_howManyOf 24 = .ok (.iinc 2 1, 3) := by decide +kernel
theorem dX0_howManyOf_27 : decode cX0_howManyOf 27 = .ok (.iinc 3 1, 3) := by decide +kernel
theorem dX0_howManyOf_30 : decode cX0_howManyOf 30 = .ok (.goto (-26), 3) := by decide +kernel
theorem dX0_howManyOf_33 : decode cX0_howManyOf 33 = .ok (.iload_n 2, 1) := by decide +kernel
theorem dX0_howManyOf_34 : decode cX0_howManyOf 34 = .ok (.ireturn, 1) := by decide +kernel
theorem dX0_glowOf_0 : decode cX0_glowOf 0 = .ok (.aload_n 0, 1) := by decide +kernel
theorem dX0_glowOf_1 : decode cX0_glowOf 1 = .ok (.iload_n 1, 1) := by decide +kernel
theorem dX0_glowOf_2 : decode cX0_glowOf 2 = .ok (.invokevirtual 56, 3) := by decide +kernel
theorem dX0_glowOf_5 : decode cX0_glowOf 5 = .ok (.aload_n 0, 1) := by decide +kernel
theorem dX0_glowOf_6 : decode cX0_glowOf 6 = .ok (.iload_n 1, 1) := by decide +kernel
theorem dX0_glowOf_7 : decode cX0_glowOf 7 = .ok (.invokevirtual 75, 3) := by decide +kernel
theorem dX0_glowOf_10 : decode cX0_glowOf 10 = .ok (.iload_n 2, 1) := by decide +kernel
theorem dX0_glowOf_11 : decode cX0_glowOf 11 = .ok (.invokestatic 82, 3) := by decide +kernel
theorem dX0_glowOf_14 : decode cX0_glowOf 14 = .ok (.ireturn, 1) := by decide +kernel
theorem dX0_litGlow_0 : decode cX0_litGlow 0 = .ok (.iconst 0, 1) := by decide +kernel
theorem dX0_litGlow_1 : decode cX0_litGlow 1 = .ok (.istore_n 1, 1) := by decide +kernel
theorem dX0_litGlow_2 : decode cX0_litGlow 2 = .ok (.iconst 0, 1) := by decide +kernel
theorem dX0_litGlow_3 : decode cX0_litGlow 3 = .ok (.istore_n 2, 1) := by decide +kernel
theorem dX0_litGlow_4 : decode cX0_litGlow 4 = .ok (.iload_n 2, 1) := by decide +kernel
theorem dX0_litGlow_5 : decode cX0_litGlow 5 = .ok (.aload_n 0, 1) := by decide +kernel
theorem dX0_litGlow_6 : decode cX0_litGlow 6 = .ok (.getfield 30, 3) := by decide +kernel
theorem dX0_litGlow_9 : decode cX0_litGlow 9 = .ok (.if_icmp .ge 29, 3) := by decide +kernel
theorem dX0_litGlow_12 : decode cX0_litGlow 12 = .ok (.aload_n 0, 1) := by decide +kernel
theorem dX0_litGlow_13 : decode cX0_litGlow 13 = .ok (.iload_n 2, 1) := by decide +kernel
theorem dX0_litGlow_14 : decode cX0_litGlow 14 = .ok (.invokevirtual 53, 3) := by decide +kernel
theorem dX0_litGlow_17 : decode cX0_litGlow 17 = .ok (.ifCond .eq 15, 3) := by decide +kernel
theorem dX0_litGlow_20 : decode cX0_litGlow 20 = .ok (.iload_n 1, 1) := by decide +kernel
theorem dX0_litGlow_21 : decode cX0_litGlow 21 = .ok (.aload_n 0, 1) := by decide +kernel
theorem dX0_litGlow_22 : decode cX0_litGlow 22 = .ok (.iload_n 2, 1) := by decide +kernel
theorem dX0_litGlow_23 : decode cX0_litGlow 23 = .ok (.aload_n 0, 1) := by decide +kernel
theorem dX0_litGlow_24 : decode cX0_litGlow 24 = .ok (.getfield 37, 3) := by decide +kernel
theorem dX0_litGlow_27 : decode cX0_litGlow 27 = .ok (.invokevirtual 78, 3) := by decide +kernel
theorem dX0_litGlow_30 : decode cX0_litGlow 30 = .ok (.iadd, 1) := by decide +kernel
theorem dX0_litGlow_31 : decode cX0_litGlow 31 = .ok (.istore_n 1, 1) := by decide +kernel
theorem dX0_litGlow_32 : decode cX0_litGlow 32 = .ok (.iinc 2 1, 3) := by decide +kernel
theorem dX0_litGlow_35 : decode cX0_litGlow 35 = .ok (.goto (-31), 3) := by decide +kernel
theorem dX0_litGlow_38 : decode cX0_litGlow 38 = .ok (.iload_n 1, 1) := by decide +kernel
theorem dX0_litGlow_39 : decode cX0_litGlow 39 = .ok (.ireturn, 1) := by decide +kernel
theorem dX0_faded_0 : decode cX0_faded 0 = .ok (.iconst 0, 1) := by decide +kernel
theorem dX0_faded_1 : decode cX0_faded 1 = .ok (.iload_n 0, 1) := by decide +kernel
theorem dX0_faded_2 : decode cX0_faded 2 = .ok (.iconst 2, 1) := by decide +kernel
theorem dX0_faded_3 : decode cX0_faded 3 = .ok (.iload_n 1, 1) := by decide +kernel
theorem dX0_faded_4 : decode cX0_faded 4 = .ok (.iload_n 2, 1) := by decide +kernel
theorem dX0_faded_5 : decode cX0_faded 5 = .ok (.isub, 1) := by decide +kernel
theorem dX0_faded_6 : decode cX0_faded 6 = .ok (.invokestatic 86, 3) := by decide +kernel
theorem dX0_faded_9 : decode cX0_faded 9 = .ok (.imul, 1) := by decide +kernel
theorem dX0_faded_10 : decode cX0_faded 10 = .ok (.isub, 1) := by decide +kernel
theorem dX0_faded_11 : decode cX0_faded 11 = .ok (.invokestatic 91, 3) := by decide +kernel
theorem dX0_faded_14 : decode cX0_faded 14 = .ok (.ireturn, 1) := by decide +kernel
theorem dX0_glowAt_0 : decode cX0_glowAt 0 = .ok (.aload_n 0, 1) := by decide +kernel
theorem dX0_glowAt_1 : decode cX0_glowAt 1 = .ok (.iload_n 1, 1) := by decide +kernel
theorem dX0_glowAt_2 : decode cX0_glowAt 2 = .ok (.iload_n 3, 1) := by decide +kernel
theorem dX0_glowAt_3 : decode cX0_glowAt 3 = .ok (.invokevirtual 78, 3) := by decide +kernel
theorem dX0_glowAt_6 : decode cX0_glowAt 6 = .ok (.aload_n 0, 1) := by decide +kernel
theorem dX0_glowAt_7 : decode cX0_glowAt 7 = .ok (.iload_n 1, 1) := by decide +kernel
theorem dX0_glowAt_8 : decode cX0_glowAt 8 = .ok (.invokevirtual 72, 3) := by decide +kernel
theorem dX0_glowAt_11 : decode cX0_glowAt 11 = .ok (.iload_n 2, 1) := by decide +kernel
theorem dX0_glowAt_12 : decode cX0_glowAt 12 = .ok (.invokestatic 94, 3) := by decide +kernel
theorem dX0_glowAt_15 : decode cX0_glowAt 15 = .ok (.ireturn, 1) := by decide +kernel
theorem dX0_brightAt_0 : decode cX0_brightAt 0 = .ok (.iconst 0, 1) := by decide +kernel
theorem dX0_brightAt_1 : decode cX0_brightAt 1 = .ok (.istore_n 3, 1) := by decide +kernel
theorem dX0_brightAt_2 : decode cX0_brightAt 2 = .ok (.iconst 0, 1) := by decide +kernel
theorem dX0_brightAt_3 : decode cX0_brightAt 3 = .ok (.istore 4, 2) := by decide +kernel
theorem dX0_brightAt_5 : decode cX0_brightAt 5 = .ok (.iload 4, 2) := by decide +kernel
theorem dX0_brightAt_7 : decode cX0_brightAt 7 = .ok (.aload_n 0, 1) := by decide +kernel
theorem dX0_brightAt_8 : decode cX0_brightAt 8 = .ok (.getfield 30, 3) := by decide +kernel
theorem dX0_brightAt_11 : decode cX0_brightAt 11 = .ok (.if_icmp .ge 29, 3) := by decide +kernel
theorem dX0_brightAt_14 : decode cX0_brightAt 14 = .ok (.aload_n 0, 1) := by decide +kernel
theorem dX0_brightAt_15 : decode cX0_brightAt 15 = .ok (.iload 4, 2) := by decide +kernel
theorem dX0_brightAt_17 : decode cX0_brightAt 17 = .ok (.invokevirtual 53, 3) := by decide +kernel
theorem dX0_brightAt_20 : decode cX0_brightAt 20 = .ok (.ifCond .eq 14, 3) := by decide +kernel
theorem dX0_brightAt_23 : decode cX0_brightAt 23 = .ok (.iload_n 3, 1) := by decide +kernel
theorem dX0_brightAt_24 : decode cX0_brightAt 24 = .ok (.aload_n 0, 1) := by decide +kernel
theorem dX0_brightAt_25 : decode cX0_brightAt 25 = .ok (.iload 4, 2) := by decide +kernel
theorem dX0_brightAt_27 : decode cX0_brightAt 27 = .ok (.iload_n 1, 1) := by decide +kernel
theorem dX0_brightAt_28 : decode cX0_brightAt 28 = .ok (.iload_n 2, 1) := by decide +kernel
theorem dX0_brightAt_29 : decode cX0_brightAt 29 = .ok (.invokevirtual 97, 3) := by decide +kernel
theorem dX0_brightAt_32 : decode cX0_brightAt 32 = .ok (.iadd, 1) := by decide +kernel
theorem dX0_brightAt_33 : decode cX0_brightAt 33 = .ok (.istore_n 3, 1) := by decide +kernel
theorem dX0_brightAt_34 : decode cX0_brightAt 34 = .ok (.iinc 4 1, 3) := by decide +kernel
theorem dX0_brightAt_37 : decode cX0_brightAt 37 = .ok (.goto (-32), 3) := by decide +kernel
theorem dX0_brightAt_40 : decode cX0_brightAt 40 = .ok (.iload_n 3, 1) := by decide +kernel
theorem dX0_brightAt_41 : decode cX0_brightAt 41 = .ok (.ireturn, 1) := by decide +kernel
theorem dX0_brightAlong_0 : decode cX0_brightAlong 0 = .ok (.iconst 0, 1) := by decide +kernel
theorem dX0_brightAlong_1 : decode cX0_brightAlong 1 = .ok (.istore_n 3, 1) := by decide +kernel
theorem dX0_brightAlong_2 : decode cX0_brightAlong 2 = .ok (.iconst 0, 1) := by decide +kernel
theorem dX0_brightAlong_3 : decode cX0_brightAlong 3 = .ok (.iload_n 1, 1) := by decide +kernel
theorem dX0_brightAlong_4 : decode cX0_brightAlong 4 = .ok (.invokestatic 91, 3) := by decide +kernel
theorem dX0_brightAlong_7 : decode cX0_brightAlong 7 = .ok (.istore 4, 2) := by decide +kernel
theorem dX0_brightAlong_9 : decode cX0_brightAlong 9 = .ok (.iload 4, 2) := by decide +kernel
theorem dX0_brightAlong_11 : decode cX0_brightAlong 11 = .ok (.iload_n 2, 1) := by decide +kernel
theorem dX0_brightAlong_12 : decode cX0_brightAlong 12 = .ok (.if_icmp .gt 29, 3) := by decide +kernel
theorem dX0_brightAlong_15 : decode cX0_brightAlong 15 = .ok (.iload 4, 2) := by decide +kernel
theorem dX0_brightAlong_17 : decode cX0_brightAlong 17 = .ok (.bipush 10, 2) := by decide +kernel
theorem dX0_brightAlong_19 : decode cX0_brightAlong 19 = .ok (.if_icmp .ge 22, 3) := by decide +kernel
theorem dX0_brightAlong_22 : decode cX0_brightAlong 22 = .ok (.iload_n 3, 1) := by decide +kernel
theorem dX0_brightAlong_23 : decode cX0_brightAlong 23 = .ok (.aload_n 0, 1) := by decide +kernel
theorem dX0_brightAlong_24 : decode cX0_brightAlong 24 = .ok (.iload 4, 2) := by decide +kernel
theorem dX0_brightAlong_26 : decode cX0_brightAlong 26 = .ok (.aload_n 0, 1) := by decide +kernel
theorem dX0_brightAlong_27 : decode cX0_brightAlong 27 = .ok (.getfield 37, 3) := by decide +kernel
theorem dX0_brightAlong_30 : decode cX0_brightAlong 30 = .ok (.invokevirtual 100, 3) := by decide +kernel
theorem dX0_brightAlong_33 : decode cX0_brightAlong 33 = .ok (.iadd, 1) := by decide +kernel
theorem dX0_brightAlong_34 : decode cX0_brightAlong 34 = .ok (.istore_n 3, 1) := by decide +kernel
theorem dX0_brightAlong_35 : decode cX0_brightAlong 35 = .ok (.iinc 4 1, 3) := by decide +kernel
theorem dX0_brightAlong_38 : decode cX0_brightAlong 38 = .ok (.goto (-29), 3) := by decide +kernel
theorem dX0_brightAlong_41 : decode cX0_brightAlong 41 = .ok (.iload_n 3, 1) := by decide +kernel
theorem dX0_brightAlong_42 : decode cX0_brightAlong 42 = .ok (.ireturn, 1) := by decide +kernel
theorem dX0_shareAlong_0 : decode cX0_shareAlong 0 = .ok (.aload_n 0, 1) := by decide +kernel
theorem dX0_shareAlong_1 : decode cX0_shareAlong 1 = .ok (.iload_n 1, 1) := by decide +kernel
theorem dX0_shareAlong_2 : decode cX0_shareAlong 2 = .ok (.invokevirtual 53, 3) := by decide +kernel
theorem dX0_shareAlong_5 : decode cX0_shareAlong 5 = .ok (.ifCond .ne 5, 3) := by decide +kernel
theorem dX0_shareAlong_8 : decode cX0_shareAlong 8 = .ok (.iconst 0, 1) := by decide +kernel
theorem dX0_shareAlong_9 : decode cX0_shareAlong 9 = .ok (.ireturn, 1) := by decide +kernel
theorem dX0_shareAlong_10 : decode cX0_shareAlong 10 = .ok (.aload_n 0, 1) := by decide +kernel
theorem dX0_shareAlong_11 : decode cX0_shareAlong 11 = .ok (.iload_n 1, 1) := by decide +kernel
theorem dX0_shareAlong_12 : decode cX0_shareAlong 12 = .ok (.aload_n 0, 1) := by decide +kernel
theorem dX0_shareAlong_13 : decode cX0_shareAlong 13 = .ok (.getfield 37, 3) := by decide +kernel
theorem dX0_shareAlong_16 : decode cX0_shareAlong 16 = .ok (.invokevirtual 78, 3) := by decide +kernel
theorem dX0_shareAlong_19 : decode cX0_shareAlong 19 = .ok (.istore 5, 2) := by decide +kernel
theorem dX0_shareAlong_21 : decode cX0_shareAlong 21 = .ok (.iconst 0, 1) := by decide +kernel
theorem dX0_shareAlong_22 : decode cX0_shareAlong 22 = .ok (.istore 6, 2) := by decide +kernel
theorem dX0_shareAlong_24 : decode cX0_shareAlong 24 = .ok (.iconst 0, 1) := by decide +kernel
theorem dX0_shareAlong_25 : decode cX0_shareAlong 25 = .ok (.iload_n 3, 1) := by decide +kernel
theorem dX0_shareAlong_26 : decode cX0_shareAlong 26 = .ok (.invokestatic 91, 3) := by decide +kernel
theorem dX0_shareAlong_29 : decode cX0_shareAlong 29 = .ok (.istore 7, 2) := by decide +kernel
theorem dX0_shareAlong_31 : decode cX0_shareAlong 31 = .ok (.iload 7, 2) := by decide +kernel
theorem dX0_shareAlong_33 : decode cX0_shareAlong 33 = .ok (.iload 4, 2) := by decide +kernel
theorem dX0_shareAlong_35 : decode cX0_shareAlong 35 = .ok (.if_icmp .gt 29, 3) := by decide +kernel
theorem dX0_shareAlong_38 : decode cX0_shareAlong 38 = .ok (.iload 7, 2) := by decide +kernel
theorem dX0_shareAlong_40 : decode cX0_shareAlong 40 = .ok (.bipush 10, 2) := by decide +kernel
theorem dX0_shareAlong_42 : decode cX0_shareAlong 42 = .ok (.if_icmp .ge 22, 3) := by decide +kernel
theorem dX0_shareAlong_45 : decode cX0_shareAlong 45 = .ok (.iload 6, 2) := by decide +kernel
theorem dX0_shareAlong_47 : decode cX0_shareAlong 47 = .ok (.iload 5, 2) := by decide +kernel
theorem dX0_shareAlong_49 : decode cX0_shareAlong 49 = .ok (.iload_n 2, 1) := by decide +kernel
theorem dX0_shareAlong_50 : decode cX0_shareAlong 50 = .ok (.iload 7, 2) := by decide +kernel
theorem dX0_shareAlong_52 : decode cX0_shareAlong 52 = .ok (.invokestatic 94, 3) := by decide +kernel
theorem dX0_shareAlong_55 : decode cX0_shareAlong 55 = .ok (.iadd, 1) := by decide +kernel
theorem dX0_shareAlong_56 : decode cX0_shareAlong 56 = .ok (.istore 6, 2) := by decide +kernel
theorem dX0_shareAlong_58 : decode cX0_shareAlong 58 = .ok (.iinc 7 1, 3) := by decide +kernel
theorem dX0_shareAlong_61 : decode cX0_shareAlong 61 = .ok (.goto (-30), 3) := by decide +kernel
theorem dX0_shareAlong_64 : decode cX0_shareAlong 64 = .ok (.iload 6, 2) := by decide +kernel
theorem dX0_shareAlong_66 : decode cX0_shareAlong 66 = .ok (.ireturn, 1) := by decide +kernel
theorem dX0_balanceOf_0 : decode cX0_balanceOf 0 = .ok (.bipush 100, 2) := by decide +kernel
theorem dX0_balanceOf_2 : decode cX0_balanceOf 2 = .ok (.istore_n 2, 1) := by decide +kernel
theorem dX0_balanceOf_3 : decode cX0_balanceOf 3 = .ok (.iconst 0, 1) := by decide +kernel
theorem dX0_balanceOf_4 : decode cX0_balanceOf 4 = .ok (.istore_n 3, 1) := by decide +kernel
theorem dX0_balanceOf_5 : decode cX0_balanceOf 5 = .ok (.iload_n 3, 1) := by decide +kernel
theorem dX0_balanceOf_6 : decode cX0_balanceOf 6 = .ok (.aload_n 0, 1) := by decide +kernel
theorem dX0_balanceOf_7 : decode cX0_balanceOf 7 = .ok (.getfield 30, 3) := by decide +kernel
theorem dX0_balanceOf_10 : decode cX0_balanceOf 10 = .ok (.if_icmp .ge 49, 3) := by decide +kernel
theorem dX0_balanceOf_13 : decode cX0_balanceOf 13 = .ok (.aload_n 0, 1) := by decide +kernel
theorem dX0_balanceOf_14 : decode cX0_balanceOf 14 = .ok (.iload_n 3, 1) := by decide +kernel
theorem dX0_balanceOf_15 : decode cX0_balanceOf 15 = .ok (.invokevirtual 103, 3) := by decide +kernel
theorem dX0_balanceOf_18 : decode cX0_balanceOf 18 = .ok (.ifCond .eq 15, 3) := by decide +kernel
theorem dX0_balanceOf_21 : decode cX0_balanceOf 21 = .ok (.aload_n 0, 1) := by decide +kernel
theorem dX0_balanceOf_22 : decode cX0_balanceOf 22 = .ok (.iload_n 3, 1) := by decide +kernel
theorem dX0_balanceOf_23 : decode cX0_balanceOf 23 = .ok (.invokevirtual 66, 3) := by decide +kernel
theorem dX0_balanceOf_26 : decode cX0_balanceOf 26 = .ok (.iload_n 1, 1) := by decide +kernel
theorem dX0_balanceOf_27 : decode cX0_balanceOf 27 = .ok (.if_icmp .ne 6, 3) := by decide +kernel
theorem dX0_balanceOf_30 : decode cX0_balanceOf 30 = .ok (.iinc 2 1, 3) := by decide +kernel
theorem dX0_balanceOf_33 : decode cX0_balanceOf 33 = .ok (.aload_n 0, 1) := by decide +kernel
theorem dX0_balanceOf_34 : decode cX0_balanceOf 34 = .ok (.iload_n 3, 1) := by decide +kernel
theorem dX0_balanceOf_35 : decode cX0_balanceOf 35 = .ok (.invokevirtual 103, 3) := by decide +kernel
theorem dX0_balanceOf_38 : decode cX0_balanceOf 38 = .ok (.ifCond .eq 15, 3) := by decide +kernel
theorem dX0_balanceOf_41 : decode cX0_balanceOf 41 = .ok (.aload_n 0, 1) := by decide +kernel
theorem dX0_balanceOf_42 : decode cX0_balanceOf 42 = .ok (.iload_n 3, 1) := by decide +kernel
theorem dX0_balanceOf_43 : decode cX0_balanceOf 43 = .ok (.invokevirtual 69, 3) := by decide +kernel
theorem dX0_balanceOf_46 : decode cX0_balanceOf 46 = .ok (.iload_n 1, 1) := by decide +kernel
theorem dX0_balanceOf_47 : decode cX0_balanceOf 47 = .ok (.if_icmp .ne 6, 3) := by decide +kernel
theorem dX0_balanceOf_50 : decode cX0_balanceOf 50 = .ok (.iinc 2 (-1), 3) := by decide +kernel
theorem dX0_balanceOf_53 : decode cX0_balanceOf 53 = .ok (.iinc 3 1, 3) := by decide +kernel
theorem dX0_balanceOf_56 : decode cX0_balanceOf 56 = .ok (.goto (-51), 3) := by decide +kernel
theorem dX0_balanceOf_59 : decode cX0_balanceOf 59 = .ok (.iload_n 2, 1) := by decide +kernel
theorem dX0_balanceOf_60 : decode cX0_balanceOf 60 = .ok (.ireturn, 1) := by decide +kernel
theorem dX0_passNight_0 : decode cX0_passNight 0 = .ok (.aload_n 0, 1) := by decide +kernel
theorem dX0_passNight_1 : decode cX0_passNight 1 = .ok (.iconst 0, 1) := by decide +kernel
theorem dX0_passNight_2 : decode cX0_passNight 2 = .ok (.iconst 0, 1) := by decide +kernel
theorem dX0_passNight_3 : decode cX0_passNight 3 = .ok (.iconst 0, 1) := by decide +kernel
theorem dX0_passNight_4 : decode cX0_passNight 4 = .ok (.invokevirtual 106, 3) := by decide +kernel
theorem dX0_passNight_7 : decode cX0_passNight 7 = .ok (.aload_n 0, 1) := by decide +kernel
theorem dX0_passNight_8 : decode cX0_passNight 8 = .ok (.dup, 1) := by decide +kernel
theorem dX0_passNight_9 : decode cX0_passNight 9 = .ok (.getfield 37, 3) := by decide +kernel
theorem dX0_passNight_12 : decode cX0_passNight 12 = .ok (.iconst 1, 1) := by decide +kernel
theorem dX0_passNight_13 : decode cX0_passNight 13 = .ok (.iadd, 1) := by decide +kernel
theorem dX0_passNight_14 : decode cX0_passNight 14 = .ok (.putfield 37, 3) := by decide +kernel
theorem dX0_passNight_17 : decode cX0_passNight 17 = .ok (.return_, 1) := by decide +kernel
theorem dX0_putOut_0 : decode cX0_putOut 0 = .ok (.aload_n 0, 1) := by decide +kernel
theorem dX0_putOut_1 : decode cX0_putOut 1 = .ok (.iload_n 1, 1) := by decide +kernel
theorem dX0_putOut_2 : decode cX0_putOut 2 = .ok (.invokevirtual 49, 3) := by decide +kernel
theorem dX0_putOut_5 : decode cX0_putOut 5 = .ok (.ifCond .eq 24, 3) := by decide +kernel
theorem dX0_putOut_8 : decode cX0_putOut 8 = .ok (.aload_n 0, 1) := by decide +kernel
theorem dX0_putOut_9 : decode cX0_putOut 9 = .ok (.iconst 1, 1) := by decide +kernel
theorem dX0_putOut_10 : decode cX0_putOut 10 = .ok (.iload_n 1, 1) := by decide +kernel
theorem dX0_putOut_11 : decode cX0_putOut 11 = .ok (.iconst 0, 1) := by decide +kernel
theorem dX0_putOut_12 : decode cX0_putOut 12 = .ok (.invokevirtual 106, 3) := by decide +kernel
theorem dX0_putOut_15 : decode cX0_putOut 15 = .ok (.aload_n 0, 1) := by decide +kernel
theorem dX0_putOut_16 : decode cX0_putOut 16 = .ok (.dup, 1) := by decide +kernel
theorem dX0_putOut_17 : decode cX0_putOut 17 = .ok (.getfield 34, 3) := by decide +kernel
theorem dX0_putOut_20 : decode cX0_putOut 20 = .ok (.iconst 1, 1) := by decide +kernel
theorem dX0_putOut_21 : decode cX0_putOut 21 = .ok (.iload_n 1, 1) := by decide +kernel
theorem dX0_putOut_22 : decode cX0_putOut 22 = .ok (.ishl, 1) := by decide +kernel
theorem dX0_putOut_23 : decode cX0_putOut 23 = .ok (.iconst (-1), 1) := by decide +kernel
theorem dX0_putOut_24 : decode cX0_putOut 24 = .ok (.ixor, 1) := by decide +kernel
theorem dX0_putOut_25 : decode cX0_putOut 25 = .ok (.iand, 1) := by decide +kernel
theorem dX0_putOut_26 : decode cX0_putOut 26 = .ok (.putfield 34, 3) := by decide +kernel
theorem dX0_putOut_29 : decode cX0_putOut 29 = .ok (.return_, 1) := by decide +kernel
theorem dX0_lightAgain_0 : decode cX0_lightAgain 0 = .ok (.aload_n 0, 1) := by decide +kernel
theorem dX0_lightAgain_1 : decode cX0_lightAgain 1 = .ok (.iload_n 1, 1) := by decide +kernel
theorem dX0_lightAgain_2 : decode cX0_lightAgain 2 = .ok (.invokevirtual 49, 3) := by decide +kernel
theorem dX0_lightAgain_5 : decode cX0_lightAgain 5 = .ok (.ifCond .eq 22, 3) := by decide +kernel
theorem dX0_lightAgain_8 : decode cX0_lightAgain 8 = .ok (.aload_n 0, 1) := by decide +kernel
theorem dX0_lightAgain_9 : decode cX0_lightAgain 9 = .ok (.iconst 2, 1) := by decide +kernel
theorem dX0_lightAgain_10 : decode cX0_lightAgain 10 = .ok (.iload_n 1, 1) := by decide +kernel
theorem dX0_lightAgain_11 : decode cX0_lightAgain 11 = .ok (.iconst 0, 1) := by decide +kernel
theorem dX0_lightAgain_12 : decode cX0_lightAgain 12 = .ok (.invokevirtual 106, 3) := by decide +kernel
theorem dX0_lightAgain_15 : decode cX0_lightAgain 15 = .ok (.aload_n 0, 1) := by decide +kernel
theorem dX0_lightAgain_16 : decode cX0_lightAgain 16 = .ok (.dup, 1) := by decide +kernel
theorem dX0_lightAgain_17 : decode cX0_lightAgain 17 = .ok (.getfield 34, 3) := by decide +kernel
theorem dX0_lightAgain_20 : decode cX0_lightAgain 20 = .ok (.iconst 1, 1) := by decide +kernel
theorem dX0_lightAgain_21 : decode cX0_lightAgain 21 = .ok (.iload_n 1, 1) := by decide +kernel
theorem dX0_lightAgain_22 : decode cX0_lightAgain 22 = .ok (.ishl, 1) := by decide +kernel
theorem dX0_lightAgain_23 : decode cX0_lightAgain 23 = .ok (.ior, 1) := by decide +kernel
theorem dX0_lightAgain_24 : decode cX0_lightAgain 24 = .ok (.putfield 34, 3) := by decide +kernel
theorem dX0_lightAgain_27 : decode cX0_lightAgain 27 = .ok (.return_, 1) := by decide +kernel
theorem dX0_carryTo_0 : decode cX0_carryTo 0 = .ok (.aload_n 0, 1) := by decide +kernel
theorem dX0_carryTo_1 : decode cX0_carryTo 1 = .ok (.iload_n 1, 1) := by decide +kernel
theorem dX0_carryTo_2 : decode cX0_carryTo 2 = .ok (.invokevirtual 49, 3) := by decide +kernel
theorem dX0_carryTo_5 : decode cX0_carryTo 5 = .ok (.ifCond .eq 22, 3) := by decide +kernel
theorem dX0_carryTo_8 : decode cX0_carryTo 8 = .ok (.aload_n 0, 1) := by decide +kernel
theorem dX0_carryTo_9 : decode cX0_carryTo 9 = .ok (.iconst 3, 1) := by decide +kernel
theorem dX0_carryTo_10 : decode cX0_carryTo 10 = .ok (.iload_n 1, 1) := by decide +kernel
theorem dX0_carryTo_11 : decode cX0_carryTo 11 = .ok (.aload_n 0, 1) := by decide +kernel
theorem dX0_carryTo_12 : decode cX0_carryTo 12 = .ok (.getfield 21, 3) := by decide +kernel
theorem dX0_carryTo_15 : decode cX0_carryTo 15 = .ok (.iload_n 1, 1) := by decide +kernel
theorem dX0_carryTo_16 : decode cX0_carryTo 16 = .ok (.iaload, 1) := by decide +kernel
theorem dX0_carryTo_17 : decode cX0_carryTo 17 = .ok (.invokevirtual 106, 3) := by decide +kernel
theorem dX0_carryTo_20 : decode cX0_carryTo 20 = .ok (.aload_n 0, 1) := by decide +kernel
theorem dX0_carryTo_21 : decode cX0_carryTo 21 = .ok (.getfield 21, 3) := by decide +kernel
theorem dX0_carryTo_24 : decode cX0_carryTo 24 = .ok (.iload_n 1, 1) := by decide +kernel
theorem dX0_carryTo_25 : decode cX0_carryTo 25 = .ok (.iload_n 2, 1) := by decide +kernel
theorem dX0_carryTo_26 : decode cX0_carryTo 26 = .ok (.iastore, 1) := by decide +kernel
theorem dX0_carryTo_27 : decode cX0_carryTo 27 = .ok (.return_, 1) := by decide +kernel
theorem dX0_doByLot_0 : decode cX0_doByLot 0 = .ok (.aload_n 0, 1) := by decide +kernel
theorem dX0_doByLot_1 : decode cX0_doByLot 1 = .ok (.getfield 30, 3) := by decide +kernel
theorem dX0_doByLot_4 : decode cX0_doByLot 4 = .ok (.ifCond .le 9, 3) := by decide +kernel
theorem dX0_doByLot_7 : decode cX0_doByLot 7 = .ok (.lload_n 1, 1) := by decide +kernel
theorem dX0_doByLot_8 : decode cX0_doByLot 8 = .ok (.lconst 0, 1) := by decide +kernel
theorem dX0_doByLot_9 : decode cX0_doByLot 9 = .ok (.lcmp, 1) := by decide +kernel
theorem dX0_doByLot_10 : decode cX0_doByLot 10 = .ok (.ifCond .ge 4, 3) := by decide +kernel
theorem dX0_doByLot_13 : decode cX0_doByLot 13 = .ok (.return_, 1) := by decide +kernel
theorem dX0_doByLot_14 : decode cX0_doByLot 14 = .ok (.lload_n 1, 1) := by decide +kernel
theorem dX0_doByLot_15 : decode cX0_doByLot 15 = .ok (.ldc2_w 110, 3) := by decide +kernel
theorem dX0_doByLot_18 : decode cX0_doByLot 18 = .ok (.ldiv, 1) := by decide +kernel
theorem dX0_doByLot_19 : decode cX0_doByLot 19 = .ok (.aload_n 0, 1) := by decide +kernel
theorem dX0_doByLot_20 : decode cX0_doByLot 20 = .ok (.getfield 30, 3) := by decide +kernel
theorem dX0_doByLot_23 : decode cX0_doByLot 23 = .ok (.i2l, 1) := by decide +kernel
theorem dX0_doByLot_24 : decode cX0_doByLot 24 = .ok (.lrem, 1) := by decide +kernel
theorem dX0_doByLot_25 : decode cX0_doByLot 25 = .ok (.l2i, 1) := by decide +kernel
theorem dX0_doByLot_26 : decode cX0_doByLot 26 = .ok (.istore_n 3, 1) := by decide +kernel
theorem dX0_doByLot_27 : decode cX0_doByLot 27 = .ok (.lload_n 1, 1) := by decide +kernel
theorem dX0_doByLot_28 : decode cX0_doByLot 28 = .ok (.ldc2_w 112, 3) := by decide +kernel
theorem dX0_doByLot_31 : decode cX0_doByLot 31 = .ok (.lrem, 1) := by decide +kernel
theorem dX0_doByLot_32 : decode cX0_doByLot 32 = .ok (.lconst 0, 1) := by decide +kernel
theorem dX0_doByLot_33 : decode cX0_doByLot 33 = .ok (.lcmp, 1) := by decide +kernel
theorem dX0_doByLot_34 : decode cX0_doByLot 34 = .ok (.ifCond .ne 19, 3) := by decide +kernel
theorem dX0_doByLot_37 : decode cX0_doByLot 37 = .ok (.aload_n 0, 1) := by decide +kernel
theorem dX0_doByLot_38 : decode cX0_doByLot 38 = .ok (.getfield 37, 3) := by decide +kernel
theorem dX0_doByLot_41 : decode cX0_doByLot 41 = .ok (.bipush 40, 2) := by decide +kernel
theorem dX0_doByLot_43 : decode cX0_doByLot 43 = .ok (.if_icmp .ge 10, 3) := by decide +kernel
theorem dX0_doByLot_46 : decode cX0_doByLot 46 = .ok (.aload_n 0, 1) := by decide +kernel
theorem dX0_doByLot_47 : decode cX0_doByLot 47 = .ok (.invokevirtual 114, 3) := by decide +kernel
theorem dX0_doByLot_50 : decode cX0_doByLot 50 = .ok (.goto 52, 3) := by decide +kernel
theorem dX0_doByLot_53 : decode cX0_doByLot 53 = .ok (.lload_n 1, 1) := by decide +kernel
theorem dX0_doByLot_54 : decode cX0_doByLot 54 = .ok (.ldc2_w 112, 3) := by decide +kernel
theorem dX0_doByLot_57 : decode cX0_doByLot 57 = .ok (.lrem, 1) := by decide +kernel
theorem dX0_doByLot_58 : decode cX0_doByLot 58 = .ok (.lconst 1, 1) := by decide +kernel
theorem dX0_doByLot_59 : decode cX0_doByLot 59 = .ok (.lcmp, 1) := by decide +kernel
theorem dX0_doByLot_60 : decode cX0_doByLot 60 = .ok (.ifCond .ne 21, 3) := by decide +kernel
theorem dX0_doByLot_63 : decode cX0_doByLot 63 = .ok (.aload_n 0, 1) := by decide +kernel
theorem dX0_doByLot_64 : decode cX0_doByLot 64 = .ok (.iload_n 3, 1) := by decide +kernel
theorem dX0_doByLot_65 : decode cX0_doByLot 65 = .ok (.lload_n 1, 1) := by decide +kernel
theorem dX0_doByLot_66 : decode cX0_doByLot 66 = .ok (.ldc2_w 117, 3) := by decide +kernel
theorem dX0_doByLot_69 : decode cX0_doByLot 69 = .ok (.ldiv, 1) := by decide +kernel
theorem dX0_doByLot_70 : decode cX0_doByLot 70 = .ok (.ldc2_w 119, 3) := by decide +kernel
theorem dX0_doByLot_73 : decode cX0_doByLot 73 = .ok (.lrem, 1) := by decide +kernel
theorem dX0_doByLot_74 : decode cX0_doByLot 74 = .ok (.l2i, 1) := by decide +kernel
theorem dX0_doByLot_75 : decode cX0_doByLot 75 = .ok (.invokevirtual 121, 3) := by decide +kernel
theorem dX0_doByLot_78 : decode cX0_doByLot 78 = .ok (.goto 24, 3) := by decide +kernel
theorem dX0_doByLot_81 : decode cX0_doByLot 81 = .ok (.aload_n 0, 1) := by decide +kernel
theorem dX0_doByLot_82 : decode cX0_doByLot 82 = .ok (.iload_n 3, 1) := by decide +kernel
theorem dX0_doByLot_83 : decode cX0_doByLot 83 = .ok (.invokevirtual 53, 3) := by decide +kernel
theorem dX0_doByLot_86 : decode cX0_doByLot 86 = .ok (.ifCond .eq 11, 3) := by decide +kernel
theorem dX0_doByLot_89 : decode cX0_doByLot 89 = .ok (.aload_n 0, 1) := by decide +kernel
theorem dX0_doByLot_90 : decode cX0_doByLot 90 = .ok (.iload_n 3, 1) := by decide +kernel
theorem dX0_doByLot_91 : decode cX0_doByLot 91 = .ok (.invokevirtual 125, 3) := by decide +kernel
theorem dX0_doByLot_94 : decode cX0_doByLot 94 = .ok (.goto 8, 3) := by decide +kernel
theorem dX0_doByLot_97 : decode cX0_doByLot 97 = .ok (.aload_n 0, 1) := by decide +kernel
theorem dX0_doByLot_98 : decode cX0_doByLot 98 = .ok (.iload_n 3, 1) := by decide +kernel
theorem dX0_doByLot_99 : decode cX0_doByLot 99 = .ok (.invokevirtual 129, 3) := by decide +kernel
theorem dX0_doByLot_102 : decode cX0_doByLot 102 = .ok (.return_, 1) := by decide +kernel
theorem dX0_write_0 : decode cX0_write 0 = .ok (.aload_n 0, 1) := by decide +kernel
theorem dX0_write_1 : decode cX0_write 1 = .ok (.getfield 40, 3) := by decide +kernel
theorem dX0_write_4 : decode cX0_write 4 = .ok (.bipush 40, 2) := by decide +kernel
theorem dX0_write_6 : decode cX0_write 6 = .ok (.if_icmp .ge 32, 3) := by decide +kernel
theorem dX0_write_9 : decode cX0_write 9 = .ok (.aload_n 0, 1) := by decide +kernel
theorem dX0_write_10 : decode cX0_write 10 = .ok (.getfield 27, 3) := by decide +kernel
theorem dX0_write_13 : decode cX0_write 13 = .ok (.aload_n 0, 1) := by decide +kernel
theorem dX0_write_14 : decode cX0_write 14 = .ok (.getfield 40, 3) := by decide +kernel
theorem dX0_write_17 : decode cX0_write 17 = .ok (.iload_n 1, 1) := by decide +kernel
theorem dX0_write_18 : decode cX0_write 18 = .ok (.iconst 4, 1) := by decide +kernel
theorem dX0_write_19 : decode cX0_write 19 = .ok (.iload_n 2, 1) := by decide +kernel
theorem dX0_write_20 : decode cX0_write 20 = .ok (.bipush 8, 2) := by decide +kernel
theorem dX0_write_22 : decode cX0_write 22 = .ok (.iload_n 3, 1) := by decide +kernel
theorem dX0_write_23 : decode cX0_write 23 = .ok (.imul, 1) := by decide +kernel
theorem dX0_write_24 : decode cX0_write 24 = .ok (.iadd, 1) := by decide +kernel
theorem dX0_write_25 : decode cX0_write 25 = .ok (.imul, 1) := by decide +kernel
theorem dX0_write_26 : decode cX0_write 26 = .ok (.iadd, 1) := by decide +kernel
theorem dX0_write_27 : decode cX0_write 27 = .ok (.iastore, 1) := by decide +kernel
theorem dX0_write_28 : decode cX0_write 28 = .ok (.aload_n 0, 1) := by decide +kernel
theorem dX0_write_29 : decode cX0_write 29 = .ok (.dup, 1) := by decide +kernel
theorem dX0_write_30 : decode cX0_write 30 = .ok (.getfield 40, 3) := by decide +kernel
theorem dX0_write_33 : decode cX0_write 33 = .ok (.iconst 1, 1) := by decide +kernel
theorem dX0_write_34 : decode cX0_write 34 = .ok (.iadd, 1) := by decide +kernel
theorem dX0_write_35 : decode cX0_write 35 = .ok (.putfield 40, 3) := by decide +kernel
theorem dX0_write_38 : decode cX0_write 38 = .ok (.return_, 1) := by decide +kernel
theorem dX0_takeBackFrom_0 : decode cX0_takeBackFrom 0 = .ok (.aload_n 0, 1) := by decide +kernel
theorem dX0_takeBackFrom_1 : decode cX0_takeBackFrom 1 = .ok (.getfield 40, 3) := by decide +kernel
theorem dX0_takeBackFrom_4 : decode cX0_takeBackFrom 4 = .ok (.iload_n 1, 1) := by decide +kernel
theorem dX0_takeBackFrom_5 : decode cX0_takeBackFrom 5 = .ok (.if_icmp .le 36, 3) := by decide +kernel
theorem dX0_takeBackFrom_8 : decode cX0_takeBackFrom 8 = .ok (.aload_n 0, 1) := by decide +kernel
theorem dX0_takeBackFrom_9 : decode cX0_takeBackFrom 9 = .ok (.getfield 40, 3) := by decide +kernel
theorem dX0_takeBackFrom_12 : decode cX0_takeBackFrom 12 = .ok (.ifCond .le 29, 3) := by decide +kernel
theorem dX0_takeBackFrom_15 : decode cX0_takeBackFrom 15 = .ok (.aload_n 0, 1) := by decide +kernel
theorem dX0_takeBackFrom_16 : decode cX0_takeBackFrom 16 = .ok (.dup, 1) := by decide +kernel
theorem dX0_takeBackFrom_17 : decode cX0_takeBackFrom 17 = .ok (.getfield 40, 3) := by decide +kernel
theorem dX0_takeBackFrom_20 : decode cX0_takeBackFrom 20 = .ok (.iconst 1, 1) := by decide +kernel
theorem dX0_takeBackFrom_21 : decode cX0_takeBackFrom 21 = .ok (.isub, 1) := by decide +kernel
theorem dX0_takeBackFrom_22 : decode cX0_takeBackFrom 22 = .ok (.putfield 40, 3) := by decide +kernel
theorem dX0_takeBackFrom_25 : decode cX0_takeBackFrom 25 = .ok (.aload_n 0, 1) := by decide +kernel
theorem dX0_takeBackFrom_26 : decode cX0_takeBackFrom 26 = .ok (.aload_n 0, 1) := by decide +kernel
theorem dX0_takeBackFrom_27 : decode cX0_takeBackFrom 27 = .ok (.getfield 27, 3) := by decide +kernel
theorem dX0_takeBackFrom_30 : decode cX0_takeBackFrom 30 = .ok (.aload_n 0, 1) := by decide +kernel
theorem dX0_takeBackFrom_31 : decode cX0_takeBackFrom 31 = .ok (.getfield 40, 3) := by decide +kernel
theorem dX0_takeBackFrom_34 : decode cX0_takeBackFrom 34 = .ok (.iaload, 1) := by decide +kernel
theorem dX0_takeBackFrom_35 : decode cX0_takeBackFrom 35 = .ok (.invokevirtual 132, 3) := by decide +kernel
theorem dX0_takeBackFrom_38 : decode cX0_takeBackFrom 38 = .ok (.goto (-38), 3) := by decide +kernel
theorem dX0_takeBackFrom_41 : decode cX0_takeBackFrom 41 = .ok (.return_, 1) := by decide +kernel
theorem dX0_takeBack_0 : decode cX0_takeBack 0 = .ok (.iload_n 1, 1) := by decide +kernel
theorem dX0_takeBack_1 : decode cX0_takeBack 1 = .ok (.iconst 4, 1) := by decide +kernel
theorem dX0_takeBack_2 : decode cX0_takeBack 2 = .ok (.idiv, 1) := by decide +kernel
theorem dX0_takeBack_3 : decode cX0_takeBack 3 = .ok (.bipush 8, 2) := by decide +kernel
theorem dX0_takeBack_5 : decode cX0_takeBack 5 = .ok (.irem, 1) := by decide +kernel
theorem dX0_takeBack_6 : decode cX0_takeBack 6 = .ok (.istore_n 2, 1) := by decide +kernel
theorem dX0_takeBack_7 : decode cX0_takeBack 7 = .ok (.iload_n 1, 1) := by decide +kernel
theorem dX0_takeBack_8 : decode cX0_takeBack 8 = .ok (.iconst 4, 1) := by decide +kernel
theorem dX0_takeBack_9 : decode cX0_takeBack 9 = .ok (.irem, 1) := by decide +kernel
theorem dX0_takeBack_10 : decode cX0_takeBack 10 = .ok (.tableswitch 71 0 2 #[26, 39, 54], 26) := by decide +kernel
theorem dX0_takeBack_36 : decode cX0_takeBack 36 = .ok (.aload_n 0, 1) := by decide +kernel
theorem dX0_takeBack_37 : decode cX0_takeBack 37 = .ok (.dup, 1) := by decide +kernel
theorem dX0_takeBack_38 : decode cX0_takeBack 38 = .ok (.getfield 37, 3) := by decide +kernel
theorem dX0_takeBack_41 : decode cX0_takeBack 41 = .ok (.iconst 1, 1) := by decide +kernel
theorem dX0_takeBack_42 : decode cX0_takeBack 42 = .ok (.isub, 1) := by decide +kernel
theorem dX0_takeBack_43 : decode cX0_takeBack 43 = .ok (.putfield 37, 3) := by decide +kernel
theorem dX0_takeBack_46 : decode cX0_takeBack 46 = .ok (.goto 55, 3) := by decide +kernel
theorem dX0_takeBack_49 : decode cX0_takeBack 49 = .ok (.aload_n 0, 1) := by decide +kernel
theorem dX0_takeBack_50 : decode cX0_takeBack 50 = .ok (.dup, 1) := by decide +kernel
theorem dX0_takeBack_51 : decode cX0_takeBack 51 = .ok (.getfield 34, 3) := by decide +kernel
theorem dX0_takeBack_54 : decode cX0_takeBack 54 = .ok (.iconst 1, 1) := by decide +kernel
theorem dX0_takeBack_55 : decode cX0_takeBack 55 = .ok (.iload_n 2, 1) := by decide +kernel
theorem dX0_takeBack_56 : decode cX0_takeBack 56 = .ok (.ishl, 1) := by decide +kernel
theorem dX0_takeBack_57 : decode cX0_takeBack 57 = .ok (.ior, 1) := by decide +kernel
theorem dX0_takeBack_58 : decode cX0_takeBack 58 = .ok (.putfield 34, 3) := by decide +kernel
theorem dX0_takeBack_61 : decode cX0_takeBack 61 = .ok (.goto 40, 3) := by decide +kernel
theorem dX0_takeBack_64 : decode cX0_takeBack 64 = .ok (.aload_n 0, 1) := by decide +kernel
theorem dX0_takeBack_65 : decode cX0_takeBack 65 = .ok (.dup, 1) := by decide +kernel
theorem dX0_takeBack_66 : decode cX0_takeBack 66 = .ok (.getfield 34, 3) := by decide +kernel
theorem dX0_takeBack_69 : decode cX0_takeBack 69 = .ok (.iconst 1, 1) := by decide +kernel
theorem dX0_takeBack_70 : decode cX0_takeBack 70 = .ok (.iload_n 2, 1) := by decide +kernel
theorem dX0_takeBack_71 : decode cX0_takeBack 71 = .ok (.ishl, 1) := by decide +kernel
theorem dX0_takeBack_72 : decode cX0_takeBack 72 = .ok (.iconst (-1), 1) := by decide +kernel
theorem dX0_takeBack_73 : decode cX0_takeBack 73 = .ok (.ixor, 1) := by decide +kernel
theorem dX0_takeBack_74 : decode cX0_takeBack 74 = .ok (.iand, 1) := by decide +kernel
theorem dX0_takeBack_75 : decode cX0_takeBack 75 = .ok (.putfield 34, 3) := by decide +kernel
theorem dX0_takeBack_78 : decode cX0_takeBack 78 = .ok (.goto 23, 3) := by decide +kernel
theorem dX0_takeBack_81 : decode cX0_takeBack 81 = .ok (.aload_n 0, 1) := by decide +kernel
theorem dX0_takeBack_82 : decode cX0_takeBack 82 = .ok (.iload_n 2, 1) := by decide +kernel
theorem dX0_takeBack_83 : decode cX0_takeBack 83 = .ok (.invokevirtual 49, 3) := by decide +kernel
theorem dX0_takeBack_86 : decode cX0_takeBack 86 = .ok (.ifCond .eq 15, 3) := by decide +kernel
theorem dX0_takeBack_89 : decode cX0_takeBack 89 = .ok (.aload_n 0, 1) := by decide +kernel
theorem dX0_takeBack_90 : decode cX0_takeBack 90 = .ok (.getfield 21, 3) := by decide +kernel
theorem dX0_takeBack_93 : decode cX0_takeBack 93 = .ok (.iload_n 2, 1) := by decide +kernel
theorem dX0_takeBack_94 : decode cX0_takeBack 94 = .ok (.iload_n 1, 1) := by decide +kernel
theorem dX0_takeBack_95 : decode cX0_takeBack 95 = .ok (.iconst 4, 1) := by decide +kernel
theorem dX0_takeBack_96 : decode cX0_takeBack 96 = .ok (.idiv, 1) := by decide +kernel
theorem dX0_takeBack_97 : decode cX0_takeBack 97 = .ok (.bipush 8, 2) := by decide +kernel
theorem dX0_takeBack_99 : decode cX0_takeBack 99 = .ok (.idiv, 1) := by decide +kernel
theorem dX0_takeBack_100 : decode cX0_takeBack 100 = .ok (.iastore, 1) := by decide +kernel
theorem dX0_takeBack_101 : decode cX0_takeBack 101 = .ok (.return_, 1) := by decide +kernel
theorem dX1_init_0 : decode cX1_init 0 = .ok (.aload_n 0, 1) := by decide +kernel
theorem dX1_init_1 : decode cX1_init 1 = .ok (.invokespecial 3, 3) := by decide +kernel
theorem dX1_init_4 : decode cX1_init 4 = .ok (.aload_n 0, 1) := by decide +kernel
theorem dX1_init_5 : decode cX1_init 5 = .ok (.bipush 6, 2) := by decide +kernel
theorem dX1_init_7 : decode cX1_init 7 = .ok (.newarray .int, 2) := by decide +kernel
theorem dX1_init_9 : decode cX1_init 9 = .ok (.putfield 9, 3) := by decide +kernel
theorem dX1_init_12 : decode cX1_init 12 = .ok (.return_, 1) := by decide +kernel
theorem dX1_shortest_0 : decode cX1_shortest 0 = .ok (.iconst 0, 1) := by decide +kernel
theorem dX1_shortest_1 : decode cX1_shortest 1 = .ok (.istore 4, 2) := by decide +kernel
theorem dX1_shortest_3 : decode cX1_shortest 3 = .ok (.iload 4, 2) := by decide +kernel
theorem dX1_shortest_5 : decode cX1_shortest 5 = .ok (.bipush 6, 2) := by decide +kernel
theorem dX1_shortest_7 : decode cX1_shortest 7 = .ok (.if_icmp .ge 28, 3) := by decide +kernel
theorem dX1_shortest_10 : decode cX1_shortest 10 = .ok (.aload_n 0, 1) := by decide +kernel
theorem dX1_shortest_11 : decode cX1_shortest 11 = .ok (.getfield 9, 3) := by decide +kernel
theorem dX1_shortest_14 : decode cX1_shortest 14 = .ok (.iload 4, 2) := by decide +kernel
theorem dX1_shortest_16 : decode cX1_shortest 16 = .ok (.iload 4, 2) := by decide +kernel
theorem dX1_shortest_18 : decode cX1_shortest 18 = .ok (.iload_n 3, 1) := by decide +kernel
theorem dX1_shortest_19 : decode cX1_shortest 19 = .ok (.if_icmp .ne 7, 3) := by decide +kernel
theorem dX1_shortest_22 : decode cX1_shortest 22 = .ok (.iconst 0, 1) := by decide +kernel
theorem dX1_shortest_23 : decode cX1_shortest 23 = .ok (.goto 5, 3) := by decide +kernel
theorem dX1_shortest_26 : decode cX1_shortest 26 = .ok (.bipush (-9), 2) := by decide +kernel
theorem dX1_shortest_28 : decode cX1_shortest 28 = .ok (.iastore, 1) := by decide +kernel
theorem dX1_shortest_29 : decode cX1_shortest 29 = .ok (.iinc 4 1, 3) := by decide +kernel
theorem dX1_shortest_32 : decode cX1_shortest 32 = .ok (.goto (-29), 3) := by decide +kernel
theorem dX1_shortest_35 : decode cX1_shortest 35 = .ok (.iconst 1, 1) := by decide +kernel
theorem dX1_shortest_36 : decode cX1_shortest 36 = .ok (.istore 4, 2) := by decide +kernel
theorem dX1_shortest_38 : decode cX1_shortest 38 = .ok (.iload 4, 2) := by decide +kernel
theorem dX1_shortest_40 : decode cX1_shortest 40 = .ok (.bipush 6, 2) := by decide +kernel
theorem dX1_shortest_42 : decode cX1_shortest 42 = .ok (.if_icmp .ge 90, 3) := by decide +kernel
theorem dX1_shortest_45 : decode cX1_shortest 45 = .ok (.iconst 0, 1) := by decide +kernel
theorem dX1_shortest_46 : decode cX1_shortest 46 = .ok (.istore 5, 2) := by decide +kernel
theorem dX1_shortest_48 : decode cX1_shortest 48 = .ok (.iload 5, 2) := by decide +kernel
theorem dX1_shortest_50 : decode cX1_shortest 50 = .ok (.aload_n 1, 1) := by decide +kernel
theorem dX1_shortest_51 : decode cX1_shortest 51 = .ok (.invokevirtual 15, 3) := by decide +kernel
theorem dX1_shortest_54 : decode cX1_shortest 54 = .ok (.if_icmp .ge 72, 3) := by decide +kernel
theorem dX1_shortest_57 : decode cX1_shortest 57 = .ok (.aload_n 1, 1) := by decide +kernel
theorem dX1_shortest_58 : decode cX1_shortest 58 = .ok (.iload 5, 2) := by decide +kernel
theorem dX1_shortest_60 : decode cX1_shortest 60 = .ok (.invokevirtual 21, 3) := by decide +kernel
theorem dX1_shortest_63 : decode cX1_shortest 63 = .ok (.istore 6, 2) := by decide +kernel
theorem dX1_shortest_65 : decode cX1_shortest 65 = .ok (.aload_n 1, 1) := by decide +kernel
theorem dX1_shortest_66 : decode cX1_shortest 66 = .ok (.iload 5, 2) := by decide +kernel
theorem dX1_shortest_68 : decode cX1_shortest 68 = .ok (.invokevirtual 25, 3) := by decide +kernel
theorem dX1_shortest_71 : decode cX1_shortest 71 = .ok (.ifCond .eq 49, 3) := by decide +kernel
theorem dX1_shortest_74 : decode cX1_shortest 74 = .ok (.iload 6, 2) := by decide +kernel
theorem dX1_shortest_76 : decode cX1_shortest 76 = .ok (.invokestatic 29, 3) := by decide +kernel
theorem dX1_shortest_79 : decode cX1_shortest 79 = .ok (.ifCond .eq 41, 3) := by decide +kernel
theorem dX1_shortest_82 : decode cX1_shortest 82 = .ok (.aload_n 0, 1) := by decide +kernel
theorem dX1_shortest_83 : decode cX1_shortest 83 = .ok (.getfield 9, 3) := by decide +kernel
theorem dX1_shortest_86 : decode cX1_shortest 86 = .ok (.iload 6, 2) := by decide +kernel
theorem dX1_shortest_88 : decode cX1_shortest 88 = .ok (.iaload, 1) := by decide +kernel
theorem dX1_shortest_89 : decode cX1_shortest 89 = .ok (.bipush (-9), 2) := by decide +kernel
theorem dX1_shortest_91 : decode cX1_shortest 91 = .ok (.if_icmp .ne 29, 3) := by decide +kernel
theorem dX1_shortest_94 : decode cX1_shortest 94 = .ok (.aload_n 0, 1) := by decide +kernel
theorem dX1_shortest_95 : decode cX1_shortest 95 = .ok (.aload_n 1, 1) := by decide +kernel
theorem dX1_shortest_96 : decode cX1_shortest 96 = .ok (.iload 5, 2) := by decide +kernel
theorem dX1_shortest_98 : decode cX1_shortest 98 = .ok (.invokevirtual 32, 3) := by decide +kernel
theorem dX1_shortest_101 : decode cX1_shortest 101 = .ok (.invokevirtual 35, 3) := by decide +kernel
theorem dX1_shortest_104 : decode cX1_shortest 104 = .ok (.iload 4, 2) := by decide +kernel
theorem dX1_shortest_106 : decode cX1_shortest 106 = .ok (.iconst 1, 1) := by decide +kernel
theorem dX1_shortest_107 : decode cX1_shortest 107 = .ok (.isub, 1) := by decide +kernel
theorem dX1_shortest_108 : decode cX1_shortest 108 = .ok (.if_icmp .ne 12, 3) := by decide +kernel
theorem dX1_shortest_111 : decode cX1_shortest 111 = .ok (.aload_n 0, 1) := by decide +kernel
theorem dX1_shortest_112 : decode cX1_shortest 112 = .ok (.getfield 9, 3) := by decide +kernel
theorem dX1_shortest_115 : decode cX1_shortest 115 = .ok (.iload 6, 2) := by decide +kernel
theorem dX1_shortest_117 : decode cX1_shortest 117 = .ok (.iload 4, 2) := by decide +kernel
theorem dX1_shortest_119 : decode cX1_shortest 119 = .ok (.iastore, 1) := by decide +kernel
theorem dX1_shortest_120 : decode cX1_shortest 120 = .ok (.iinc 5 1, 3) := by decide +kernel
theorem dX1_shortest_123 : decode cX1_shortest 123 = .ok (.goto (-75), 3) := by decide +kernel
theorem dX1_shortest_126 : decode cX1_shortest 126 = .ok (.iinc 4 1, 3) := by decide +kernel
theorem dX1_shortest_129 : decode cX1_shortest 129 = .ok (.goto (-91), 3) := by decide +kernel
theorem dX1_shortest_132 : decode cX1_shortest 132 = .ok (.aload_n 0, 1) := by decide +kernel
theorem dX1_shortest_133 : decode cX1_shortest 133 = .ok (.iload_n 2, 1) := by decide +kernel
theorem dX1_shortest_134 : decode cX1_shortest 134 = .ok (.invokevirtual 35, 3) := by decide +kernel
theorem dX1_shortest_137 : decode cX1_shortest 137 = .ok (.ireturn, 1) := by decide +kernel
theorem dX1_stepsOf_0 : decode cX1_stepsOf 0 = .ok (.iload_n 1, 1) := by decide +kernel
theorem dX1_stepsOf_1 : decode cX1_stepsOf 1 = .ok (.invokestatic 29, 3) := by decide +kernel
theorem dX1_stepsOf_4 : decode cX1_stepsOf 4 = .ok (.ifCond .eq 12, 3) := by decide +kernel
theorem dX1_stepsOf_7 : decode cX1_stepsOf 7 = .ok (.aload_n 0, 1) := by decide +kernel
theorem dX1_stepsOf_8 : decode cX1_stepsOf 8 = .ok (.getfield 9, 3) := by decide +kernel
theorem dX1_stepsOf_11 : decode cX1_stepsOf 11 = .ok (.iload_n 1, 1) := by decide +kernel
theorem dX1_stepsOf_12 : decode cX1_stepsOf 12 = .ok (.iaload, 1) := by decide +kernel
theorem dX1_stepsOf_13 : decode cX1_stepsOf 13 = .ok (.goto 5, 3) := by decide +kernel
theorem dX1_stepsOf_16 : decode cX1_stepsOf 16 = .ok (.bipush (-9), 2) := by decide +kernel
theorem dX1_stepsOf_18 : decode cX1_stepsOf 18 = .ok (.ireturn, 1) := by decide +kernel
theorem dX1_write_0 : decode cX1_write 0 = .ok (.aload_n 3, 1) := by decide +kernel
theorem dX1_write_1 : decode cX1_write 1 = .ok (.aload_n 0, 1) := by decide +kernel
theorem dX1_write_2 : decode cX1_write 2 = .ok (.iload_n 2, 1) := by decide +kernel
theorem dX1_write_3 : decode cX1_write 3 = .ok (.invokevirtual 35, 3) := by decide +kernel
theorem dX1_write_6 : decode cX1_write 6 = .ok (.iconst 0, 1) := by decide +kernel
theorem dX1_write_7 : decode cX1_write 7 = .ok (.invokevirtual 38, 3) := by decide +kernel
theorem dX1_write_10 : decode cX1_write 10 = .ok (.iload_n 2, 1) := by decide +kernel
theorem dX1_write_11 : decode cX1_write 11 = .ok (.istore 4, 2) := by decide +kernel
theorem dX1_write_13 : decode cX1_write 13 = .ok (.iconst 0, 1) := by decide +kernel
theorem dX1_write_14 : decode cX1_write 14 = .ok (.istore 5, 2) := by decide +kernel
theorem dX1_write_16 : decode cX1_write 16 = .ok (.iload 5, 2) := by decide +kernel
theorem dX1_write_18 : decode cX1_write 18 = .ok (.aload_n 3, 1) := by decide +kernel
theorem dX1_write_19 : decode cX1_write 19 = .ok (.invokevirtual 44, 3) := by decide +kernel
theorem dX1_write_22 : decode cX1_write 22 = .ok (.if_icmp .ge 34, 3) := by decide +kernel
theorem dX1_write_25 : decode cX1_write 25 = .ok (.aload_n 0, 1) := by decide +kernel
theorem dX1_write_26 : decode cX1_write 26 = .ok (.aload_n 1, 1) := by decide +kernel
theorem dX1_write_27 : decode cX1_write 27 = .ok (.iload 4, 2) := by decide +kernel
theorem dX1_write_29 : decode cX1_write 29 = .ok (.invokevirtual 45, 3) := by decide +kernel
theorem dX1_write_32 : decode cX1_write 32 = .ok (.istore 6, 2) := by decide +kernel
theorem dX1_write_34 : decode cX1_write 34 = .ok (.aload_n 3, 1) := by decide +kernel
theorem dX1_write_35 : decode cX1_write 35 = .ok (.iload 5, 2) := by decide +kernel
theorem dX1_write_37 : decode cX1_write 37 = .ok (.iload 6, 2) := by decide +kernel
theorem dX1_write_39 : decode cX1_write 39 = .ok (.invokevirtual 49, 3) := by decide +kernel
theorem dX1_write_42 : decode cX1_write 42 = .ok (.aload_n 1, 1) := by decide +kernel
theorem dX1_write_43 : decode cX1_write 43 = .ok (.iload 6, 2) := by decide +kernel
theorem dX1_write_45 : decode cX1_write 45 = .ok (.invokevirtual 32, 3) := by decide +kernel
theorem dX1_write_48 : decode cX1_write 48 = .ok (.istore 4, 2) := by decide +kernel
theorem dX1_write_50 : decode cX1_write 50 = .ok (.iinc 5 1, 3) := by decide +kernel
theorem dX1_write_53 : decode cX1_write 53 = .ok (.goto (-37), 3) := by decide +kernel
theorem dX1_write_56 : decode cX1_write 56 = .ok (.return_, 1) := by decide +kernel
theorem dX1_lowestNearer_0 : decode cX1_lowestNearer 0 = .ok (.iconst 0, 1) := by decide +kernel
theorem dX1_lowestNearer_1 : decode cX1_lowestNearer 1 = .ok (.istore_n 3, 1) := by decide +kernel
theorem dX1_lowestNearer_2 : decode cX1_lowestNearer 2 = .ok (.iload_n 3, 1) := by decide +kernel
theorem dX1_lowestNearer_3 : decode cX1_lowestNearer 3 = .ok (.aload_n 1, 1) := by decide +kernel
theorem dX1_lowestNearer_4 : decode cX1_lowestNearer 4 = .ok (.invokevirtual 15, 3) := by decide +kernel
theorem dX1_lowestNearer_7 : decode cX1_lowestNearer 7 = .ok (.if_icmp .ge 47, 3) := by decide +kernel
theorem dX1_lowestNearer_10 : decode cX1_lowestNearer 10 = .ok (.aload_n 1, 1) := by decide +kernel
theorem dX1_lowestNearer_11 : decode cX1_lowestNearer 11 = .ok (.iload_n 3, 1) := by decide +kernel
theorem dX1_lowestNearer_12 : decode cX1_lowestNearer 12 = .ok (.invokevirtual 25, 3) := by decide +kernel
theorem dX1_lowestNearer_15 : decode cX1_lowestNearer 15 = .ok (.ifCond .eq 33, 3) := by decide +kernel
theorem dX1_lowestNearer_18 : decode cX1_lowestNearer 18 = .ok (.aload_n 1, 1) := by decide +kernel
theorem dX1_lowestNearer_19 : decode cX1_lowestNearer 19 = .ok (.iload_n 3, 1) := by decide +kernel
theorem dX1_lowestNearer_20 : decode cX1_lowestNearer 20 = .ok (.invokevirtual 21, 3) := by decide +kernel
theorem dX1_lowestNearer_23 : decode cX1_lowestNearer 23 = .ok (.iload_n 2, 1) := by decide +kernel
theorem dX1_lowestNearer_24 : decode cX1_lowestNearer 24 = .ok (.if_icmp .ne 24, 3) := by decide +kernel
theorem dX1_lowestNearer_27 : decode cX1_lowestNearer 27 = .ok (.aload_n 0, 1) := by decide +kernel
theorem dX1_lowestNearer_28 : decode cX1_lowestNearer 28 = .ok (.aload_n 1, 1) := by decide +kernel
theorem dX1_lowestNearer_29 : decode cX1_lowestNearer 29 = .ok (.iload_n 3, 1) := by decide +kernel
theorem dX1_lowestNearer_30 : decode cX1_lowestNearer 30 = .ok (.invokevirtual 32, 3) := by decide +kernel
theorem dX1_lowestNearer_33 : decode cX1_lowestNearer 33 = .ok (.invokevirtual 35, 3) := by decide +kernel
theorem dX1_lowestNearer_36 : decode cX1_lowestNearer 36 = .ok (.aload_n 0, 1) := by decide +kernel
theorem dX1_lowestNearer_37 : decode cX1_lowestNearer 37 = .ok (.iload_n 2, 1) := by decide +kernel
theorem dX1_lowestNearer_38 : decode cX1_lowestNearer 38 = .ok (.invokevirtual 35, 3) := by decide +kernel
theorem dX1_lowestNearer_41 : decode cX1_lowestNearer 41 = .ok (.iconst 1, 1) := by decide +kernel
theorem dX1_lowestNearer_42 : decode cX1_lowestNearer 42 = .ok (.isub, 1) := by decide +kernel
theorem dX1_lowestNearer_43 : decode cX1_lowestNearer 43 = .ok (.if_icmp .ne 5, 3) := by decide +kernel
theorem dX1_lowestNearer_46 : decode cX1_lowestNearer 46 = .ok (.iload_n 3, 1) := by decide +kernel
theorem dX1_lowestNearer_47 : decode cX1_lowestNearer 47 = .ok (.ireturn, 1) := by decide +kernel
theorem dX1_lowestNearer_48 : decode cX1_lowestNearer 48 = .ok (.iinc 3 1, 3) := by decide +kernel
theorem dX1_lowestNearer_51 : decode cX1_lowestNearer 51 = .ok (.goto (-49), 3) := by decide +kernel
theorem dX1_lowestNearer_54 : decode cX1_lowestNearer 54 = .ok (.bipush (-9), 2) := by decide +kernel
theorem dX1_lowestNearer_56 : decode cX1_lowestNearer 56 = .ok (.ireturn, 1) := by decide +kernel
theorem dX2_ofLetter_0 : decode cX2_ofLetter 0 = .ok (.iconst 0, 1) := by decide +kernel
theorem dX2_ofLetter_1 : decode cX2_ofLetter 1 = .ok (.istore_n 1, 1) := by decide +kernel
theorem dX2_ofLetter_2 : decode cX2_ofLetter 2 = .ok (.iload_n 1, 1) := by decide +kernel
theorem dX2_ofLetter_3 : decode cX2_ofLetter 3 = .ok (.getstatic 9, 3) := by decide +kernel
theorem dX2_ofLetter_6 : decode cX2_ofLetter 6 = .ok (.arraylength, 1) := by decide +kernel
theorem dX2_ofLetter_7 : decode cX2_ofLetter 7 = .ok (.if_icmp .ge 20, 3) := by decide +kernel
theorem dX2_ofLetter_10 : decode cX2_ofLetter 10 = .ok (.getstatic 9, 3) := by decide +kernel
theorem dX2_ofLetter_13 : decode cX2_ofLetter 13 = .ok (.iload_n 1, 1) := by decide +kernel
theorem dX2_ofLetter_14 : decode cX2_ofLetter 14 = .ok (.iaload, 1) := by decide +kernel
theorem dX2_ofLetter_15 : decode cX2_ofLetter 15 = .ok (.iload_n 0, 1) := by decide +kernel
theorem dX2_ofLetter_16 : decode cX2_ofLetter 16 = .ok (.if_icmp .ne 5, 3) := by decide +kernel
theorem dX2_ofLetter_19 : decode cX2_ofLetter 19 = .ok (.iload_n 1, 1) := by decide +kernel
theorem dX2_ofLetter_20 : decode cX2_ofLetter 20 = .ok (.ireturn, 1) := by decide +kernel
theorem dX2_ofLetter_21 : decode cX2_ofLetter 21 = .ok (.iinc 1 1, 3) := by decide +kernel
theorem dX2_ofLetter_24 : decode cX2_ofLetter 24 = .ok (.goto (-22), 3) := by decide +kernel
theorem dX2_ofLetter_27 : decode cX2_ofLetter 27 = .ok (.bipush (-9), 2) := by decide +kernel
theorem dX2_ofLetter_29 : decode cX2_ofLetter 29 = .ok (.ireturn, 1) := by decide +kernel
theorem dX2_parentOf_0 : decode cX2_parentOf 0 = .ok (.iload_n 0, 1) := by decide +kernel
theorem dX2_parentOf_1 : decode cX2_parentOf 1 = .ok (.lookupswitch 31 #[(4, 27), (5, 29)], 27) := by decide +kernel
theorem dX2_parentOf_28 : decode cX2_parentOf 28 = .ok (.iconst 2, 1) := by decide +kernel
theorem dX2_parentOf_29 : decode cX2_parentOf 29 = .ok (.ireturn, 1) := by decide +kernel
theorem dX2_parentOf_30 : decode cX2_parentOf 30 = .ok (.iconst 3, 1) := by decide +kernel
theorem dX2_parentOf_31 : decode cX2_parentOf 31 = .ok (.ireturn, 1) := by decide +kernel
theorem dX2_parentOf_32 : decode cX2_parentOf 32 = .ok (.iconst 0, 1) := by decide +kernel
theorem dX2_parentOf_33 : decode cX2_parentOf 33 = .ok (.ireturn, 1) := by decide +kernel
theorem dX2_isOf_0 : decode cX2_isOf 0 = .ok (.iload_n 0, 1) := by decide +kernel
theorem dX2_isOf_1 : decode cX2_isOf 1 = .ok (.iload_n 1, 1) := by decide +kernel
theorem dX2_isOf_2 : decode cX2_isOf 2 = .ok (.if_icmp .eq 15, 3) := by decide +kernel
theorem dX2_isOf_5 : decode cX2_isOf 5 = .ok (.iload_n 0, 1) := by decide +kernel
theorem dX2_isOf_6 : decode cX2_isOf 6 = .ok (.invokestatic 15, 3) := by decide +kernel
theorem dX2_isOf_9 : decode cX2_isOf 9 = .ok (.iload_n 1, 1) := by decide +kernel
theorem dX2_isOf_10 : decode cX2_isOf 10 = .ok (.if_icmp .eq 7, 3) := by decide +kernel
theorem dX2_isOf_13 : decode cX2_isOf 13 = .ok (.iload_n 1, 1) := by decide +kernel
theorem dX2_isOf_14 : decode cX2_isOf 14 = .ok (.ifCond .ne 7, 3) := by decide +kernel
theorem dX2_isOf_17 : decode cX2_isOf 17 = .ok (.iconst 1, 1) := by decide +kernel
theorem dX2_isOf_18 : decode cX2_isOf 18 = .ok (.goto 4, 3) := by decide +kernel
theorem dX2_isOf_21 : decode cX2_isOf 21 = .ok (.iconst 0, 1) := by decide +kernel
theorem dX2_isOf_22 : decode cX2_isOf 22 = .ok (.ireturn, 1) := by decide +kernel
theorem dX2_glow_0 : decode cX2_glow 0 = .ok (.bipush 20, 2) := by decide +kernel
theorem dX2_glow_2 : decode cX2_glow 2 = .ok (.iload_n 1, 1) := by decide +kernel
theorem dX2_glow_3 : decode cX2_glow 3 = .ok (.iload_n 2, 1) := by decide +kernel
theorem dX2_glow_4 : decode cX2_glow 4 = .ok (.iadd, 1) := by decide +kernel
theorem dX2_glow_5 : decode cX2_glow 5 = .ok (.invokestatic 19, 3) := by decide +kernel
theorem dX2_glow_8 : decode cX2_glow 8 = .ok (.istore_n 3, 1) := by decide +kernel
theorem dX2_glow_9 : decode cX2_glow 9 = .ok (.bipush 9, 2) := by decide +kernel
theorem dX2_glow_11 : decode cX2_glow 11 = .ok (.iload_n 1, 1) := by decide +kernel
theorem dX2_glow_12 : decode cX2_glow 12 = .ok (.isub, 1) := by decide +kernel
theorem dX2_glow_13 : decode cX2_glow 13 = .ok (.iload_n 2, 1) := by decide +kernel
theorem dX2_glow_14 : decode cX2_glow 14 = .ok (.iconst 2, 1) := by decide +kernel
theorem dX2_glow_15 : decode cX2_glow 15 = .ok (.irem, 1) := by decide +kernel
theorem dX2_glow_16 : decode cX2_glow 16 = .ok (.iadd, 1) := by decide +kernel
theorem dX2_glow_17 : decode cX2_glow 17 = .ok (.istore 4, 2) := by decide +kernel
theorem dX2_glow_19 : decode cX2_glow 19 = .ok (.iload_n 0, 1) := by decide +kernel
theorem dX2_glow_20 : decode cX2_glow 20 = .ok (.tableswitch 67 1 5 #[36, 42, 44, 47, 60], 36) := by decide +kernel
theorem dX2_glow_56 : decode cX2_glow 56 = .ok (.iload_n 1, 1) := by decide +kernel
theorem dX2_glow_57 : decode cX2_glow 57 = .ok (.iconst 1, 1) := by decide +kernel
theorem dX2_glow_58 : decode cX2_glow 58 = .ok (.iadd, 1) := by decide +kernel
theorem dX2_glow_59 : decode cX2_glow 59 = .ok (.iconst 2, 1) := by decide +kernel
theorem dX2_glow_60 : decode cX2_glow 60 = .ok (.idiv, 1) := by decide +kernel
theorem dX2_glow_61 : decode cX2_glow 61 = .ok (.ireturn, 1) := by decide +kernel
theorem dX2_glow_62 : decode cX2_glow 62 = .ok (.iload_n 3, 1) := by decide +kernel
theorem dX2_glow_63 : decode cX2_glow 63 = .ok (.ireturn, 1) := by decide +kernel
theorem dX2_glow_64 : decode cX2_glow 64 = .ok (.iload 4, 2) := by decide +kernel
theorem dX2_glow_66 : decode cX2_glow 66 = .ok (.ireturn, 1) := by decide +kernel
theorem dX2_glow_67 : decode cX2_glow 67 = .ok (.iload_n 2, 1) := by decide +kernel
theorem dX2_glow_68 : decode cX2_glow 68 = .ok (.iconst 5, 1) := by decide +kernel
theorem dX2_glow_69 : decode cX2_glow 69 = .ok (.if_icmp .ge 7, 3) := by decide +kernel
theorem dX2_glow_72 : decode cX2_glow 72 = .ok (.iload_n 3, 1) := by decide +kernel
theorem dX2_glow_73 : decode cX2_glow 73 = .ok (.goto 6, 3) := by decide +kernel
theorem dX2_glow_76 : decode cX2_glow 76 = .ok (.iload_n 3, 1) := by decide +kernel
theorem dX2_glow_77 : decode cX2_glow 77 = .ok (.iconst 2, 1) := by decide +kernel
theorem dX2_glow_78 : decode cX2_glow 78 = .ok (.idiv, 1) := by decide +kernel
theorem dX2_glow_79 : decode cX2_glow 79 = .ok (.ireturn, 1) := by decide +kernel
theorem dX2_glow_80 : decode cX2_glow 80 = .ok (.iconst 5, 1) := by decide +kernel
theorem dX2_glow_81 : decode cX2_glow 81 = .ok (.iload 4, 2) := by decide +kernel
theorem dX2_glow_83 : decode cX2_glow 83 = .ok (.invokestatic 25, 3) := by decide +kernel
theorem dX2_glow_86 : decode cX2_glow 86 = .ok (.ireturn, 1) := by decide +kernel
theorem dX2_glow_87 : decode cX2_glow 87 = .ok (.iload_n 1, 1) := by decide +kernel
theorem dX2_glow_88 : decode cX2_glow 88 = .ok (.ireturn, 1) := by decide +kernel
theorem dX2_signOf_0 : decode cX2_signOf 0 = .ok (.iload_n 1, 1) := by decide +kernel
theorem dX2_signOf_1 : decode cX2_signOf 1 = .ok (.iload_n 2, 1) := by decide +kernel
theorem dX2_signOf_2 : decode cX2_signOf 2 = .ok (.iload_n 3, 1) := by decide +kernel
theorem dX2_signOf_3 : decode cX2_signOf 3 = .ok (.invokestatic 28, 3) := by decide +kernel
theorem dX2_signOf_6 : decode cX2_signOf 6 = .ok (.iload_n 0, 1) := by decide +kernel
theorem dX2_signOf_7 : decode cX2_signOf 7 = .ok (.invokestatic 15, 3) := by decide +kernel
theorem dX2_signOf_10 : decode cX2_signOf 10 = .ok (.iload_n 2, 1) := by decide +kernel
theorem dX2_signOf_11 : decode cX2_signOf 11 = .ok (.iload_n 3, 1) := by decide +kernel
theorem dX2_signOf_12 : decode cX2_signOf 12 = .ok (.invokestatic 28, 3) := by decide +kernel
theorem dX2_signOf_15 : decode cX2_signOf 15 = .ok (.isub, 1) := by decide +kernel
theorem dX2_signOf_16 : decode cX2_signOf 16 = .ok (.istore 4, 2) := by decide +kernel
theorem dX2_signOf_18 : decode cX2_signOf 18 = .ok (.iload_n 0, 1) := by decide +kernel
theorem dX2_signOf_19 : decode cX2_signOf 19 = .ok (.tableswitch 44 2 5 #[29, 35, 44, 41], 29) := by decide +kernel
theorem dX2_signOf_48 : decode cX2_signOf 48 = .ok (.iload 4, 2) := by decide +kernel
theorem dX2_signOf_50 : decode cX2_signOf 50 = .ok (.bipush 100, 2) := by decide +kernel
theorem dX2_signOf_52 : decode cX2_signOf 52 = .ok (.iadd, 1) := by decide +kernel
theorem dX2_signOf_53 : decode cX2_signOf 53 = .ok (.ireturn, 1) := by decide +kernel
theorem dX2_signOf_54 : decode cX2_signOf 54 = .ok (.bipush 100, 2) := by decide +kernel
theorem dX2_signOf_56 : decode cX2_signOf 56 = .ok (.iload 4, 2) := by decide +kernel
theorem dX2_signOf_58 : decode cX2_signOf 58 = .ok (.isub, 1) := by decide +kernel
theorem dX2_signOf_59 : decode cX2_signOf 59 = .ok (.ireturn, 1) := by decide +kernel
theorem dX2_signOf_60 : decode cX2_signOf 60 = .ok (.iload 4, 2) := by decide +kernel
theorem dX2_signOf_62 : decode cX2_signOf 62 = .ok (.ireturn, 1) := by decide +kernel
theorem dX2_signOf_63 : decode cX2_signOf 63 = .ok (.iload 4, 2) := by decide +kernel
theorem dX2_signOf_65 : decode cX2_signOf 65 = .ok (.ineg, 1) := by decide +kernel
theorem dX2_signOf_66 : decode cX2_signOf 66 = .ok (.ireturn, 1) := by decide +kernel
theorem dX3_arePairs_0 : decode cX3_arePairs 0 = .ok (.iconst 0, 1) := by decide +kernel
theorem dX3_arePairs_1 : decode cX3_arePairs 1 = .ok (.istore_n 1, 1) := by decide +kernel
theorem dX3_arePairs_2 : decode cX3_arePairs 2 = .ok (.iload_n 1, 1) := by decide +kernel
theorem dX3_arePairs_3 : decode cX3_arePairs 3 = .ok (.aload_n 0, 1) := by decide +kernel
theorem dX3_arePairs_4 : decode cX3_arePairs 4 = .ok (.invokevirtual 9, 3) := by decide +kernel
theorem dX3_arePairs_7 : decode cX3_arePairs 7 = .ok (.if_icmp .ge 29, 3) := by decide +kernel
theorem dX3_arePairs_10 : decode cX3_arePairs 10 = .ok (.aload_n 0, 1) := by decide +kernel
theorem dX3_arePairs_11 : decode cX3_arePairs 11 = .ok (.iload_n 1, 1) := by decide +kernel
theorem dX3_arePairs_12 : decode cX3_arePairs 12 = .ok (.invokevirtual 15, 3) := by decide +kernel
theorem dX3_arePairs_15 : decode cX3_arePairs 15 = .ok (.ifCond .lt 13, 3) := by decide +kernel
theorem dX3_arePairs_18 : decode cX3_arePairs 18 = .ok (.aload_n 0, 1) := by decide +kernel
theorem dX3_arePairs_19 : decode cX3_arePairs 19 = .ok (.iload_n 1, 1) := by decide +kernel
theorem dX3_arePairs_20 : decode cX3_arePairs 20 = .ok (.invokevirtual 15, 3) := by decide +kernel
theorem dX3_arePairs_23 : decode cX3_arePairs 23 = .ok (.bipush 99, 2) := by decide +kernel
theorem dX3_arePairs_25 : decode cX3_arePairs 25 = .ok (.if_icmp .le 5, 3) := by decide +kernel
theorem dX3_arePairs_28 : decode cX3_arePairs 28 = .ok (.iconst 0, 1) := by decide +kernel
theorem dX3_arePairs_29 : decode cX3_arePairs 29 = .ok (.ireturn, 1) := by decide +kernel
theorem dX3_arePairs_30 : decode cX3_arePairs 30 = .ok (.iinc 1 1, 3) := by decide +kernel
theorem dX3_arePairs_33 : decode cX3_arePairs 33 = .ok (.goto (-31), 3) := by decide +kernel
theorem dX3_arePairs_36 : decode cX3_arePairs 36 = .ok (.iconst 1, 1) := by decide +kernel
theorem dX3_arePairs_37 : decode cX3_arePairs 37 = .ok (.ireturn, 1) := by decide +kernel
theorem dX3_areTold_0 : decode cX3_areTold 0 = .ok (.iconst 0, 1) := by decide +kernel
theorem dX3_areTold_1 : decode cX3_areTold 1 = .ok (.istore_n 1, 1) := by decide +kernel
theorem dX3_areTold_2 : decode cX3_areTold 2 = .ok (.iload_n 1, 1) := by decide +kernel
theorem dX3_areTold_3 : decode cX3_areTold 3 = .ok (.aload_n 0, 1) := by decide +kernel
theorem dX3_areTold_4 : decode cX3_areTold 4 = .ok (.invokevirtual 9, 3) := by decide +kernel
theorem dX3_areTold_7 : decode cX3_areTold 7 = .ok (.if_icmp .ge 40, 3) := by decide +kernel
theorem dX3_areTold_10 : decode cX3_areTold 10 = .ok (.aload_n 0, 1) := by decide +kernel
theorem dX3_areTold_11 : decode cX3_areTold 11 = .ok (.iload_n 1, 1) := by decide +kernel
theorem dX3_areTold_12 : decode cX3_areTold 12 = .ok (.invokevirtual 15, 3) := by decide +kernel
theorem dX3_areTold_15 : decode cX3_areTold 15 = .ok (.bipush (-9), 2) := by decide +kernel
theorem dX3_areTold_17 : decode cX3_areTold 17 = .ok (.if_icmp .eq 24, 3) := by decide +kernel
theorem dX3_areTold_20 : decode cX3_areTold 20 = .ok (.aload_n 0, 1) := by decide +kernel
theorem dX3_areTold_21 : decode cX3_areTold 21 = .ok (.iload_n 1, 1) := by decide +kernel
theorem dX3_areTold_22 : decode cX3_areTold 22 = .ok (.invokevirtual 15, 3) := by decide +kernel
theorem dX3_areTold_25 : decode cX3_areTold 25 = .ok (.ifCond .lt 14, 3) := by decide +kernel
theorem dX3_areTold_28 : decode cX3_areTold 28 = .ok (.aload_n 0, 1) := by decide +kernel
theorem dX3_areTold_29 : decode cX3_areTold 29 = .ok (.iload_n 1, 1) := by decide +kernel
theorem dX3_areTold_30 : decode cX3_areTold 30 = .ok (.invokevirtual 15, 3) := by decide +kernel
theorem dX3_areTold_33 : decode cX3_areTold 33 = .ok (.sipush 200, 3) := by decide +kernel
theorem dX3_areTold_36 : decode cX3_areTold 36 = .ok (.if_icmp .le 5, 3) := by decide +kernel
theorem dX3_areTold_39 : decode cX3_areTold 39 = .ok (.iconst 0, 1) := by decide +kernel
theorem dX3_areTold_40 : decode cX3_areTold 40 = .ok (.ireturn, 1) := by decide +kernel
theorem dX3_areTold_41 : decode cX3_areTold 41 = .ok (.iinc 1 1, 3) := by decide +kernel
theorem dX3_areTold_44 : decode cX3_areTold 44 = .ok (.goto (-42), 3) := by decide +kernel
theorem dX3_areTold_47 : decode cX3_areTold 47 = .ok (.iconst 1, 1) := by decide +kernel
theorem dX3_areTold_48 : decode cX3_areTold 48 = .ok (.ireturn, 1) := by decide +kernel
theorem dX3_fit_0 : decode cX3_fit 0 = .ok (.iconst 0, 1) := by decide +kernel
theorem dX3_fit_1 : decode cX3_fit 1 = .ok (.istore_n 3, 1) := by decide +kernel
theorem dX3_fit_2 : decode cX3_fit 2 = .ok (.iload_n 3, 1) := by decide +kernel
theorem dX3_fit_3 : decode cX3_fit 3 = .ok (.iconst 1, 1) := by decide +kernel
theorem dX3_fit_4 : decode cX3_fit 4 = .ok (.iadd, 1) := by decide +kernel
theorem dX3_fit_5 : decode cX3_fit 5 = .ok (.aload_n 2, 1) := by decide +kernel
theorem dX3_fit_6 : decode cX3_fit 6 = .ok (.invokevirtual 9, 3) := by decide +kernel
theorem dX3_fit_9 : decode cX3_fit 9 = .ok (.if_icmp .ge 31, 3) := by decide +kernel
theorem dX3_fit_12 : decode cX3_fit 12 = .ok (.iload_n 0, 1) := by decide +kernel
theorem dX3_fit_13 : decode cX3_fit 13 = .ok (.iload_n 1, 1) := by decide +kernel
theorem dX3_fit_14 : decode cX3_fit 14 = .ok (.aload_n 2, 1) := by decide +kernel
theorem dX3_fit_15 : decode cX3_fit 15 = .ok (.iload_n 3, 1) := by decide +kernel
theorem dX3_fit_16 : decode cX3_fit 16 = .ok (.invokevirtual 15, 3) := by decide +kernel
theorem dX3_fit_19 : decode cX3_fit 19 = .ok (.invokestatic 19, 3) := by decide +kernel
theorem dX3_fit_22 : decode cX3_fit 22 = .ok (.aload_n 2, 1) := by decide +kernel
theorem dX3_fit_23 : decode cX3_fit 23 = .ok (.iload_n 3, 1) := by decide +kernel
theorem dX3_fit_24 : decode cX3_fit 24 = .ok (.iconst 1, 1) := by decide +kernel
theorem dX3_fit_25 : decode cX3_fit 25 = .ok (.iadd, 1) := by decide +kernel
theorem dX3_fit_26 : decode cX3_fit 26 = .ok (.invokevirtual 15, 3) := by decide +kernel
theorem dX3_fit_29 : decode cX3_fit 29 = .ok (.if_icmp .eq 5, 3) := by decide +kernel
theorem dX3_fit_32 : decode cX3_fit 32 = .ok (.iconst 0, 1) := by decide +kernel
theorem dX3_fit_33 : decode cX3_fit 33 = .ok (.ireturn, 1) := by decide +kernel
theorem dX3_fit_34 : decode cX3_fit 34 = .ok (.iinc 3 2, 3) := by decide +kernel
theorem dX3_fit_37 : decode cX3_fit 37 = .ok (.goto (-35), 3) := by decide +kernel
theorem dX3_fit_40 : decode cX3_fit 40 = .ok (.iconst 1, 1) := by decide +kernel
theorem dX3_fit_41 : decode cX3_fit 41 = .ok (.ireturn, 1) := by decide +kernel
theorem dX3_fittingFirsts_0 : decode cX3_fittingFirsts 0 = .ok (.iconst 0, 1) := by decide +kernel
theorem dX3_fittingFirsts_1 : decode cX3_fittingFirsts 1 = .ok (.istore_n 2, 1) := by decide +kernel
theorem dX3_fittingFirsts_2 : decode cX3_fittingFirsts 2 = .ok (.iconst 0, 1) := by decide +kernel
theorem dX3_fittingFirsts_3 : decode cX3_fittingFirsts 3 = .ok (.istore_n 3, 1) := by decide +kernel
theorem dX3_fittingFirsts_4 : decode cX3_fittingFirsts 4 = .ok (.iload_n 3, 1) := by decide +kernel
theorem dX3_fittingFirsts_5 : decode cX3_fittingFirsts 5 = .ok (.bipush 10, 2) := by decide +kernel
theorem dX3_fittingFirsts_7 : decode cX3_fittingFirsts 7 = .ok (.if_icmp .ge 24, 3) := by decide +kernel
theorem dX3_fittingFirsts_10 : decode cX3_fittingFirsts 10 = .ok (.iload_n 0, 1) := by decide +kernel
theorem dX3_fittingFirsts_11 : decode cX3_fittingFirsts 11 = .ok (.iload_n 3, 1) := by decide +kernel
theorem dX3_fittingFirsts_12 : decode cX3_fittingFirsts 12 = .ok (.aload_n 1, 1) := by decide +kernel
theorem dX3_fittingFirsts_13 : decode cX3_fittingFirsts 13 = .ok (.invokestatic 25, 3) := by decide +kernel
theorem dX3_fittingFirsts_16 : decode cX3_fittingFirsts 16 = .ok (.ifCond .eq 9, 3) := by decide +kernel
theorem dX3_fittingFirsts_19 : decode cX3_fittingFirsts 19 = .ok (.iload_n 2, 1) := by decide +kernel
theorem dX3_fittingFirsts_20 : decode cX3_fittingFirsts 20 = .ok (.iconst 1, 1) := by decide +kernel
theorem dX3_fittingFirsts_21 : decode cX3_fittingFirsts 21 = .ok (.iload_n 3, 1) := by decide +kernel
theorem dX3_fittingFirsts_22 : decode cX3_fittingFirsts 22 = .ok (.ishl, 1) := by decide +kernel
theorem dX3_fittingFirsts_23 : decode cX3_fittingFirsts 23 = .ok (.ior, 1) := by decide +kernel
theorem dX3_fittingFirsts_24 : decode cX3_fittingFirsts 24 = .ok (.istore_n 2, 1) := by decide +kernel
theorem dX3_fittingFirsts_25 : decode cX3_fittingFirsts 25 = .ok (.iinc 3 1, 3) := by decide +kernel
theorem dX3_fittingFirsts_28 : decode cX3_fittingFirsts 28 = .ok (.goto (-24), 3) := by decide +kernel
theorem dX3_fittingFirsts_31 : decode cX3_fittingFirsts 31 = .ok (.iload_n 2, 1) := by decide +kernel
theorem dX3_fittingFirsts_32 : decode cX3_fittingFirsts 32 = .ok (.ireturn, 1) := by decide +kernel
theorem dX3_fittingKinds_0 : decode cX3_fittingKinds 0 = .ok (.iconst 0, 1) := by decide +kernel
theorem dX3_fittingKinds_1 : decode cX3_fittingKinds 1 = .ok (.istore_n 2, 1) := by decide +kernel
theorem dX3_fittingKinds_2 : decode cX3_fittingKinds 2 = .ok (.iconst 0, 1) := by decide +kernel
theorem dX3_fittingKinds_3 : decode cX3_fittingKinds 3 = .ok (.istore_n 3, 1) := by decide +kernel
theorem dX3_fittingKinds_4 : decode cX3_fittingKinds 4 = .ok (.iload_n 3, 1) := by decide +kernel
theorem dX3_fittingKinds_5 : decode cX3_fittingKinds 5 = .ok (.bipush 6, 2) := by decide +kernel
theorem dX3_fittingKinds_7 : decode cX3_fittingKinds 7 = .ok (.if_icmp .ge 24, 3) := by decide +kernel
theorem dX3_fittingKinds_10 : decode cX3_fittingKinds 10 = .ok (.iload_n 3, 1) := by decide +kernel
theorem dX3_fittingKinds_11 : decode cX3_fittingKinds 11 = .ok (.iload_n 0, 1) := by decide +kernel
theorem dX3_fittingKinds_12 : decode cX3_fittingKinds 12 = .ok (.aload_n 1, 1) := by decide +kernel
theorem dX3_fittingKinds_13 : decode cX3_fittingKinds 13 = .ok (.invokestatic 25, 3) := by decide +kernel
theorem dX3_fittingKinds_16 : decode cX3_fittingKinds 16 = .ok (.ifCond .eq 9, 3) := by decide +kernel
theorem dX3_fittingKinds_19 : decode cX3_fittingKinds 19 = .ok (.iload_n 2, 1) := by decide +kernel
theorem dX3_fittingKinds_20 : decode cX3_fittingKinds 20 = .ok (.iconst 1, 1) := by decide +kernel
theorem dX3_fittingKinds_21 : decode cX3_fittingKinds 21 = .ok (.iload_n 3, 1) := by decide +kernel
theorem dX3_fittingKinds_22 : decode cX3_fittingKinds 22 = .ok (.ishl, 1) := by decide +kernel
theorem dX3_fittingKinds_23 : decode cX3_fittingKinds 23 = .ok (.ior, 1) := by decide +kernel
theorem dX3_fittingKinds_24 : decode cX3_fittingKinds 24 = .ok (.istore_n 2, 1) := by decide +kernel
theorem dX3_fittingKinds_25 : decode cX3_fittingKinds 25 = .ok (.iinc 3 1, 3) := by decide +kernel
theorem dX3_fittingKinds_28 : decode cX3_fittingKinds 28 = .ok (.goto (-24), 3) := by decide +kernel
theorem dX3_fittingKinds_31 : decode cX3_fittingKinds 31 = .ok (.iload_n 2, 1) := by decide +kernel
theorem dX3_fittingKinds_32 : decode cX3_fittingKinds 32 = .ok (.ireturn, 1) := by decide +kernel
theorem dX3_tellingNight_0 : decode cX3_tellingNight 0 = .ok (.iconst 0, 1) := by decide +kernel
theorem dX3_tellingNight_1 : decode cX3_tellingNight 1 = .ok (.istore_n 2, 1) := by decide +kernel
theorem dX3_tellingNight_2 : decode cX3_tellingNight 2 = .ok (.iload_n 0, 1) := by decide +kernel
theorem dX3_tellingNight_3 : decode cX3_tellingNight 3 = .ok (.iload_n 1, 1) := by decide +kernel
theorem dX3_tellingNight_4 : decode cX3_tellingNight 4 = .ok (.iconst 0, 1) := by decide +kernel
theorem dX3_tellingNight_5 : decode cX3_tellingNight 5 = .ok (.invokestatic 31, 3) := by decide +kernel
theorem dX3_tellingNight_8 : decode cX3_tellingNight 8 = .ok (.istore_n 3, 1) := by decide +kernel
theorem dX3_tellingNight_9 : decode cX3_tellingNight 9 = .ok (.iconst 1, 1) := by decide +kernel
theorem dX3_tellingNight_10 : decode cX3_tellingNight 10 = .ok (.istore 4, 2) := by decide +kernel
theorem dX3_tellingNight_12 : decode cX3_tellingNight 12 = .ok (.iload 4, 2) := by decide +kernel
theorem dX3_tellingNight_14 : decode cX3_tellingNight 14 = .ok (.bipush 20, 2) := by decide +kernel
theorem dX3_tellingNight_16 : decode cX3_tellingNight 16 = .ok (.if_icmp .gt 30, 3) := by decide +kernel
theorem dX3_tellingNight_19 : decode cX3_tellingNight 19 = .ok (.iload_n 0, 1) := by decide +kernel
theorem dX3_tellingNight_20 : decode cX3_tellingNight 20 = .ok (.iload_n 1, 1) := by decide +kernel
theorem dX3_tellingNight_21 : decode cX3_tellingNight 21 = .ok (.iload 4, 2) := by decide +kernel
theorem dX3_tellingNight_23 : decode cX3_tellingNight 23 = .ok (.invokestatic 31, 3) := by decide +kernel
theorem dX3_tellingNight_26 : decode cX3_tellingNight 26 = .ok (.istore 5, 2) := by decide +kernel
theorem dX3_tellingNight_28 : decode cX3_tellingNight 28 = .ok (.iload 5, 2) := by decide +kernel
theorem dX3_tellingNight_30 : decode cX3_tellingNight 30 = .ok (.iload_n 3, 1) := by decide +kernel
theorem dX3_tellingNight_31 : decode cX3_tellingNight 31 = .ok (.if_icmp .ge 9, 3) := by decide +kernel
theorem dX3_tellingNight_34 : decode cX3_tellingNight 34 = .ok (.iload 5, 2) := by decide +kernel
theorem dX3_tellingNight_36 : decode cX3_tellingNight 36 = .ok (.istore_n 3, 1) := by decide +kernel
theorem dX3_tellingNight_37 : decode cX3_tellingNight 37 = .ok (.iload 4, 2) := by decide +kernel
theorem dX3_tellingNight_39 : decode cX3_tellingNight 39 = .ok (.istore_n 2, 1) := by decide +kernel
theorem dX3_tellingNight_40 : decode cX3_tellingNight 40 = .ok (.iinc 4 1, 3) := by decide +kernel
theorem dX3_tellingNight_43 : decode cX3_tellingNight 43 = .ok (.goto (-31), 3) := by decide +kernel
theorem dX3_tellingNight_46 : decode cX3_tellingNight 46 = .ok (.iload_n 2, 1) := by decide +kernel
theorem dX3_tellingNight_47 : decode cX3_tellingNight 47 = .ok (.ireturn, 1) := by decide +kernel
theorem dX3_largestPart_0 : decode cX3_largestPart 0 = .ok (.iconst 0, 1) := by decide +kernel
theorem dX3_largestPart_1 : decode cX3_largestPart 1 = .ok (.istore_n 3, 1) := by decide +kernel
theorem dX3_largestPart_2 : decode cX3_largestPart 2 = .ok (.iconst 0, 1) := by decide +kernel
theorem dX3_largestPart_3 : decode cX3_largestPart 3 = .ok (.istore 4, 2) := by decide +kernel
theorem dX3_largestPart_5 : decode cX3_largestPart 5 = .ok (.iload 4, 2) := by decide +kernel
theorem dX3_largestPart_7 : decode cX3_largestPart 7 = .ok (.bipush 6, 2) := by decide +kernel
theorem dX3_largestPart_9 : decode cX3_largestPart 9 = .ok (.if_icmp .ge 37, 3) := by decide +kernel
theorem dX3_largestPart_12 : decode cX3_largestPart 12 = .ok (.iload_n 0, 1) := by decide +kernel
theorem dX3_largestPart_13 : decode cX3_largestPart 13 = .ok (.iload 4, 2) := by decide +kernel
theorem dX3_largestPart_15 : decode cX3_largestPart 15 = .ok (.ishr, 1) := by decide +kernel
theorem dX3_largestPart_16 : decode cX3_largestPart 16 = .ok (.iconst 1, 1) := by decide +kernel
theorem dX3_largestPart_17 : decode cX3_largestPart 17 = .ok (.iand, 1) := by decide +kernel
theorem dX3_largestPart_18 : decode cX3_largestPart 18 = .ok (.iconst 1, 1) := by decide +kernel
theorem dX3_largestPart_19 : decode cX3_largestPart 19 = .ok (.if_icmp .ne 21, 3) := by decide +kernel
theorem dX3_largestPart_22 : decode cX3_largestPart 22 = .ok (.iload_n 3, 1) := by decide +kernel
theorem dX3_largestPart_23 : decode cX3_largestPart 23 = .ok (.iload_n 0, 1) := by decide +kernel
theorem dX3_largestPart_24 : decode cX3_largestPart 24 = .ok (.iload_n 1, 1) := by decide +kernel
theorem dX3_largestPart_25 : decode cX3_largestPart 25 = .ok (.iload_n 2, 1) := by decide +kernel
theorem dX3_largestPart_26 : decode cX3_largestPart 26 = .ok (.iload 4, 2) := by decide +kernel
theorem dX3_largestPart_28 : decode cX3_largestPart 28 = .ok (.iload_n 1, 1) := by decide +kernel
theorem dX3_largestPart_29 : decode cX3_largestPart 29 = .ok (.iload_n 2, 1) := by decide +kernel
theorem dX3_largestPart_30 : decode cX3_largestPart 30 = .ok (.invokestatic 19, 3) := by decide +kernel
theorem dX3_largestPart_33 : decode cX3_largestPart 33 = .ok (.invokestatic 34, 3) := by decide +kernel
theorem dX3_largestPart_36 : decode cX3_largestPart 36 = .ok (.invokestatic 38, 3) := by decide +kernel
theorem dX3_largestPart_39 : decode cX3_largestPart 39 = .ok (.istore_n 3, 1) := by decide +kernel
theorem dX3_largestPart_40 : decode cX3_largestPart 40 = .ok (.iinc 4 1, 3) := by decide +kernel
theorem dX3_largestPart_43 : decode cX3_largestPart 43 = .ok (.goto (-38), 3) := by decide +kernel
theorem dX3_largestPart_46 : decode cX3_largestPart 46 = .ok (.iload_n 3, 1) := by decide +kernel
theorem dX3_largestPart_47 : decode cX3_largestPart 47 = .ok (.ireturn, 1) := by decide +kernel
theorem dX3_howManyGlow_0 : decode cX3_howManyGlow 0 = .ok (.iconst 0, 1) := by decide +kernel
theorem dX3_howManyGlow_1 : decode cX3_howManyGlow 1 = .ok (.istore 4, 2) := by decide +kernel
theorem dX3_howManyGlow_3 : decode cX3_howManyGlow 3 = .ok (.iconst 0, 1) := by decide +kernel
theorem dX3_howManyGlow_4 : decode cX3_howManyGlow 4 = .ok (.istore 5, 2) := by decide +kernel
theorem dX3_howManyGlow_6 : decode cX3_howManyGlow 6 = .ok (.iload 5, 2) := by decide +kernel
theorem dX3_howManyGlow_8 : decode cX3_howManyGlow 8 = .ok (.bipush 6, 2) := by decide +kernel
theorem dX3_howManyGlow_10 : decode cX3_howManyGlow 10 = .ok (.if_icmp .ge 33, 3) := by decide +kernel
theorem dX3_howManyGlow_13 : decode cX3_howManyGlow 13 = .ok (.iload_n 0, 1) := by decide +kernel
theorem dX3_howManyGlow_14 : decode cX3_howManyGlow 14 = .ok (.iload 5, 2) := by decide +kernel
theorem dX3_howManyGlow_16 : decode cX3_howManyGlow 16 = .ok (.ishr, 1) := by decide +kernel
theorem dX3_howManyGlow_17 : decode cX3_howManyGlow 17 = .ok (.iconst 1, 1) := by decide +kernel
theorem dX3_howManyGlow_18 : decode cX3_howManyGlow 18 = .ok (.iand, 1) := by decide +kernel
theorem dX3_howManyGlow_19 : decode cX3_howManyGlow 19 = .ok (.iconst 1, 1) := by decide +kernel
theorem dX3_howManyGlow_20 : decode cX3_howManyGlow 20 = .ok (.if_icmp .ne 17, 3) := by decide +kernel
theorem dX3_howManyGlow_23 : decode cX3_howManyGlow 23 = .ok (.iload 5, 2) := by decide +kernel
theorem dX3_howManyGlow_25 : decode cX3_howManyGlow 25 = .ok (.iload_n 1, 1) := by decide +kernel
theorem dX3_howManyGlow_26 : decode cX3_howManyGlow 26 = .ok (.iload_n 2, 1) := by decide +kernel
theorem dX3_howManyGlow_27 : decode cX3_howManyGlow 27 = .ok (.invokestatic 19, 3) := by decide +kernel
theorem dX3_howManyGlow_30 : decode cX3_howManyGlow 30 = .ok (.iload_n 3, 1) := by decide +kernel
theorem dX3_howManyGlow_31 : decode cX3_howManyGlow 31 = .ok (.if_icmp .ne 6, 3) := by decide +kernel
theorem dX3_howManyGlow_34 : decode cX3_howManyGlow 34 = .ok (.iinc 4 1, 3) := by decide +kernel
theorem dX3_howManyGlow_37 : decode cX3_howManyGlow 37 = .ok (.iinc 5 1, 3) := by decide +kernel
theorem dX3_howManyGlow_40 : decode cX3_howManyGlow 40 = .ok (.goto (-34), 3) := by decide +kernel
theorem dX3_howManyGlow_43 : decode cX3_howManyGlow 43 = .ok (.iload 4, 2) := by decide +kernel
theorem dX3_howManyGlow_45 : decode cX3_howManyGlow 45 = .ok (.ireturn, 1) := by decide +kernel
theorem dX3_fittingOwers_0 : decode cX3_fittingOwers 0 = .ok (.iconst 0, 1) := by decide +kernel
theorem dX3_fittingOwers_1 : decode cX3_fittingOwers 1 = .ok (.istore_n 3, 1) := by decide +kernel
theorem dX3_fittingOwers_2 : decode cX3_fittingOwers 2 = .ok (.iconst 0, 1) := by decide +kernel
theorem dX3_fittingOwers_3 : decode cX3_fittingOwers 3 = .ok (.istore 4, 2) := by decide +kernel
theorem dX3_fittingOwers_5 : decode cX3_fittingOwers 5 = .ok (.iload 4, 2) := by decide +kernel
theorem dX3_fittingOwers_7 : decode cX3_fittingOwers 7 = .ok (.bipush 6, 2) := by decide +kernel
theorem dX3_fittingOwers_9 : decode cX3_fittingOwers 9 = .ok (.if_icmp .ge 37, 3) := by decide +kernel
theorem dX3_fittingOwers_12 : decode cX3_fittingOwers 12 = .ok (.iload 4, 2) := by decide +kernel
theorem dX3_fittingOwers_14 : decode cX3_fittingOwers 14 = .ok (.aload_n 0, 1) := by decide +kernel
theorem dX3_fittingOwers_15 : decode cX3_fittingOwers 15 = .ok (.iload_n 1, 1) := by decide +kernel
theorem dX3_fittingOwers_16 : decode cX3_fittingOwers 16 = .ok (.invokevirtual 44, 3) := by decide +kernel
theorem dX3_fittingOwers_19 : decode cX3_fittingOwers 19 = .ok (.if_icmp .eq 21, 3) := by decide +kernel
theorem dX3_fittingOwers_22 : decode cX3_fittingOwers 22 = .ok (.aload_n 0, 1) := by decide +kernel
theorem dX3_fittingOwers_23 : decode cX3_fittingOwers 23 = .ok (.iload_n 1, 1) := by decide +kernel
theorem dX3_fittingOwers_24 : decode cX3_fittingOwers 24 = .ok (.iload 4, 2) := by decide +kernel
theorem dX3_fittingOwers_26 : decode cX3_fittingOwers 26 = .ok (.aload_n 2, 1) := by decide +kernel
theorem dX3_fittingOwers_27 : decode cX3_fittingOwers 27 = .ok (.invokestatic 49, 3) := by decide +kernel
theorem dX3_fittingOwers_30 : decode cX3_fittingOwers 30 = .ok (.ifCond .eq 10, 3) := by decide +kernel
theorem dX3_fittingOwers_33 : decode cX3_fittingOwers 33 = .ok (.iload_n 3, 1) := by decide +kernel
theorem dX3_fittingOwers_34 : decode cX3_fittingOwers 34 = .ok (.iconst 1, 1) := by decide +kernel
theorem dX3_fittingOwers_35 : decode cX3_fittingOwers 35 = .ok (.iload 4, 2) := by decide +kernel
theorem dX3_fittingOwers_37 : decode cX3_fittingOwers 37 = .ok (.ishl, 1) := by decide +kernel
theorem dX3_fittingOwers_38 : decode cX3_fittingOwers 38 = .ok (.ior, 1) := by decide +kernel
theorem dX3_fittingOwers_39 : decode cX3_fittingOwers 39 = .ok (.istore_n 3, 1) := by decide +kernel
theorem dX3_fittingOwers_40 : decode cX3_fittingOwers 40 = .ok (.iinc 4 1, 3) := by decide +kernel
theorem dX3_fittingOwers_43 : decode cX3_fittingOwers 43 = .ok (.goto (-38), 3) := by decide +kernel
theorem dX3_fittingOwers_46 : decode cX3_fittingOwers 46 = .ok (.iload_n 3, 1) := by decide +kernel
theorem dX3_fittingOwers_47 : decode cX3_fittingOwers 47 = .ok (.ireturn, 1) := by decide +kernel
theorem dX3_fitsOwer_0 : decode cX3_fitsOwer 0 = .ok (.aload_n 0, 1) := by decide +kernel
theorem dX3_fitsOwer_1 : decode cX3_fitsOwer 1 = .ok (.iload_n 1, 1) := by decide +kernel
theorem dX3_fitsOwer_2 : decode cX3_fitsOwer 2 = .ok (.invokevirtual 53, 3) := by decide +kernel
theorem dX3_fitsOwer_5 : decode cX3_fitsOwer 5 = .ok (.ifCond .eq 7, 3) := by decide +kernel
theorem dX3_fitsOwer_8 : decode cX3_fitsOwer 8 = .ok (.iconst 1, 1) := by decide +kernel
theorem dX3_fitsOwer_9 : decode cX3_fitsOwer 9 = .ok (.goto 4, 3) := by decide +kernel
theorem dX3_fitsOwer_12 : decode cX3_fitsOwer 12 = .ok (.iconst 0, 1) := by decide +kernel
theorem dX3_fitsOwer_13 : decode cX3_fitsOwer 13 = .ok (.istore 4, 2) := by decide +kernel
theorem dX3_fitsOwer_15 : decode cX3_fitsOwer 15 = .ok (.iconst 0, 1) := by decide +kernel
theorem dX3_fitsOwer_16 : decode cX3_fitsOwer 16 = .ok (.istore 5, 2) := by decide +kernel
theorem dX3_fitsOwer_18 : decode cX3_fitsOwer 18 = .ok (.iload 5, 2) := by decide +kernel
theorem dX3_fitsOwer_20 : decode cX3_fitsOwer 20 = .ok (.bipush 6, 2) := by decide +kernel
theorem dX3_fitsOwer_22 : decode cX3_fitsOwer 22 = .ok (.if_icmp .ge 71, 3) := by decide +kernel
theorem dX3_fitsOwer_25 : decode cX3_fitsOwer 25 = .ok (.aload_n 0, 1) := by decide +kernel
theorem dX3_fitsOwer_26 : decode cX3_fitsOwer 26 = .ok (.iload 5, 2) := by decide +kernel
theorem dX3_fitsOwer_28 : decode cX3_fitsOwer 28 = .ok (.invokevirtual 57, 3) := by decide +kernel
theorem dX3_fitsOwer_31 : decode cX3_fitsOwer 31 = .ok (.istore 6, 2) := by decide +kernel
theorem dX3_fitsOwer_33 : decode cX3_fitsOwer 33 = .ok (.iload 5, 2) := by decide +kernel
theorem dX3_fitsOwer_35 : decode cX3_fitsOwer 35 = .ok (.aload_n 0, 1) := by decide +kernel
theorem dX3_fitsOwer_36 : decode cX3_fitsOwer 36 = .ok (.iload_n 1, 1) := by decide +kernel
theorem dX3_fitsOwer_37 : decode cX3_fitsOwer 37 = .ok (.invokevirtual 60, 3) := by decide +kernel
theorem dX3_fitsOwer_40 : decode cX3_fitsOwer 40 = .ok (.if_icmp .ne 10, 3) := by decide +kernel
theorem dX3_fitsOwer_43 : decode cX3_fitsOwer 43 = .ok (.iload 6, 2) := by decide +kernel
theorem dX3_fitsOwer_45 : decode cX3_fitsOwer 45 = .ok (.iload 4, 2) := by decide +kernel
theorem dX3_fitsOwer_47 : decode cX3_fitsOwer 47 = .ok (.isub, 1) := by decide +kernel
theorem dX3_fitsOwer_48 : decode cX3_fitsOwer 48 = .ok (.istore 6, 2) := by decide +kernel
theorem dX3_fitsOwer_50 : decode cX3_fitsOwer 50 = .ok (.iload 5, 2) := by decide +kernel
theorem dX3_fitsOwer_52 : decode cX3_fitsOwer 52 = .ok (.iload_n 2, 1) := by decide +kernel
theorem dX3_fitsOwer_53 : decode cX3_fitsOwer 53 = .ok (.if_icmp .ne 10, 3) := by decide +kernel
theorem dX3_fitsOwer_56 : decode cX3_fitsOwer 56 = .ok (.iload 6, 2) := by decide +kernel
theorem dX3_fitsOwer_58 : decode cX3_fitsOwer 58 = .ok (.iload 4, 2) := by decide +kernel
theorem dX3_fitsOwer_60 : decode cX3_fitsOwer 60 = .ok (.iadd, 1) := by decide +kernel
theorem dX3_fitsOwer_61 : decode cX3_fitsOwer 61 = .ok (.istore 6, 2) := by decide +kernel
theorem dX3_fitsOwer_63 : decode cX3_fitsOwer 63 = .ok (.aload_n 3, 1) := by decide +kernel
theorem dX3_fitsOwer_64 : decode cX3_fitsOwer 64 = .ok (.iload 5, 2) := by decide +kernel
theorem dX3_fitsOwer_66 : decode cX3_fitsOwer 66 = .ok (.invokevirtual 15, 3) := by decide +kernel
theorem dX3_fitsOwer_69 : decode cX3_fitsOwer 69 = .ok (.bipush (-9), 2) := by decide +kernel
theorem dX3_fitsOwer_71 : decode cX3_fitsOwer 71 = .ok (.if_icmp .eq 16, 3) := by decide +kernel
theorem dX3_fitsOwer_74 : decode cX3_fitsOwer 74 = .ok (.aload_n 3, 1) := by decide +kernel
theorem dX3_fitsOwer_75 : decode cX3_fitsOwer 75 = .ok (.iload 5, 2) := by decide +kernel
theorem dX3_fitsOwer_77 : decode cX3_fitsOwer 77 = .ok (.invokevirtual 15, 3) := by decide +kernel
theorem dX3_fitsOwer_80 : decode cX3_fitsOwer 80 = .ok (.iload 6, 2) := by decide +kernel
theorem dX3_fitsOwer_82 : decode cX3_fitsOwer 82 = .ok (.if_icmp .eq 5, 3) := by decide +kernel
theorem dX3_fitsOwer_85 : decode cX3_fitsOwer 85 = .ok (.iconst 0, 1) := by decide +kernel
theorem dX3_fitsOwer_86 : decode cX3_fitsOwer 86 = .ok (.ireturn, 1) := by decide +kernel
theorem dX3_fitsOwer_87 : decode cX3_fitsOwer 87 = .ok (.iinc 5 1, 3) := by decide +kernel
theorem dX3_fitsOwer_90 : decode cX3_fitsOwer 90 = .ok (.goto (-72), 3) := by decide +kernel
theorem dX3_fitsOwer_93 : decode cX3_fitsOwer 93 = .ok (.iconst 1, 1) := by decide +kernel
theorem dX3_fitsOwer_94 : decode cX3_fitsOwer 94 = .ok (.ireturn, 1) := by decide +kernel
theorem dX4_init_0 : decode cX4_init 0 = .ok (.aload_n 0, 1) := by decide +kernel
theorem dX4_init_1 : decode cX4_init 1 = .ok (.invokespecial 3, 3) := by decide +kernel
theorem dX4_init_4 : decode cX4_init 4 = .ok (.aload_n 0, 1) := by decide +kernel
theorem dX4_init_5 : decode cX4_init 5 = .ok (.bipush 8, 2) := by decide +kernel
theorem dX4_init_7 : decode cX4_init 7 = .ok (.newarray .int, 2) := by decide +kernel
theorem dX4_init_9 : decode cX4_init 9 = .ok (.putfield 9, 3) := by decide +kernel
theorem dX4_init_12 : decode cX4_init 12 = .ok (.aload_n 0, 1) := by decide +kernel
theorem dX4_init_13 : decode cX4_init 13 = .ok (.sipush 256, 3) := by decide +kernel
theorem dX4_init_16 : decode cX4_init 16 = .ok (.newarray .int, 2) := by decide +kernel
theorem dX4_init_18 : decode cX4_init 18 = .ok (.putfield 15, 3) := by decide +kernel
theorem dX4_init_21 : decode cX4_init 21 = .ok (.return_, 1) := by decide +kernel
theorem dX4_setsOf_0 : decode cX4_setsOf 0 = .ok (.iconst 1, 1) := by decide +kernel
theorem dX4_setsOf_1 : decode cX4_setsOf 1 = .ok (.aload_n 0, 1) := by decide +kernel
theorem dX4_setsOf_2 : decode cX4_setsOf 2 = .ok (.invokevirtual 18, 3) := by decide +kernel
theorem dX4_setsOf_5 : decode cX4_setsOf 5 = .ok (.bipush 8, 2) := by decide +kernel
theorem dX4_setsOf_7 : decode cX4_setsOf 7 = .ok (.invokestatic 24, 3) := by decide +kernel
theorem dX4_setsOf_10 : decode cX4_setsOf 10 = .ok (.ishl, 1) := by decide +kernel
theorem dX4_setsOf_11 : decode cX4_setsOf 11 = .ok (.ireturn, 1) := by decide +kernel
theorem dX4_isWithin_0 : decode cX4_isWithin 0 = .ok (.iload_n 0, 1) := by decide +kernel
theorem dX4_isWithin_1 : decode cX4_isWithin 1 = .ok (.iload_n 1, 1) := by decide +kernel
theorem dX4_isWithin_2 : decode cX4_isWithin 2 = .ok (.iconst (-1), 1) := by decide +kernel
theorem dX4_isWithin_3 : decode cX4_isWithin 3 = .ok (.ixor, 1) := by decide +kernel
theorem dX4_isWithin_4 : decode cX4_isWithin 4 = .ok (.iand, 1) := by decide +kernel
theorem dX4_isWithin_5 : decode cX4_isWithin 5 = .ok (.ifCond .ne 7, 3) := by decide +kernel
theorem dX4_isWithin_8 : decode cX4_isWithin 8 = .ok (.iconst 1, 1) := by decide +kernel
theorem dX4_isWithin_9 : decode cX4_isWithin 9 = .ok (.goto 4, 3) := by decide +kernel
theorem dX4_isWithin_12 : decode cX4_isWithin 12 = .ok (.iconst 0, 1) := by decide +kernel
theorem dX4_isWithin_13 : decode cX4_isWithin 13 = .ok (.ireturn, 1) := by decide +kernel
theorem dX4_sumUp_0 : decode cX4_sumUp 0 = .ok (.aload_n 0, 1) := by decide +kernel
theorem dX4_sumUp_1 : decode cX4_sumUp 1 = .ok (.getfield 15, 3) := by decide +kernel
theorem dX4_sumUp_4 : decode cX4_sumUp 4 = .ok (.iconst 0, 1) := by decide +kernel
theorem dX4_sumUp_5 : decode cX4_sumUp 5 = .ok (.iconst 0, 1) := by decide +kernel
theorem dX4_sumUp_6 : decode cX4_sumUp 6 = .ok (.iastore, 1) := by decide +kernel
theorem dX4_sumUp_7 : decode cX4_sumUp 7 = .ok (.iconst 0, 1) := by decide +kernel
theorem dX4_sumUp_8 : decode cX4_sumUp 8 = .ok (.istore_n 1, 1) := by decide +kernel
theorem dX4_sumUp_9 : decode cX4_sumUp 9 = .ok (.iload_n 1, 1) := by decide +kernel
theorem dX4_sumUp_10 : decode cX4_sumUp 10 = .ok (.bipush 8, 2) := by decide +kernel
theorem dX4_sumUp_12 : decode cX4_sumUp 12 = .ok (.if_icmp .ge 47, 3) := by decide +kernel
theorem dX4_sumUp_15 : decode cX4_sumUp 15 = .ok (.iconst 1, 1) := by decide +kernel
theorem dX4_sumUp_16 : decode cX4_sumUp 16 = .ok (.iload_n 1, 1) := by decide +kernel
theorem dX4_sumUp_17 : decode cX4_sumUp 17 = .ok (.ishl, 1) := by decide +kernel
theorem dX4_sumUp_18 : decode cX4_sumUp 18 = .ok (.istore_n 2, 1) := by decide +kernel
theorem dX4_sumUp_19 : decode cX4_sumUp 19 = .ok (.iconst 0, 1) := by decide +kernel
theorem dX4_sumUp_20 : decode cX4_sumUp 20 = .ok (.istore_n 3, 1) := by decide +kernel
theorem dX4_sumUp_21 : decode cX4_sumUp 21 = .ok (.iload_n 3, 1) := by decide +kernel
theorem dX4_sumUp_22 : decode cX4_sumUp 22 = .ok (.iload_n 2, 1) := by decide +kernel
theorem dX4_sumUp_23 : decode cX4_sumUp 23 = .ok (.if_icmp .ge 30, 3) := by decide +kernel
theorem dX4_sumUp_26 : decode cX4_sumUp 26 = .ok (.aload_n 0, 1) := by decide +kernel
theorem dX4_sumUp_27 : decode cX4_sumUp 27 = .ok (.getfield 15, 3) := by decide +kernel
theorem dX4_sumUp_30 : decode cX4_sumUp 30 = .ok (.iload_n 3, 1) := by decide +kernel
theorem dX4_sumUp_31 : decode cX4_sumUp 31 = .ok (.iload_n 2, 1) := by decide +kernel
theorem dX4_sumUp_32 : decode cX4_sumUp 32 = .ok (.iadd, 1) := by decide +kernel
theorem dX4_sumUp_33 : decode cX4_sumUp 33 = .ok (.aload_n 0, 1) := by decide +kernel
theorem dX4_sumUp_34 : decode cX4_sumUp 34 = .ok (.getfield 15, 3) := by decide +kernel
theorem dX4_sumUp_37 : decode cX4_sumUp 37 = .ok (.iload_n 3, 1) := by decide +kernel
theorem dX4_sumUp_38 : decode cX4_sumUp 38 = .ok (.iaload, 1) := by decide +kernel
theorem dX4_sumUp_39 : decode cX4_sumUp 39 = .ok (.aload_n 0, 1) := by decide +kernel
theorem dX4_sumUp_40 : decode cX4_sumUp 40 = .ok (.getfield 9, 3) := by decide +kernel
theorem dX4_sumUp_43 : decode cX4_sumUp 43 = .ok (.iload_n 1, 1) := by decide +kernel
theorem dX4_sumUp_44 : decode cX4_sumUp 44 = .ok (.iaload, 1) := by decide +kernel
theorem dX4_sumUp_45 : decode cX4_sumUp 45 = .ok (.iadd, 1) := by decide +kernel
theorem dX4_sumUp_46 : decode cX4_sumUp 46 = .ok (.iastore, 1) := by decide +kernel
theorem dX4_sumUp_47 : decode cX4_sumUp 47 = .ok (.iinc 3 1, 3) := by decide +kernel
theorem dX4_sumUp_50 : decode cX4_sumUp 50 = .ok (.goto (-29), 3) := by decide +kernel
theorem dX4_sumUp_53 : decode cX4_sumUp 53 = .ok (.iinc 1 1, 3) := by decide +kernel
theorem dX4_sumUp_56 : decode cX4_sumUp 56 = .ok (.goto (-47), 3) := by decide +kernel
theorem dX4_sumUp_59 : decode cX4_sumUp 59 = .ok (.return_, 1) := by decide +kernel
theorem dX4_sumGlow_0 : decode cX4_sumGlow 0 = .ok (.iconst 0, 1) := by decide +kernel
theorem dX4_sumGlow_1 : decode cX4_sumGlow 1 = .ok (.istore_n 3, 1) := by decide +kernel
theorem dX4_sumGlow_2 : decode cX4_sumGlow 2 = .ok (.iload_n 3, 1) := by decide +kernel
theorem dX4_sumGlow_3 : decode cX4_sumGlow 3 = .ok (.bipush 8, 2) := by decide +kernel
theorem dX4_sumGlow_5 : decode cX4_sumGlow 5 = .ok (.if_icmp .ge 37, 3) := by decide +kernel
theorem dX4_sumGlow_8 : decode cX4_sumGlow 8 = .ok (.aload_n 0, 1) := by decide +kernel
theorem dX4_sumGlow_9 : decode cX4_sumGlow 9 = .ok (.getfield 9, 3) := by decide +kernel
theorem dX4_sumGlow_12 : decode cX4_sumGlow 12 = .ok (.iload_n 3, 1) := by decide +kernel
theorem dX4_sumGlow_13 : decode cX4_sumGlow 13 = .ok (.aload_n 1, 1) := by decide +kernel
theorem dX4_sumGlow_14 : decode cX4_sumGlow 14 = .ok (.iload_n 3, 1) := by decide +kernel
theorem dX4_sumGlow_15 : decode cX4_sumGlow 15 = .ok (.invokevirtual 30, 3) := by decide +kernel
theorem dX4_sumGlow_18 : decode cX4_sumGlow 18 = .ok (.ifCond .eq 16, 3) := by decide +kernel
theorem dX4_sumGlow_21 : decode cX4_sumGlow 21 = .ok (.aload_n 1, 1) := by decide +kernel
theorem dX4_sumGlow_22 : decode cX4_sumGlow 22 = .ok (.iload_n 3, 1) := by decide +kernel
theorem dX4_sumGlow_23 : decode cX4_sumGlow 23 = .ok (.iload_n 2, 1) := by decide +kernel
theorem dX4_sumGlow_24 : decode cX4_sumGlow 24 = .ok (.aload_n 1, 1) := by decide +kernel
theorem dX4_sumGlow_25 : decode cX4_sumGlow 25 = .ok (.invokevirtual 34, 3) := by decide +kernel
theorem dX4_sumGlow_28 : decode cX4_sumGlow 28 = .ok (.invokevirtual 37, 3) := by decide +kernel
theorem dX4_sumGlow_31 : decode cX4_sumGlow 31 = .ok (.goto 4, 3) := by decide +kernel
theorem dX4_sumGlow_34 : decode cX4_sumGlow 34 = .ok (.iconst 0, 1) := by decide +kernel
theorem dX4_sumGlow_35 : decode cX4_sumGlow 35 = .ok (.iastore, 1) := by decide +kernel
theorem dX4_sumGlow_36 : decode cX4_sumGlow 36 = .ok (.iinc 3 1, 3) := by decide +kernel
theorem dX4_sumGlow_39 : decode cX4_sumGlow 39 = .ok (.goto (-37), 3) := by decide +kernel
theorem dX4_sumGlow_42 : decode cX4_sumGlow 42 = .ok (.aload_n 0, 1) := by decide +kernel
theorem dX4_sumGlow_43 : decode cX4_sumGlow 43 = .ok (.invokevirtual 41, 3) := by decide +kernel
theorem dX4_sumGlow_46 : decode cX4_sumGlow 46 = .ok (.return_, 1) := by decide +kernel
theorem dX4_sumDebts_0 : decode cX4_sumDebts 0 = .ok (.iconst 0, 1) := by decide +kernel
theorem dX4_sumDebts_1 : decode cX4_sumDebts 1 = .ok (.istore_n 2, 1) := by decide +kernel
theorem dX4_sumDebts_2 : decode cX4_sumDebts 2 = .ok (.iconst 0, 1) := by decide +kernel
theorem dX4_sumDebts_3 : decode cX4_sumDebts 3 = .ok (.istore_n 3, 1) := by decide +kernel
theorem dX4_sumDebts_4 : decode cX4_sumDebts 4 = .ok (.iload_n 3, 1) := by decide +kernel
theorem dX4_sumDebts_5 : decode cX4_sumDebts 5 = .ok (.bipush 8, 2) := by decide +kernel
theorem dX4_sumDebts_7 : decode cX4_sumDebts 7 = .ok (.if_icmp .ge 55, 3) := by decide +kernel
theorem dX4_sumDebts_10 : decode cX4_sumDebts 10 = .ok (.aload_n 0, 1) := by decide +kernel
theorem dX4_sumDebts_11 : decode cX4_sumDebts 11 = .ok (.getfield 9, 3) := by decide +kernel
theorem dX4_sumDebts_14 : decode cX4_sumDebts 14 = .ok (.iload_n 3, 1) := by decide +kernel
theorem dX4_sumDebts_15 : decode cX4_sumDebts 15 = .ok (.iconst 0, 1) := by decide +kernel
theorem dX4_sumDebts_16 : decode cX4_sumDebts 16 = .ok (.iastore, 1) := by decide +kernel
theorem dX4_sumDebts_17 : decode cX4_sumDebts 17 = .ok (.aload_n 1, 1) := by decide +kernel
theorem dX4_sumDebts_18 : decode cX4_sumDebts 18 = .ok (.iload_n 3, 1) := by decide +kernel
theorem dX4_sumDebts_19 : decode cX4_sumDebts 19 = .ok (.invokevirtual 44, 3) := by decide +kernel
theorem dX4_sumDebts_22 : decode cX4_sumDebts 22 = .ok (.ifCond .eq 34, 3) := by decide +kernel
theorem dX4_sumDebts_25 : decode cX4_sumDebts 25 = .ok (.aload_n 0, 1) := by decide +kernel
theorem dX4_sumDebts_26 : decode cX4_sumDebts 26 = .ok (.getfield 9, 3) := by decide +kernel
theorem dX4_sumDebts_29 : decode cX4_sumDebts 29 = .ok (.iload_n 3, 1) := by decide +kernel
theorem dX4_sumDebts_30 : decode cX4_sumDebts 30 = .ok (.iconst 1, 1) := by decide +kernel
theorem dX4_sumDebts_31 : decode cX4_sumDebts 31 = .ok (.iconst 5, 1) := by decide +kernel
theorem dX4_sumDebts_32 : decode cX4_sumDebts 32 = .ok (.aload_n 1, 1) := by decide +kernel
theorem dX4_sumDebts_33 : decode cX4_sumDebts 33 = .ok (.iload_n 3, 1) := by decide +kernel
theorem dX4_sumDebts_34 : decode cX4_sumDebts 34 = .ok (.invokevirtual 47, 3) := by decide +kernel
theorem dX4_sumDebts_37 : decode cX4_sumDebts 37 = .ok (.imul, 1) := by decide +kernel
theorem dX4_sumDebts_38 : decode cX4_sumDebts 38 = .ok (.ishl, 1) := by decide +kernel
theorem dX4_sumDebts_39 : decode cX4_sumDebts 39 = .ok (.iconst 1, 1) := by decide +kernel
theorem dX4_sumDebts_40 : decode cX4_sumDebts 40 = .ok (.iconst 5, 1) := by decide +kernel
theorem dX4_sumDebts_41 : decode cX4_sumDebts 41 = .ok (.aload_n 1, 1) := by decide +kernel
theorem dX4_sumDebts_42 : decode cX4_sumDebts 42 = .ok (.iload_n 3, 1) := by decide +kernel
theorem dX4_sumDebts_43 : decode cX4_sumDebts 43 = .ok (.invokevirtual 51, 3) := by decide +kernel
theorem dX4_sumDebts_46 : decode cX4_sumDebts 46 = .ok (.imul, 1) := by decide +kernel
theorem dX4_sumDebts_47 : decode cX4_sumDebts 47 = .ok (.ishl, 1) := by decide +kernel
theorem dX4_sumDebts_48 : decode cX4_sumDebts 48 = .ok (.isub, 1) := by decide +kernel
theorem dX4_sumDebts_49 : decode cX4_sumDebts 49 = .ok (.iastore, 1) := by decide +kernel
theorem dX4_sumDebts_50 : decode cX4_sumDebts 50 = .ok (.iload_n 2, 1) := by decide +kernel
theorem dX4_sumDebts_51 : decode cX4_sumDebts 51 = .ok (.iconst 1, 1) := by decide +kernel
theorem dX4_sumDebts_52 : decode cX4_sumDebts 52 = .ok (.iload_n 3, 1) := by decide +kernel
theorem dX4_sumDebts_53 : decode cX4_sumDebts 53 = .ok (.ishl, 1) := by decide +kernel
theorem dX4_sumDebts_54 : decode cX4_sumDebts 54 = .ok (.ior, 1) := by decide +kernel
theorem dX4_sumDebts_55 : decode cX4_sumDebts 55 = .ok (.istore_n 2, 1) := by decide +kernel
theorem dX4_sumDebts_56 : decode cX4_sumDebts 56 = .ok (.iinc 3 1, 3) := by decide +kernel
theorem dX4_sumDebts_59 : decode cX4_sumDebts 59 = .ok (.goto (-55), 3) := by decide +kernel
theorem dX4_sumDebts_62 : decode cX4_sumDebts 62 = .ok (.aload_n 0, 1) := by decide +kernel
theorem dX4_sumDebts_63 : decode cX4_sumDebts 63 = .ok (.invokevirtual 41, 3) := by decide +kernel
theorem dX4_sumDebts_66 : decode cX4_sumDebts 66 = .ok (.iload_n 2, 1) := by decide +kernel
theorem dX4_sumDebts_67 : decode cX4_sumDebts 67 = .ok (.ireturn, 1) := by decide +kernel
theorem dX4_largestRing_0 : decode cX4_largestRing 0 = .ok (.aload_n 0, 1) := by decide +kernel
theorem dX4_largestRing_1 : decode cX4_largestRing 1 = .ok (.aload_n 1, 1) := by decide +kernel
theorem dX4_largestRing_2 : decode cX4_largestRing 2 = .ok (.invokevirtual 54, 3) := by decide +kernel
theorem dX4_largestRing_5 : decode cX4_largestRing 5 = .ok (.istore_n 2, 1) := by decide +kernel
theorem dX4_largestRing_6 : decode cX4_largestRing 6 = .ok (.iconst 0, 1) := by decide +kernel
theorem dX4_largestRing_7 : decode cX4_largestRing 7 = .ok (.istore_n 3, 1) := by decide +kernel
theorem dX4_largestRing_8 : decode cX4_largestRing 8 = .ok (.iconst 0, 1) := by decide +kernel
theorem dX4_largestRing_9 : decode cX4_largestRing 9 = .ok (.istore 4, 2) := by decide +kernel
theorem dX4_largestRing_11 : decode cX4_largestRing 11 = .ok (.iload 4, 2) := by decide +kernel
theorem dX4_largestRing_13 : decode cX4_largestRing 13 = .ok (.aload_n 1, 1) := by decide +kernel
theorem dX4_largestRing_14 : decode cX4_largestRing 14 = .ok (.invokestatic 58, 3) := by decide +kernel
theorem dX4_largestRing_17 : decode cX4_largestRing 17 = .ok (.if_icmp .ge 43, 3) := by decide +kernel
theorem dX4_largestRing_20 : decode cX4_largestRing 20 = .ok (.iload 4, 2) := by decide +kernel
theorem dX4_largestRing_22 : decode cX4_largestRing 22 = .ok (.iload_n 2, 1) := by decide +kernel
theorem dX4_largestRing_23 : decode cX4_largestRing 23 = .ok (.invokestatic 61, 3) := by decide +kernel
theorem dX4_largestRing_26 : decode cX4_largestRing 26 = .ok (.ifCond .eq 28, 3) := by decide +kernel
theorem dX4_largestRing_29 : decode cX4_largestRing 29 = .ok (.aload_n 0, 1) := by decide +kernel
theorem dX4_largestRing_30 : decode cX4_largestRing 30 = .ok (.getfield 15, 3) := by decide +kernel
theorem dX4_largestRing_33 : decode cX4_largestRing 33 = .ok (.iload 4, 2) := by decide +kernel
theorem dX4_largestRing_35 : decode cX4_largestRing 35 = .ok (.iaload, 1) := by decide +kernel
theorem dX4_largestRing_36 : decode cX4_largestRing 36 = .ok (.ifCond .ne 18, 3) := by decide +kernel
theorem dX4_largestRing_39 : decode cX4_largestRing 39 = .ok (.iload 4, 2) := by decide +kernel
theorem dX4_largestRing_41 : decode cX4_largestRing 41 = .ok (.invokestatic 65, 3) := by decide +kernel
theorem dX4_largestRing_44 : decode cX4_largestRing 44 = .ok (.iload_n 3, 1) := by decide +kernel
theorem dX4_largestRing_45 : decode cX4_largestRing 45 = .ok (.invokestatic 65, 3) := by decide +kernel
theorem dX4_largestRing_48 : decode cX4_largestRing 48 = .ok (.if_icmp .le 6, 3) := by decide +kernel
theorem dX4_largestRing_51 : decode cX4_largestRing 51 = .ok (.iload 4, 2) := by decide +kernel
theorem dX4_largestRing_53 : decode cX4_largestRing 53 = .ok (.istore_n 3, 1) := by decide +kernel
theorem dX4_largestRing_54 : decode cX4_largestRing 54 = .ok (.iinc 4 1, 3) := by decide +kernel
theorem dX4_largestRing_57 : decode cX4_largestRing 57 = .ok (.goto (-46), 3) := by decide +kernel
theorem dX4_largestRing_60 : decode cX4_largestRing 60 = .ok (.iload_n 3, 1) := by decide +kernel
theorem dX4_largestRing_61 : decode cX4_largestRing 61 = .ok (.ireturn, 1) := by decide +kernel
theorem dX4_ringsWith_0 : decode cX4_ringsWith 0 = .ok (.aload_n 0, 1) := by decide +kernel
theorem dX4_ringsWith_1 : decode cX4_ringsWith 1 = .ok (.aload_n 1, 1) := by decide +kernel
theorem dX4_ringsWith_2 : decode cX4_ringsWith 2 = .ok (.invokevirtual 54, 3) := by decide +kernel
theorem dX4_ringsWith_5 : decode cX4_ringsWith 5 = .ok (.istore_n 3, 1) := by decide +kernel
theorem dX4_ringsWith_6 : decode cX4_ringsWith 6 = .ok (.iconst 0, 1) := by decide +kernel
theorem dX4_ringsWith_7 : decode cX4_ringsWith 7 = .ok (.istore 4, 2) := by decide +kernel
theorem dX4_ringsWith_9 : decode cX4_ringsWith 9 = .ok (.iconst 0, 1) := by decide +kernel
theorem dX4_ringsWith_10 : decode cX4_ringsWith 10 = .ok (.istore 5, 2) := by decide +kernel
theorem dX4_ringsWith_12 : decode cX4_ringsWith 12 = .ok (.iload 5, 2) := by decide +kernel
theorem dX4_ringsWith_14 : decode cX4_ringsWith 14 = .ok (.aload_n 1, 1) := by decide +kernel
theorem dX4_ringsWith_15 : decode cX4_ringsWith 15 = .ok (.invokestatic 58, 3) := by decide +kernel
theorem dX4_ringsWith_18 : decode cX4_ringsWith 18 = .ok (.if_icmp .ge 41, 3) := by decide +kernel
theorem dX4_ringsWith_21 : decode cX4_ringsWith 21 = .ok (.iload 5, 2) := by decide +kernel
theorem dX4_ringsWith_23 : decode cX4_ringsWith 23 = .ok (.iload_n 3, 1) := by decide +kernel
theorem dX4_ringsWith_24 : decode cX4_ringsWith 24 = .ok (.invokestatic 61, 3) := by decide +kernel
theorem dX4_ringsWith_27 : decode cX4_ringsWith 27 = .ok (.ifCond .eq 26, 3) := by decide +kernel
theorem dX4_ringsWith_30 : decode cX4_ringsWith 30 = .ok (.aload_n 0, 1) := by decide +kernel
theorem dX4_ringsWith_31 : decode cX4_ringsWith 31 = .ok (.getfield 15, 3) := by decide +kernel
theorem dX4_ringsWith_34 : decode cX4_ringsWith 34 = .ok (.iload 5, 2) := by decide +kernel
theorem dX4_ringsWith_36 : decode cX4_ringsWith 36 = .ok (.iaload, 1) := by decide +kernel
theorem dX4_ringsWith_37 : decode cX4_ringsWith 37 = .ok (.ifCond .ne 16, 3) := by decide +kernel
theorem dX4_ringsWith_40 : decode cX4_ringsWith 40 = .ok (.iload 5, 2) := by decide +kernel
theorem dX4_ringsWith_42 : decode cX4_ringsWith 42 = .ok (.iload_n 2, 1) := by decide +kernel
theorem dX4_ringsWith_43 : decode cX4_ringsWith 43 = .ok (.ishr, 1) := by decide +kernel
theorem dX4_ringsWith_44 : decode cX4_ringsWith 44 = .ok (.iconst 1, 1) := by decide +kernel
theorem dX4_ringsWith_45 : decode cX4_ringsWith 45 = .ok (.iand, 1) := by decide +kernel
theorem dX4_ringsWith_46 : decode cX4_ringsWith 46 = .ok (.iconst 1, 1) := by decide +kernel
theorem dX4_ringsWith_47 : decode cX4_ringsWith 47 = .ok (.if_icmp .ne 6, 3) := by decide +kernel
theorem dX4_ringsWith_50 : decode cX4_ringsWith 50 = .ok (.iinc 4 1, 3) := by decide +kernel
theorem dX4_ringsWith_53 : decode cX4_ringsWith 53 = .ok (.iinc 5 1, 3) := by decide +kernel
theorem dX4_ringsWith_56 : decode cX4_ringsWith 56 = .ok (.goto (-44), 3) := by decide +kernel
theorem dX4_ringsWith_59 : decode cX4_ringsWith 59 = .ok (.iload 4, 2) := by decide +kernel
theorem dX4_ringsWith_61 : decode cX4_ringsWith 61 = .ok (.ireturn, 1) := by decide +kernel
theorem dX4_smallestRingWith_0 : decode cX4_smallestRingWith 0 = .ok (.aload_n 0, 1) := by decide +kernel
theorem dX4_smallestRingWith_1 : decode cX4_smallestRingWith 1 = .ok (.aload_n 1, 1) := by decide +kernel
theorem dX4_smallestRingWith_2 : decode cX4_smallestRingWith 2 = .ok (.invokevirtual 54, 3) := by decide +kernel
theorem dX4_smallestRingWith_5 : decode cX4_smallestRingWith 5 = .ok (.istore_n 3, 1) := by decide +kernel
theorem dX4_smallestRingWith_6 : decode cX4_smallestRingWith 6 = .ok (.iconst 0, 1) := by decide +kernel
theorem dX4_smallestRingWith_7 : decode cX4_smallestRingWith 7 = .ok (.istore 4, 2) := by decide +kernel
theorem dX4_smallestRingWith_9 : decode cX4_smallestRingWith 9 = .ok (.iconst 0, 1) := by decide +kernel
theorem dX4_smallestRingWith_10 : decode cX4_smallestRingWith 10 = .ok (.istore 5, 2) := by decide +kernel
theorem dX4_smallestRingWith_12 : decode cX4_smallestRingWith 12 = .ok (.iload 5, 2) := by decide +kernel
theorem dX4_smallestRingWith_14 : decode cX4_smallestRingWith 14 = .ok (.aload_n 1, 1) := by decide +kernel
theorem dX4_smallestRingWith_15 : decode cX4_smallestRingWith 15 = .ok (.invokestatic 58, 3) := by decide +kernel
theorem dX4_smallestRingWith_18 : decode cX4_smallestRingWith 18 = .ok (.if_icmp .ge 72, 3) := by decide +kernel
theorem dX4_smallestRingWith_21 : decode cX4_smallestRingWith 21 = .ok (.iload 4, 2) := by decide +kernel
theorem dX4_smallestRingWith_23 : decode cX4_smallestRingWith 23 = .ok (.ifCond .eq 16, 3) := by decide +kernel
theorem dX4_smallestRingWith_26 : decode cX4_smallestRingWith 26 = .ok (.iload 5, 2) := by decide +kernel
theorem dX4_smallestRingWith_28 : decode cX4_smallestRingWith 28 = .ok (.invokestatic 65, 3) := by decide +kernel
theorem dX4_smallestRingWith_31 : decode cX4_smallestRingWith 31 = .ok (.iload 4, 2) := by decide +kernel
theorem dX4_smallestRingWith_33 : decode cX4_smallestRingWith 33 = .ok (.invokestatic 65, 3) := by decide +kernel
theorem dX4_smallestRingWith_36 : decode cX4_smallestRingWith 36 = .ok (.if_icmp .ge 7, 3) := by decide +kernel
theorem dX4_smallestRingWith_39 : decode cX4_smallestRingWith 39 = .ok (.iconst 1, 1) := by decide +kernel
theorem dX4_smallestRingWith_40 : decode cX4_smallestRingWith 40 = .ok (.goto 4, 3) := by decide +kernel
theorem dX4_smallestRingWith_43 : decode cX4_smallestRingWith 43 = .ok (.iconst 0, 1) := by decide +kernel
theorem dX4_smallestRingWith_44 : decode cX4_smallestRingWith 44 = .ok (.istore 6, 2) := by decide +kernel
theorem dX4_smallestRingWith_46 : decode cX4_smallestRingWith 46 = .ok (.iload 6, 2) := by decide +kernel
theorem dX4_smallestRingWith_48 : decode cX4_smallestRingWith 48 = .ok (.ifCond .eq 36, 3) := by decide +kernel
theorem dX4_smallestRingWith_51 : decode cX4_smallestRingWith 51 = .ok (.iload 5, 2) := by decide +kernel
theorem dX4_smallestRingWith_53 : decode cX4_smallestRingWith 53 = .ok (.iload_n 3, 1) := by decide +kernel
theorem dX4_smallestRingWith_54 : decode cX4_smallestRingWith 54 = .ok (.invokestatic 61, 3) := by decide +kernel
theorem dX4_smallestRingWith_57 : decode cX4_smallestRingWith 57 = .ok (.ifCond .eq 27, 3) := by decide +kernel
theorem dX4_smallestRingWith_60 : decode cX4_smallestRingWith 60 = .ok (.aload_n 0, 1) := by decide +kernel
theorem dX4_smallestRingWith_61 : decode cX4_smallestRingWith 61 = .ok (.getfield 15, 3) := by decide +kernel
theorem dX4_smallestRingWith_64 : decode cX4_smallestRingWith 64 = .ok (.iload 5, 2) := by decide +kernel
theorem dX4_smallestRingWith_66 : decode cX4_smallestRingWith 66 = .ok (.iaload, 1) := by decide +kernel
theorem dX4_smallestRingWith_67 : decode cX4_smallestRingWith 67 = .ok (.ifCond .ne 17, 3) := by decide +kernel
theorem dX4_smallestRingWith_70 : decode cX4_smallestRingWith 70 = .ok (.iload 5, 2) := by decide +kernel
theorem dX4_smallestRingWith_72 : decode cX4_smallestRingWith 72 = .ok (.iload_n 2, 1) := by decide +kernel
theorem dX4_smallestRingWith_73 : decode cX4_smallestRingWith 73 = .ok (.ishr, 1) := by decide +kernel
theorem dX4_smallestRingWith_74 : decode cX4_smallestRingWith 74 = .ok (.iconst 1, 1) := by decide +kernel
theorem dX4_smallestRingWith_75 : decode cX4_smallestRingWith 75 = .ok (.iand, 1) := by decide +kernel
theorem dX4_smallestRingWith_76 : decode cX4_smallestRingWith 76 = .ok (.iconst 1, 1) := by decide +kernel
theorem dX4_smallestRingWith_77 : decode cX4_smallestRingWith 77 = .ok (.if_icmp .ne 7, 3) := by decide +kernel
theorem dX4_smallestRingWith_80 : decode cX4_smallestRingWith 80 = .ok (.iload 5, 2) := by decide +kernel
theorem dX4_smallestRingWith_82 : decode cX4_smallestRingWith 82 = .ok (.istore 4, 2) := by decide +kernel
theorem dX4_smallestRingWith_84 : decode cX4_smallestRingWith 84 = .ok (.iinc 5 1, 3) := by decide +kernel
theorem dX4_smallestRingWith_87 : decode cX4_smallestRingWith 87 = .ok (.goto (-75), 3) := by decide +kernel
theorem dX4_smallestRingWith_90 : decode cX4_smallestRingWith 90 = .ok (.iload 4, 2) := by decide +kernel
theorem dX4_smallestRingWith_92 : decode cX4_smallestRingWith 92 = .ok (.ireturn, 1) := by decide +kernel
theorem dX4_fewestToAnswer_0 : decode cX4_fewestToAnswer 0 = .ok (.aload_n 0, 1) := by decide +kernel
theorem dX4_fewestToAnswer_1 : decode cX4_fewestToAnswer 1 = .ok (.aload_n 1, 1) := by decide +kernel
theorem dX4_fewestToAnswer_2 : decode cX4_fewestToAnswer 2 = .ok (.iload_n 2, 1) := by decide +kernel
theorem dX4_fewestToAnswer_3 : decode cX4_fewestToAnswer 3 = .ok (.invokevirtual 70, 3) := by decide +kernel
theorem dX4_fewestToAnswer_6 : decode cX4_fewestToAnswer 6 = .ok (.aload_n 1, 1) := by decide +kernel
theorem dX4_fewestToAnswer_7 : decode cX4_fewestToAnswer 7 = .ok (.invokevirtual 74, 3) := by decide +kernel
theorem dX4_fewestToAnswer_10 : decode cX4_fewestToAnswer 10 = .ok (.istore 4, 2) := by decide +kernel
theorem dX4_fewestToAnswer_12 : decode cX4_fewestToAnswer 12 = .ok (.aload_n 1, 1) := by decide +kernel
theorem dX4_fewestToAnswer_13 : decode cX4_fewestToAnswer 13 = .ok (.iload_n 2, 1) := by decide +kernel
theorem dX4_fewestToAnswer_14 : decode cX4_fewestToAnswer 14 = .ok (.aload_n 1, 1) := by decide +kernel
theorem dX4_fewestToAnswer_15 : decode cX4_fewestToAnswer 15 = .ok (.invokevirtual 34, 3) := by decide +kernel
theorem dX4_fewestToAnswer_18 : decode cX4_fewestToAnswer 18 = .ok (.invokevirtual 77, 3) := by decide +kernel
theorem dX4_fewestToAnswer_21 : decode cX4_fewestToAnswer 21 = .ok (.istore 5, 2) := by decide +kernel
theorem dX4_fewestToAnswer_23 : decode cX4_fewestToAnswer 23 = .ok (.iload 4, 2) := by decide +kernel
theorem dX4_fewestToAnswer_25 : decode cX4_fewestToAnswer 25 = .ok (.istore 6, 2) := by decide +kernel
theorem dX4_fewestToAnswer_27 : decode cX4_fewestToAnswer 27 = .ok (.iconst 0, 1) := by decide +kernel
theorem dX4_fewestToAnswer_28 : decode cX4_fewestToAnswer 28 = .ok (.istore 7, 2) := by decide +kernel
theorem dX4_fewestToAnswer_30 : decode cX4_fewestToAnswer 30 = .ok (.iload 7, 2) := by decide +kernel
theorem dX4_fewestToAnswer_32 : decode cX4_fewestToAnswer 32 = .ok (.aload_n 1, 1) := by decide +kernel
theorem dX4_fewestToAnswer_33 : decode cX4_fewestToAnswer 33 = .ok (.invokestatic 58, 3) := by decide +kernel
theorem dX4_fewestToAnswer_36 : decode cX4_fewestToAnswer 36 = .ok (.if_icmp .ge 62, 3) := by decide +kernel
theorem dX4_fewestToAnswer_39 : decode cX4_fewestToAnswer 39 = .ok (.iload 7, 2) := by decide +kernel
theorem dX4_fewestToAnswer_41 : decode cX4_fewestToAnswer 41 = .ok (.invokestatic 65, 3) := by decide +kernel
theorem dX4_fewestToAnswer_44 : decode cX4_fewestToAnswer 44 = .ok (.iload 6, 2) := by decide +kernel
theorem dX4_fewestToAnswer_46 : decode cX4_fewestToAnswer 46 = .ok (.invokestatic 65, 3) := by decide +kernel
theorem dX4_fewestToAnswer_49 : decode cX4_fewestToAnswer 49 = .ok (.if_icmp .ge 7, 3) := by decide +kernel
theorem dX4_fewestToAnswer_52 : decode cX4_fewestToAnswer 52 = .ok (.iconst 1, 1) := by decide +kernel
theorem dX4_fewestToAnswer_53 : decode cX4_fewestToAnswer 53 = .ok (.goto 4, 3) := by decide +kernel
theorem dX4_fewestToAnswer_56 : decode cX4_fewestToAnswer 56 = .ok (.iconst 0, 1) := by decide +kernel
theorem dX4_fewestToAnswer_57 : decode cX4_fewestToAnswer 57 = .ok (.istore 8, 2) := by decide +kernel
theorem dX4_fewestToAnswer_59 : decode cX4_fewestToAnswer 59 = .ok (.iload 8, 2) := by decide +kernel
theorem dX4_fewestToAnswer_61 : decode cX4_fewestToAnswer 61 = .ok (.ifCond .eq 31, 3) := by decide +kernel
theorem dX4_fewestToAnswer_64 : decode cX4_fewestToAnswer 64 = .ok (.iload 7, 2) := by decide +kernel
theorem dX4_fewestToAnswer_66 : decode cX4_fewestToAnswer 66 = .ok (.iload 4, 2) := by decide +kernel
theorem dX4_fewestToAnswer_68 : decode cX4_fewestToAnswer 68 = .ok (.invokestatic 61, 3) := by decide +kernel
theorem dX4_fewestToAnswer_71 : decode cX4_fewestToAnswer 71 = .ok (.ifCond .eq 21, 3) := by decide +kernel
theorem dX4_fewestToAnswer_74 : decode cX4_fewestToAnswer 74 = .ok (.iload 5, 2) := by decide +kernel
theorem dX4_fewestToAnswer_76 : decode cX4_fewestToAnswer 76 = .ok (.aload_n 0, 1) := by decide +kernel
theorem dX4_fewestToAnswer_77 : decode cX4_fewestToAnswer 77 = .ok (.getfield 15, 3) := by decide +kernel
theorem dX4_fewestToAnswer_80 : decode cX4_fewestToAnswer 80 = .ok (.iload 7, 2) := by decide +kernel
theorem dX4_fewestToAnswer_82 : decode cX4_fewestToAnswer 82 = .ok (.iaload, 1) := by decide +kernel
theorem dX4_fewestToAnswer_83 : decode cX4_fewestToAnswer 83 = .ok (.isub, 1) := by decide +kernel
theorem dX4_fewestToAnswer_84 : decode cX4_fewestToAnswer 84 = .ok (.iload_n 3, 1) := by decide +kernel
theorem dX4_fewestToAnswer_85 : decode cX4_fewestToAnswer 85 = .ok (.if_icmp .gt 7, 3) := by decide +kernel
theorem dX4_fewestToAnswer_88 : decode cX4_fewestToAnswer 88 = .ok (.iload 7, 2) := by decide +kernel
theorem dX4_fewestToAnswer_90 : decode cX4_fewestToAnswer 90 = .ok (.istore 6, 2) := by decide +kernel
theorem dX4_fewestToAnswer_92 : decode cX4_fewestToAnswer 92 = .ok (.iinc 7 1, 3) := by decide +kernel
theorem dX4_fewestToAnswer_95 : decode cX4_fewestToAnswer 95 = .ok (.goto (-65), 3) := by decide +kernel
theorem dX4_fewestToAnswer_98 : decode cX4_fewestToAnswer 98 = .ok (.iload 6, 2) := by decide +kernel
theorem dX4_fewestToAnswer_100 : decode cX4_fewestToAnswer 100 = .ok (.ireturn, 1) := by decide +kernel
theorem dX4_afterTurns_0 : decode cX4_afterTurns 0 = .ok (.aload_n 0, 1) := by decide +kernel
theorem dX4_afterTurns_1 : decode cX4_afterTurns 1 = .ok (.aload_n 1, 1) := by decide +kernel
theorem dX4_afterTurns_2 : decode cX4_afterTurns 2 = .ok (.iload_n 2, 1) := by decide +kernel
theorem dX4_afterTurns_3 : decode cX4_afterTurns 3 = .ok (.invokevirtual 70, 3) := by decide +kernel
theorem dX4_afterTurns_6 : decode cX4_afterTurns 6 = .ok (.aload_n 1, 1) := by decide +kernel
theorem dX4_afterTurns_7 : decode cX4_afterTurns 7 = .ok (.invokevirtual 74, 3) := by decide +kernel
theorem dX4_afterTurns_10 : decode cX4_afterTurns 10 = .ok (.istore 4, 2) := by decide +kernel
theorem dX4_afterTurns_12 : decode cX4_afterTurns 12 = .ok (.aload_n 1, 1) := by decide +kernel
theorem dX4_afterTurns_13 : decode cX4_afterTurns 13 = .ok (.invokestatic 58, 3) := by decide +kernel
theorem dX4_afterTurns_16 : decode cX4_afterTurns 16 = .ok (.istore 5, 2) := by decide +kernel
theorem dX4_afterTurns_18 : decode cX4_afterTurns 18 = .ok (.iload_n 3, 1) := by decide +kernel
theorem dX4_afterTurns_19 : decode cX4_afterTurns 19 = .ok (.iconst 4, 1) := by decide +kernel
theorem dX4_afterTurns_20 : decode cX4_afterTurns 20 = .ok (.invokestatic 24, 3) := by decide +kernel
theorem dX4_afterTurns_23 : decode cX4_afterTurns 23 = .ok (.iconst 1, 1) := by decide +kernel
theorem dX4_afterTurns_24 : decode cX4_afterTurns 24 = .ok (.isub, 1) := by decide +kernel
theorem dX4_afterTurns_25 : decode cX4_afterTurns 25 = .ok (.istore 6, 2) := by decide +kernel
theorem dX4_afterTurns_27 : decode cX4_afterTurns 27 = .ok (.iload 6, 2) := by decide +kernel
theorem dX4_afterTurns_29 : decode cX4_afterTurns 29 = .ok (.ifCond .lt 39, 3) := by decide +kernel
theorem dX4_afterTurns_32 : decode cX4_afterTurns 32 = .ok (.iload 6, 2) := by decide +kernel
theorem dX4_afterTurns_34 : decode cX4_afterTurns 34 = .ok (.iconst 2, 1) := by decide +kernel
theorem dX4_afterTurns_35 : decode cX4_afterTurns 35 = .ok (.irem, 1) := by decide +kernel
theorem dX4_afterTurns_36 : decode cX4_afterTurns 36 = .ok (.ifCond .ne 16, 3) := by decide +kernel
theorem dX4_afterTurns_39 : decode cX4_afterTurns 39 = .ok (.aload_n 0, 1) := by decide +kernel
theorem dX4_afterTurns_40 : decode cX4_afterTurns 40 = .ok (.iload 5, 2) := by decide +kernel
theorem dX4_afterTurns_42 : decode cX4_afterTurns 42 = .ok (.iload 4, 2) := by decide +kernel
theorem dX4_afterTurns_44 : decode cX4_afterTurns 44 = .ok (.iload 6, 2) := by decide +kernel
theorem dX4_afterTurns_46 : decode cX4_afterTurns 46 = .ok (.invokevirtual 80, 3) := by decide +kernel
theorem dX4_afterTurns_49 : decode cX4_afterTurns 49 = .ok (.goto 13, 3) := by decide +kernel
theorem dX4_afterTurns_52 : decode cX4_afterTurns 52 = .ok (.aload_n 0, 1) := by decide +kernel
theorem dX4_afterTurns_53 : decode cX4_afterTurns 53 = .ok (.iload 5, 2) := by decide +kernel
theorem dX4_afterTurns_55 : decode cX4_afterTurns 55 = .ok (.iload 4, 2) := by decide +kernel
theorem dX4_afterTurns_57 : decode cX4_afterTurns 57 = .ok (.iload 6, 2) := by decide +kernel
theorem dX4_afterTurns_59 : decode cX4_afterTurns 59 = .ok (.invokevirtual 84, 3) := by decide +kernel
theorem dX4_afterTurns_62 : decode cX4_afterTurns 62 = .ok (.iinc 6 (-1), 3) := by decide +kernel
theorem dX4_afterTurns_65 : decode cX4_afterTurns 65 = .ok (.goto (-38), 3) := by decide +kernel
theorem dX4_afterTurns_68 : decode cX4_afterTurns 68 = .ok (.iload 4, 2) := by decide +kernel
theorem dX4_afterTurns_70 : decode cX4_afterTurns 70 = .ok (.ifCond .lt 23, 3) := by decide +kernel
theorem dX4_afterTurns_73 : decode cX4_afterTurns 73 = .ok (.iload 4, 2) := by decide +kernel
theorem dX4_afterTurns_75 : decode cX4_afterTurns 75 = .ok (.aload_n 0, 1) := by decide +kernel
theorem dX4_afterTurns_76 : decode cX4_afterTurns 76 = .ok (.getfield 15, 3) := by decide +kernel
theorem dX4_afterTurns_79 : decode cX4_afterTurns 79 = .ok (.arraylength, 1) := by decide +kernel
theorem dX4_afterTurns_80 : decode cX4_afterTurns 80 = .ok (.if_icmp .ge 13, 3) := by decide +kernel
theorem dX4_afterTurns_83 : decode cX4_afterTurns 83 = .ok (.aload_n 0, 1) := by decide +kernel
theorem dX4_afterTurns_84 : decode cX4_afterTurns 84 = .ok (.getfield 15, 3) := by decide +kernel
theorem dX4_afterTurns_87 : decode cX4_afterTurns 87 = .ok (.iload 4, 2) := by decide +kernel
theorem dX4_afterTurns_89 : decode cX4_afterTurns 89 = .ok (.iaload, 1) := by decide +kernel
theorem dX4_afterTurns_90 : decode cX4_afterTurns 90 = .ok (.goto 4, 3) := by decide +kernel
theorem dX4_afterTurns_93 : decode cX4_afterTurns 93 = .ok (.iconst 0, 1) := by decide +kernel
theorem dX4_afterTurns_94 : decode cX4_afterTurns 94 = .ok (.ireturn, 1) := by decide +kernel
theorem dX4_letOneAnswer_0 : decode cX4_letOneAnswer 0 = .ok (.iload_n 1, 1) := by decide +kernel
theorem dX4_letOneAnswer_1 : decode cX4_letOneAnswer 1 = .ok (.iconst 1, 1) := by decide +kernel
theorem dX4_letOneAnswer_2 : decode cX4_letOneAnswer 2 = .ok (.isub, 1) := by decide +kernel
theorem dX4_letOneAnswer_3 : decode cX4_letOneAnswer 3 = .ok (.istore 4, 2) := by decide +kernel
theorem dX4_letOneAnswer_5 : decode cX4_letOneAnswer 5 = .ok (.iload 4, 2) := by decide +kernel
theorem dX4_letOneAnswer_7 : decode cX4_letOneAnswer 7 = .ok (.ifCond .lt 74, 3) := by decide +kernel
theorem dX4_letOneAnswer_10 : decode cX4_letOneAnswer 10 = .ok (.iload 4, 2) := by decide +kernel
theorem dX4_letOneAnswer_12 : decode cX4_letOneAnswer 12 = .ok (.iload_n 2, 1) := by decide +kernel
theorem dX4_letOneAnswer_13 : decode cX4_letOneAnswer 13 = .ok (.ixor, 1) := by decide +kernel
theorem dX4_letOneAnswer_14 : decode cX4_letOneAnswer 14 = .ok (.invokestatic 65, 3) := by decide +kernel
theorem dX4_letOneAnswer_17 : decode cX4_letOneAnswer 17 = .ok (.iload_n 3, 1) := by decide +kernel
theorem dX4_letOneAnswer_18 : decode cX4_letOneAnswer 18 = .ok (.if_icmp .gt 57, 3) := by decide +kernel
theorem dX4_letOneAnswer_21 : decode cX4_letOneAnswer 21 = .ok (.iconst 1, 1) := by decide +kernel
theorem dX4_letOneAnswer_22 : decode cX4_letOneAnswer 22 = .ok (.istore 5, 2) := by decide +kernel
theorem dX4_letOneAnswer_24 : decode cX4_letOneAnswer 24 = .ok (.iload 5, 2) := by decide +kernel
theorem dX4_letOneAnswer_26 : decode cX4_letOneAnswer 26 = .ok (.iload_n 1, 1) := by decide +kernel
theorem dX4_letOneAnswer_27 : decode cX4_letOneAnswer 27 = .ok (.if_icmp .ge 48, 3) := by decide +kernel
theorem dX4_letOneAnswer_30 : decode cX4_letOneAnswer 30 = .ok (.iload 4, 2) := by decide +kernel
theorem dX4_letOneAnswer_32 : decode cX4_letOneAnswer 32 = .ok (.iload 5, 2) := by decide +kernel
theorem dX4_letOneAnswer_34 : decode cX4_letOneAnswer 34 = .ok (.iand, 1) := by decide +kernel
theorem dX4_letOneAnswer_35 : decode cX4_letOneAnswer 35 = .ok (.ifCond .eq 30, 3) := by decide +kernel
theorem dX4_letOneAnswer_38 : decode cX4_letOneAnswer 38 = .ok (.aload_n 0, 1) := by decide +kernel
theorem dX4_letOneAnswer_39 : decode cX4_letOneAnswer 39 = .ok (.getfield 15, 3) := by decide +kernel
theorem dX4_letOneAnswer_42 : decode cX4_letOneAnswer 42 = .ok (.iload 4, 2) := by decide +kernel
theorem dX4_letOneAnswer_44 : decode cX4_letOneAnswer 44 = .ok (.aload_n 0, 1) := by decide +kernel
theorem dX4_letOneAnswer_45 : decode cX4_letOneAnswer 45 = .ok (.getfield 15, 3) := by decide +kernel
theorem dX4_letOneAnswer_48 : decode cX4_letOneAnswer 48 = .ok (.iload 4, 2) := by decide +kernel
theorem dX4_letOneAnswer_50 : decode cX4_letOneAnswer 50 = .ok (.iaload, 1) := by decide +kernel
theorem dX4_letOneAnswer_51 : decode cX4_letOneAnswer 51 = .ok (.aload_n 0, 1) := by decide +kernel
theorem dX4_letOneAnswer_52 : decode cX4_letOneAnswer 52 = .ok (.getfield 15, 3) := by decide +kernel
theorem dX4_letOneAnswer_55 : decode cX4_letOneAnswer 55 = .ok (.iload 4, 2) := by decide +kernel
theorem dX4_letOneAnswer_57 : decode cX4_letOneAnswer 57 = .ok (.iload 5, 2) := by decide +kernel
theorem dX4_letOneAnswer_59 : decode cX4_letOneAnswer 59 = .ok (.isub, 1) := by decide +kernel
theorem dX4_letOneAnswer_60 : decode cX4_letOneAnswer 60 = .ok (.iaload, 1) := by decide +kernel
theorem dX4_letOneAnswer_61 : decode cX4_letOneAnswer 61 = .ok (.invokestatic 24, 3) := by decide +kernel
theorem dX4_letOneAnswer_64 : decode cX4_letOneAnswer 64 = .ok (.iastore, 1) := by decide +kernel
theorem dX4_letOneAnswer_65 : decode cX4_letOneAnswer 65 = .ok (.iload 5, 2) := by decide +kernel
theorem dX4_letOneAnswer_67 : decode cX4_letOneAnswer 67 = .ok (.iload 5, 2) := by decide +kernel
theorem dX4_letOneAnswer_69 : decode cX4_letOneAnswer 69 = .ok (.iadd, 1) := by decide +kernel
theorem dX4_letOneAnswer_70 : decode cX4_letOneAnswer 70 = .ok (.istore 5, 2) := by decide +kernel
theorem dX4_letOneAnswer_72 : decode cX4_letOneAnswer 72 = .ok (.goto (-48), 3) := by decide +kernel
theorem dX4_letOneAnswer_75 : decode cX4_letOneAnswer 75 = .ok (.iinc 4 (-1), 3) := by decide +kernel
theorem dX4_letOneAnswer_78 : decode cX4_letOneAnswer 78 = .ok (.goto (-73), 3) := by decide +kernel
theorem dX4_letOneAnswer_81 : decode cX4_letOneAnswer 81 = .ok (.return_, 1) := by decide +kernel
theorem dX4_letOneLight_0 : decode cX4_letOneLight 0 = .ok (.iconst 0, 1) := by decide +kernel
theorem dX4_letOneLight_1 : decode cX4_letOneLight 1 = .ok (.istore 4, 2) := by decide +kernel
theorem dX4_letOneLight_3 : decode cX4_letOneLight 3 = .ok (.iload 4, 2) := by decide +kernel
theorem dX4_letOneLight_5 : decode cX4_letOneLight 5 = .ok (.iload_n 1, 1) := by decide +kernel
theorem dX4_letOneLight_6 : decode cX4_letOneLight 6 = .ok (.if_icmp .ge 74, 3) := by decide +kernel
theorem dX4_letOneLight_9 : decode cX4_letOneLight 9 = .ok (.iload 4, 2) := by decide +kernel
theorem dX4_letOneLight_11 : decode cX4_letOneLight 11 = .ok (.iload_n 2, 1) := by decide +kernel
theorem dX4_letOneLight_12 : decode cX4_letOneLight 12 = .ok (.ixor, 1) := by decide +kernel
theorem dX4_letOneLight_13 : decode cX4_letOneLight 13 = .ok (.invokestatic 65, 3) := by decide +kernel
theorem dX4_letOneLight_16 : decode cX4_letOneLight 16 = .ok (.iload_n 3, 1) := by decide +kernel
theorem dX4_letOneLight_17 : decode cX4_letOneLight 17 = .ok (.if_icmp .gt 57, 3) := by decide +kernel
theorem dX4_letOneLight_20 : decode cX4_letOneLight 20 = .ok (.iconst 1, 1) := by decide +kernel
theorem dX4_letOneLight_21 : decode cX4_letOneLight 21 = .ok (.istore 5, 2) := by decide +kernel
theorem dX4_letOneLight_23 : decode cX4_letOneLight 23 = .ok (.iload 5, 2) := by decide +kernel
theorem dX4_letOneLight_25 : decode cX4_letOneLight 25 = .ok (.iload_n 1, 1) := by decide +kernel
theorem dX4_letOneLight_26 : decode cX4_letOneLight 26 = .ok (.if_icmp .ge 48, 3) := by decide +kernel
theorem dX4_letOneLight_29 : decode cX4_letOneLight 29 = .ok (.iload 4, 2) := by decide +kernel
theorem dX4_letOneLight_31 : decode cX4_letOneLight 31 = .ok (.iload 5, 2) := by decide +kernel
theorem dX4_letOneLight_33 : decode cX4_letOneLight 33 = .ok (.iand, 1) := by decide +kernel
theorem dX4_letOneLight_34 : decode cX4_letOneLight 34 = .ok (.ifCond .ne 30, 3) := by decide +kernel
theorem dX4_letOneLight_37 : decode cX4_letOneLight 37 = .ok (.aload_n 0, 1) := by decide +kernel
theorem dX4_letOneLight_38 : decode cX4_letOneLight 38 = .ok (.getfield 15, 3) := by decide +kernel
theorem dX4_letOneLight_41 : decode cX4_letOneLight 41 = .ok (.iload 4, 2) := by decide +kernel
theorem dX4_letOneLight_43 : decode cX4_letOneLight 43 = .ok (.aload_n 0, 1) := by decide +kernel
theorem dX4_letOneLight_44 : decode cX4_letOneLight 44 = .ok (.getfield 15, 3) := by decide +kernel
theorem dX4_letOneLight_47 : decode cX4_letOneLight 47 = .ok (.iload 4, 2) := by decide +kernel
theorem dX4_letOneLight_49 : decode cX4_letOneLight 49 = .ok (.iaload, 1) := by decide +kernel
theorem dX4_letOneLight_50 : decode cX4_letOneLight 50 = .ok (.aload_n 0, 1) := by decide +kernel
theorem dX4_letOneLight_51 : decode cX4_letOneLight 51 = .ok (.getfield 15, 3) := by decide +kernel
theorem dX4_letOneLight_54 : decode cX4_letOneLight 54 = .ok (.iload 4, 2) := by decide +kernel
theorem dX4_letOneLight_56 : decode cX4_letOneLight 56 = .ok (.iload 5, 2) := by decide +kernel
theorem dX4_letOneLight_58 : decode cX4_letOneLight 58 = .ok (.iadd, 1) := by decide +kernel
theorem dX4_letOneLight_59 : decode cX4_letOneLight 59 = .ok (.iaload, 1) := by decide +kernel
theorem dX4_letOneLight_60 : decode cX4_letOneLight 60 = .ok (.invokestatic 87, 3) := by decide +kernel
theorem dX4_letOneLight_63 : decode cX4_letOneLight 63 = .ok (.iastore, 1) := by decide +kernel
theorem dX4_letOneLight_64 : decode cX4_letOneLight 64 = .ok (.iload 5, 2) := by decide +kernel
theorem dX4_letOneLight_66 : decode cX4_letOneLight 66 = .ok (.iload 5, 2) := by decide +kernel
theorem dX4_letOneLight_68 : decode cX4_letOneLight 68 = .ok (.iadd, 1) := by decide +kernel
theorem dX4_letOneLight_69 : decode cX4_letOneLight 69 = .ok (.istore 5, 2) := by decide +kernel
theorem dX4_letOneLight_71 : decode cX4_letOneLight 71 = .ok (.goto (-48), 3) := by decide +kernel
theorem dX4_letOneLight_74 : decode cX4_letOneLight 74 = .ok (.iinc 4 1, 3) := by decide +kernel
theorem dX4_letOneLight_77 : decode cX4_letOneLight 77 = .ok (.goto (-74), 3) := by decide +kernel
theorem dX4_letOneLight_80 : decode cX4_letOneLight 80 = .ok (.return_, 1) := by decide +kernel
theorem dX4_waysToBeDark_0 : decode cX4_waysToBeDark 0 = .ok (.aload_n 0, 1) := by decide +kernel
theorem dX4_waysToBeDark_1 : decode cX4_waysToBeDark 1 = .ok (.aload_n 1, 1) := by decide +kernel
theorem dX4_waysToBeDark_2 : decode cX4_waysToBeDark 2 = .ok (.iload_n 2, 1) := by decide +kernel
theorem dX4_waysToBeDark_3 : decode cX4_waysToBeDark 3 = .ok (.invokevirtual 70, 3) := by decide +kernel
theorem dX4_waysToBeDark_6 : decode cX4_waysToBeDark 6 = .ok (.aload_n 1, 1) := by decide +kernel
theorem dX4_waysToBeDark_7 : decode cX4_waysToBeDark 7 = .ok (.invokevirtual 74, 3) := by decide +kernel
theorem dX4_waysToBeDark_10 : decode cX4_waysToBeDark 10 = .ok (.istore 5, 2) := by decide +kernel
theorem dX4_waysToBeDark_12 : decode cX4_waysToBeDark 12 = .ok (.lconst 0, 1) := by decide +kernel
theorem dX4_waysToBeDark_13 : decode cX4_waysToBeDark 13 = .ok (.lstore 6, 2) := by decide +kernel
theorem dX4_waysToBeDark_15 : decode cX4_waysToBeDark 15 = .ok (.iconst 0, 1) := by decide +kernel
theorem dX4_waysToBeDark_16 : decode cX4_waysToBeDark 16 = .ok (.istore 8, 2) := by decide +kernel
theorem dX4_waysToBeDark_18 : decode cX4_waysToBeDark 18 = .ok (.iload 8, 2) := by decide +kernel
theorem dX4_waysToBeDark_20 : decode cX4_waysToBeDark 20 = .ok (.aload_n 1, 1) := by decide +kernel
theorem dX4_waysToBeDark_21 : decode cX4_waysToBeDark 21 = .ok (.invokestatic 58, 3) := by decide +kernel
theorem dX4_waysToBeDark_24 : decode cX4_waysToBeDark 24 = .ok (.if_icmp .ge 66, 3) := by decide +kernel
theorem dX4_waysToBeDark_27 : decode cX4_waysToBeDark 27 = .ok (.iload 8, 2) := by decide +kernel
theorem dX4_waysToBeDark_29 : decode cX4_waysToBeDark 29 = .ok (.iload 5, 2) := by decide +kernel
theorem dX4_waysToBeDark_31 : decode cX4_waysToBeDark 31 = .ok (.invokestatic 61, 3) := by decide +kernel
theorem dX4_waysToBeDark_34 : decode cX4_waysToBeDark 34 = .ok (.ifCond .eq 50, 3) := by decide +kernel
theorem dX4_waysToBeDark_37 : decode cX4_waysToBeDark 37 = .ok (.aload_n 0, 1) := by decide +kernel
theorem dX4_waysToBeDark_38 : decode cX4_waysToBeDark 38 = .ok (.getfield 15, 3) := by decide +kernel
theorem dX4_waysToBeDark_41 : decode cX4_waysToBeDark 41 = .ok (.iload 8, 2) := by decide +kernel
theorem dX4_waysToBeDark_43 : decode cX4_waysToBeDark 43 = .ok (.iaload, 1) := by decide +kernel
theorem dX4_waysToBeDark_44 : decode cX4_waysToBeDark 44 = .ok (.iload_n 3, 1) := by decide +kernel
theorem dX4_waysToBeDark_45 : decode cX4_waysToBeDark 45 = .ok (.if_icmp .gt 39, 3) := by decide +kernel
theorem dX4_waysToBeDark_48 : decode cX4_waysToBeDark 48 = .ok (.iload 5, 2) := by decide +kernel
theorem dX4_waysToBeDark_50 : decode cX4_waysToBeDark 50 = .ok (.iload 8, 2) := by decide +kernel
theorem dX4_waysToBeDark_52 : decode cX4_waysToBeDark 52 = .ok (.isub, 1) := by decide +kernel
theorem dX4_waysToBeDark_53 : decode cX4_waysToBeDark 53 = .ok (.invokestatic 65, 3) := by decide +kernel
theorem dX4_waysToBeDark_56 : decode cX4_waysToBeDark 56 = .ok (.istore 9, 2) := by decide +kernel
theorem dX4_waysToBeDark_58 : decode cX4_waysToBeDark 58 = .ok (.lload 6, 2) := by decide +kernel
theorem dX4_waysToBeDark_60 : decode cX4_waysToBeDark 60 = .ok (.iload 4, 2) := by decide +kernel
theorem dX4_waysToBeDark_62 : decode cX4_waysToBeDark 62 = .ok (.iload 9, 2) := by decide +kernel
theorem dX4_waysToBeDark_64 : decode cX4_waysToBeDark 64 = .ok (.invokestatic 90, 3) := by decide +kernel
theorem dX4_waysToBeDark_67 : decode cX4_waysToBeDark 67 = .ok (.bipush 12, 2) := by decide +kernel
theorem dX4_waysToBeDark_69 : decode cX4_waysToBeDark 69 = .ok (.iload 4, 2) := by decide +kernel
theorem dX4_waysToBeDark_71 : decode cX4_waysToBeDark 71 = .ok (.isub, 1) := by decide +kernel
theorem dX4_waysToBeDark_72 : decode cX4_waysToBeDark 72 = .ok (.iload 8, 2) := by decide +kernel
theorem dX4_waysToBeDark_74 : decode cX4_waysToBeDark 74 = .ok (.invokestatic 65, 3) := by decide +kernel
theorem dX4_waysToBeDark_77 : decode cX4_waysToBeDark 77 = .ok (.invokestatic 90, 3) := by decide +kernel
theorem dX4_waysToBeDark_80 : decode cX4_waysToBeDark 80 = .ok (.lmul, 1) := by decide +kernel
theorem dX4_waysToBeDark_81 : decode cX4_waysToBeDark 81 = .ok (.ladd, 1) := by decide +kernel
theorem dX4_waysToBeDark_82 : decode cX4_waysToBeDark 82 = .ok (.lstore 6, 2) := by decide +kernel
theorem dX4_waysToBeDark_84 : decode cX4_waysToBeDark 84 = .ok (.iinc 8 1, 3) := by decide +kernel
theorem dX4_waysToBeDark_87 : decode cX4_waysToBeDark 87 = .ok (.goto (-69), 3) := by decide +kernel
theorem dX4_waysToBeDark_90 : decode cX4_waysToBeDark 90 = .ok (.lload 6, 2) := by decide +kernel
theorem dX4_waysToBeDark_92 : decode cX4_waysToBeDark 92 = .ok (.lreturn, 1) := by decide +kernel
theorem dX4_power_0 : decode cX4_power 0 = .ok (.lconst 1, 1) := by decide +kernel
theorem dX4_power_1 : decode cX4_power 1 = .ok (.lstore_n 2, 1) := by decide +kernel
theorem dX4_power_2 : decode cX4_power 2 = .ok (.iconst 0, 1) := by decide +kernel
theorem dX4_power_3 : decode cX4_power 3 = .ok (.istore 4, 2) := by decide +kernel
theorem dX4_power_5 : decode cX4_power 5 = .ok (.iload 4, 2) := by decide +kernel
theorem dX4_power_7 : decode cX4_power 7 = .ok (.iload_n 1, 1) := by decide +kernel
theorem dX4_power_8 : decode cX4_power 8 = .ok (.if_icmp .ge 21, 3) := by decide +kernel
theorem dX4_power_11 : decode cX4_power 11 = .ok (.iload 4, 2) := by decide +kernel
theorem dX4_power_13 : decode cX4_power 13 = .ok (.bipush 8, 2) := by decide +kernel
theorem dX4_power_15 : decode cX4_power 15 = .ok (.if_icmp .ge 14, 3) := by decide +kernel
theorem dX4_power_18 : decode cX4_power 18 = .ok (.lload_n 2, 1) := by decide +kernel
theorem dX4_power_19 : decode cX4_power 19 = .ok (.iload_n 0, 1) := by decide +kernel
theorem dX4_power_20 : decode cX4_power 20 = .ok (.i2l, 1) := by decide +kernel
theorem dX4_power_21 : decode cX4_power 21 = .ok (.lmul, 1) := by decide +kernel
theorem dX4_power_22 : decode cX4_power 22 = .ok (.lstore_n 2, 1) := by decide +kernel
theorem dX4_power_23 : decode cX4_power 23 = .ok (.iinc 4 1, 3) := by decide +kernel
theorem dX4_power_26 : decode cX4_power 26 = .ok (.goto (-21), 3) := by decide +kernel
theorem dX4_power_29 : decode cX4_power 29 = .ok (.lload_n 2, 1) := by decide +kernel
theorem dX4_power_30 : decode cX4_power 30 = .ok (.lreturn, 1) := by decide +kernel
theorem dX5_init_0 : decode cX5_init 0 = .ok (.aload_n 0, 1) := by decide +kernel
theorem dX5_init_1 : decode cX5_init 1 = .ok (.invokespecial 1, 3) := by decide +kernel
theorem dX5_init_4 : decode cX5_init 4 = .ok (.aload_n 0, 1) := by decide +kernel
theorem dX5_init_5 : decode cX5_init 5 = .ok (.iconst (-1), 1) := by decide +kernel
theorem dX5_init_6 : decode cX5_init 6 = .ok (.putfield 9, 3) := by decide +kernel
theorem dX5_init_9 : decode cX5_init 9 = .ok (.aload_n 0, 1) := by decide +kernel
theorem dX5_init_10 : decode cX5_init 10 = .ok (.iconst 0, 1) := by decide +kernel
theorem dX5_init_11 : decode cX5_init 11 = .ok (.iload_n 1, 1) := by decide +kernel
theorem dX5_init_12 : decode cX5_init 12 = .ok (.invokestatic 13, 3) := by decide +kernel
theorem dX5_init_15 : decode cX5_init 15 = .ok (.newarray .int, 2) := by decide +kernel
theorem dX5_init_17 : decode cX5_init 17 = .ok (.putfield 19, 3) := by decide +kernel
theorem dX5_init_20 : decode cX5_init 20 = .ok (.return_, 1) := by decide +kernel
theorem dX5_room_0 : decode cX5_room 0 = .ok (.aload_n 0, 1) := by decide +kernel
theorem dX5_room_1 : decode cX5_room 1 = .ok (.getfield 19, 3) := by decide +kernel
theorem dX5_room_4 : decode cX5_room 4 = .ok (.arraylength, 1) := by decide +kernel
theorem dX5_room_5 : decode cX5_room 5 = .ok (.ireturn, 1) := by decide +kernel
theorem dX5_size_0 : decode cX5_size 0 = .ok (.aload_n 0, 1) := by decide +kernel
theorem dX5_size_1 : decode cX5_size 1 = .ok (.getfield 9, 3) := by decide +kernel
theorem dX5_size_4 : decode cX5_size 4 = .ok (.ireturn, 1) := by decide +kernel
theorem dX5_isMissing_0 : decode cX5_isMissing 0 = .ok (.aload_n 0, 1) := by decide +kernel
theorem dX5_isMissing_1 : decode cX5_isMissing 1 = .ok (.getfield 9, 3) := by decide +kernel
theorem dX5_isMissing_4 : decode cX5_isMissing 4 = .ok (.ifCond .ge 7, 3) := by decide +kernel
theorem dX5_isMissing_7 : decode cX5_isMissing 7 = .ok (.iconst 1, 1) := by decide +kernel
theorem dX5_isMissing_8 : decode cX5_isMissing 8 = .ok (.goto 4, 3) := by decide +kernel
theorem dX5_isMissing_11 : decode cX5_isMissing 11 = .ok (.iconst 0, 1) := by decide +kernel
theorem dX5_isMissing_12 : decode cX5_isMissing 12 = .ok (.ireturn, 1) := by decide +kernel
theorem dX5_remove_0 : decode cX5_remove 0 = .ok (.aload_n 0, 1) := by decide +kernel
theorem dX5_remove_1 : decode cX5_remove 1 = .ok (.iconst (-1), 1) := by decide +kernel
theorem dX5_remove_2 : decode cX5_remove 2 = .ok (.putfield 9, 3) := by decide +kernel
theorem dX5_remove_5 : decode cX5_remove 5 = .ok (.return_, 1) := by decide +kernel
theorem dX5_renew_0 : decode cX5_renew 0 = .ok (.aload_n 0, 1) := by decide +kernel
theorem dX5_renew_1 : decode cX5_renew 1 = .ok (.iconst 0, 1) := by decide +kernel
theorem dX5_renew_2 : decode cX5_renew 2 = .ok (.iload_n 1, 1) := by decide +kernel
theorem dX5_renew_3 : decode cX5_renew 3 = .ok (.aload_n 0, 1) := by decide +kernel
theorem dX5_renew_4 : decode cX5_renew 4 = .ok (.getfield 19, 3) := by decide +kernel
theorem dX5_renew_7 : decode cX5_renew 7 = .ok (.arraylength, 1) := by decide +kernel
theorem dX5_renew_8 : decode cX5_renew 8 = .ok (.invokestatic 23, 3) := by decide +kernel
theorem dX5_renew_11 : decode cX5_renew 11 = .ok (.invokestatic 13, 3) := by decide +kernel
theorem dX5_renew_14 : decode cX5_renew 14 = .ok (.putfield 9, 3) := by decide +kernel
theorem dX5_renew_17 : decode cX5_renew 17 = .ok (.iconst 0, 1) := by decide +kernel
theorem dX5_renew_18 : decode cX5_renew 18 = .ok (.istore_n 3, 1) := by decide +kernel
theorem dX5_renew_19 : decode cX5_renew 19 = .ok (.iload_n 3, 1) := by decide +kernel
theorem dX5_renew_20 : decode cX5_renew 20 = .ok (.aload_n 0, 1) := by decide +kernel
theorem dX5_renew_21 : decode cX5_renew 21 = .ok (.getfield 9, 3) := by decide +kernel
theorem dX5_renew_24 : decode cX5_renew 24 = .ok (.if_icmp .ge 16, 3) := by decide +kernel
theorem dX5_renew_27 : decode cX5_renew 27 = .ok (.aload_n 0, 1) := by decide +kernel
theorem dX5_renew_28 : decode cX5_renew 28 = .ok (.getfield 19, 3) := by decide +kernel
theorem dX5_renew_31 : decode cX5_renew 31 = .ok (.iload_n 3, 1) := by decide +kernel
theorem dX5_renew_32 : decode cX5_renew 32 = .ok (.iload_n 2, 1) := by decide +kernel
theorem dX5_renew_33 : decode cX5_renew 33 = .ok (.iastore, 1) := by decide +kernel
theorem dX5_renew_34 : decode cX5_renew 34 = .ok (.iinc 3 1, 3) := by decide +kernel
theorem dX5_renew_37 : decode cX5_renew 37 = .ok (.goto (-18), 3) := by decide +kernel
theorem dX5_renew_40 : decode cX5_renew 40 = .ok (.return_, 1) := by decide +kernel
theorem dX5_holds_0 : decode cX5_holds 0 = .ok (.iload_n 1, 1) := by decide +kernel
theorem dX5_holds_1 : decode cX5_holds 1 = .ok (.ifCond .lt 15, 3) := by decide +kernel
theorem dX5_holds_4 : decode cX5_holds 4 = .ok (.iload_n 1, 1) := by decide +kernel
theorem dX5_holds_5 : decode cX5_holds 5 = .ok (.aload_n 0, 1) := by decide +kernel
theorem dX5_holds_6 : decode cX5_holds 6 = .ok (.getfield 9, 3) := by decide +kernel
theorem dX5_holds_9 : decode cX5_holds 9 = .ok (.if_icmp .ge 7, 3) := by decide +kernel
theorem dX5_holds_12 : decode cX5_holds 12 = .ok (.iconst 1, 1) := by decide +kernel
theorem dX5_holds_13 : decode cX5_holds 13 = .ok (.goto 4, 3) := by decide +kernel
theorem dX5_holds_16 : decode cX5_holds 16 = .ok (.iconst 0, 1) := by decide +kernel
theorem dX5_holds_17 : decode cX5_holds 17 = .ok (.ireturn, 1) := by decide +kernel
theorem dX5_get_0 : decode cX5_get 0 = .ok (.aload_n 0, 1) := by decide +kernel
theorem dX5_get_1 : decode cX5_get 1 = .ok (.iload_n 1, 1) := by decide +kernel
theorem dX5_get_2 : decode cX5_get 2 = .ok (.invokevirtual 26, 3) := by decide +kernel
theorem dX5_get_5 : decode cX5_get 5 = .ok (.ifCond .eq 12, 3) := by decide +kernel
theorem dX5_get_8 : decode cX5_get 8 = .ok (.aload_n 0, 1) := by decide +kernel
theorem dX5_get_9 : decode cX5_get 9 = .ok (.getfield 19, 3) := by decide +kernel
theorem dX5_get_12 : decode cX5_get 12 = .ok (.iload_n 1, 1) := by decide +kernel
theorem dX5_get_13 : decode cX5_get 13 = .ok (.iaload, 1) := by decide +kernel
theorem dX5_get_14 : decode cX5_get 14 = .ok (.goto 4, 3) := by decide +kernel
theorem dX5_get_17 : decode cX5_get 17 = .ok (.iconst 0, 1) := by decide +kernel
theorem dX5_get_18 : decode cX5_get 18 = .ok (.ireturn, 1) := by decide +kernel
theorem dX5_set_0 : decode cX5_set 0 = .ok (.aload_n 0, 1) := by decide +kernel
theorem dX5_set_1 : decode cX5_set 1 = .ok (.iload_n 1, 1) := by decide +kernel
theorem dX5_set_2 : decode cX5_set 2 = .ok (.invokevirtual 26, 3) := by decide +kernel
theorem dX5_set_5 : decode cX5_set 5 = .ok (.ifCond .eq 10, 3) := by decide +kernel
theorem dX5_set_8 : decode cX5_set 8 = .ok (.aload_n 0, 1) := by decide +kernel
theorem dX5_set_9 : decode cX5_set 9 = .ok (.getfield 19, 3) := by decide +kernel
theorem dX5_set_12 : decode cX5_set 12 = .ok (.iload_n 1, 1) := by decide +kernel
theorem dX5_set_13 : decode cX5_set 13 = .ok (.iload_n 2, 1) := by decide +kernel
theorem dX5_set_14 : decode cX5_set 14 = .ok (.iastore, 1) := by decide +kernel
theorem dX5_set_15 : decode cX5_set 15 = .ok (.return_, 1) := by decide +kernel
theorem dX5_holdsRun_0 : decode cX5_holdsRun 0 = .ok (.aload_n 0, 1) := by decide +kernel
theorem dX5_holdsRun_1 : decode cX5_holdsRun 1 = .ok (.getfield 9, 3) := by decide +kernel
theorem dX5_holdsRun_4 : decode cX5_holdsRun 4 = .ok (.ifCond .lt 25, 3) := by decide +kernel
theorem dX5_holdsRun_7 : decode cX5_holdsRun 7 = .ok (.iload_n 2, 1) := by decide +kernel
theorem dX5_holdsRun_8 : decode cX5_holdsRun 8 = .ok (.ifCond .lt 21, 3) := by decide +kernel
theorem dX5_holdsRun_11 : decode cX5_holdsRun 11 = .ok (.iload_n 1, 1) := by decide +kernel
theorem dX5_holdsRun_12 : decode cX5_holdsRun 12 = .ok (.ifCond .lt 17, 3) := by decide +kernel
theorem dX5_holdsRun_15 : decode cX5_holdsRun 15 = .ok (.iload_n 1, 1) := by decide +kernel
theorem dX5_holdsRun_16 : decode cX5_holdsRun 16 = .ok (.aload_n 0, 1) := by decide +kernel
theorem dX5_holdsRun_17 : decode cX5_holdsRun 17 = .ok (.getfield 9, 3) := by decide +kernel
theorem dX5_holdsRun_20 : decode cX5_holdsRun 20 = .ok (.iload_n 2, 1) := by decide +kernel
theorem dX5_holdsRun_21 : decode cX5_holdsRun 21 = .ok (.isub, 1) := by decide +kernel
theorem dX5_holdsRun_22 : decode cX5_holdsRun 22 = .ok (.if_icmp .gt 7, 3) := by decide +kernel
theorem dX5_holdsRun_25 : decode cX5_holdsRun 25 = .ok (.iconst 1, 1) := by decide +kernel
theorem dX5_holdsRun_26 : decode cX5_holdsRun 26 = .ok (.goto 4, 3) := by decide +kernel
theorem dX5_holdsRun_29 : decode cX5_holdsRun 29 = .ok (.iconst 0, 1) := by decide +kernel
theorem dX5_holdsRun_30 : decode cX5_holdsRun 30 = .ok (.ireturn, 1) := by decide +kernel
theorem dX5_takeRun_0 : decode cX5_takeRun 0 = .ok (.aload_n 2, 1) := by decide +kernel
theorem dX5_takeRun_1 : decode cX5_takeRun 1 = .ok (.ifnull 38, 3) := by decide +kernel
theorem dX5_takeRun_4 : decode cX5_takeRun 4 = .ok (.aload_n 2, 1) := by decide +kernel
theorem dX5_takeRun_5 : decode cX5_takeRun 5 = .ok (.iload_n 3, 1) := by decide +kernel
theorem dX5_takeRun_6 : decode cX5_takeRun 6 = .ok (.iload 4, 2) := by decide +kernel
theorem dX5_takeRun_8 : decode cX5_takeRun 8 = .ok (.invokevirtual 30, 3) := by decide +kernel
theorem dX5_takeRun_11 : decode cX5_takeRun 11 = .ok (.ifCond .eq 28, 3) := by decide +kernel
theorem dX5_takeRun_14 : decode cX5_takeRun 14 = .ok (.aload_n 0, 1) := by decide +kernel
theorem dX5_takeRun_15 : decode cX5_takeRun 15 = .ok (.iload_n 1, 1) := by decide +kernel
theorem dX5_takeRun_16 : decode cX5_takeRun 16 = .ok (.iload 4, 2) := by decide +kernel
theorem dX5_takeRun_18 : decode cX5_takeRun 18 = .ok (.invokevirtual 30, 3) := by decide +kernel
theorem dX5_takeRun_21 : decode cX5_takeRun 21 = .ok (.ifCond .eq 18, 3) := by decide +kernel
theorem dX5_takeRun_24 : decode cX5_takeRun 24 = .ok (.aload_n 2, 1) := by decide +kernel
theorem dX5_takeRun_25 : decode cX5_takeRun 25 = .ok (.getfield 19, 3) := by decide +kernel
theorem dX5_takeRun_28 : decode cX5_takeRun 28 = .ok (.iload_n 3, 1) := by decide +kernel
theorem dX5_takeRun_29 : decode cX5_takeRun 29 = .ok (.aload_n 0, 1) := by decide +kernel
theorem dX5_takeRun_30 : decode cX5_takeRun 30 = .ok (.getfield 19, 3) := by decide +kernel
theorem dX5_takeRun_33 : decode cX5_takeRun 33 = .ok (.iload_n 1, 1) := by decide +kernel
theorem dX5_takeRun_34 : decode cX5_takeRun 34 = .ok (.iload 4, 2) := by decide +kernel
theorem dX5_takeRun_36 : decode cX5_takeRun 36 = .ok (.invokestatic 34, 3) := by decide +kernel
theorem dX5_takeRun_39 : decode cX5_takeRun 39 = .ok (.return_, 1) := by decide +kernel
theorem dX5_total_0 : decode cX5_total 0 = .ok (.lconst 0, 1) := by decide +kernel
theorem dX5_total_1 : decode cX5_total 1 = .ok (.lstore_n 1, 1) := by decide +kernel
theorem dX5_total_2 : decode cX5_total 2 = .ok (.iconst 0, 1) := by decide +kernel
theorem dX5_total_3 : decode cX5_total 3 = .ok (.istore_n 3, 1) := by decide +kernel
theorem dX5_total_4 : decode cX5_total 4 = .ok (.iload_n 3, 1) := by decide +kernel
theorem dX5_total_5 : decode cX5_total 5 = .ok (.aload_n 0, 1) := by decide +kernel
theorem dX5_total_6 : decode cX5_total 6 = .ok (.getfield 9, 3) := by decide +kernel
theorem dX5_total_9 : decode cX5_total 9 = .ok (.if_icmp .ge 19, 3) := by decide +kernel
theorem dX5_total_12 : decode cX5_total 12 = .ok (.lload_n 1, 1) := by decide +kernel
theorem dX5_total_13 : decode cX5_total 13 = .ok (.aload_n 0, 1) := by decide +kernel
theorem dX5_total_14 : decode cX5_total 14 = .ok (.getfield 19, 3) := by decide +kernel
theorem dX5_total_17 : decode cX5_total 17 = .ok (.iload_n 3, 1) := by decide +kernel
theorem dX5_total_18 : decode cX5_total 18 = .ok (.iaload, 1) := by decide +kernel
theorem dX5_total_19 : decode cX5_total 19 = .ok (.i2l, 1) := by decide +kernel
theorem dX5_total_20 : decode cX5_total 20 = .ok (.ladd, 1) := by decide +kernel
theorem dX5_total_21 : decode cX5_total 21 = .ok (.lstore_n 1, 1) := by decide +kernel
theorem dX5_total_22 : decode cX5_total 22 = .ok (.iinc 3 1, 3) := by decide +kernel
theorem dX5_total_25 : decode cX5_total 25 = .ok (.goto (-21), 3) := by decide +kernel
theorem dX5_total_28 : decode cX5_total 28 = .ok (.lload_n 1, 1) := by decide +kernel
theorem dX5_total_29 : decode cX5_total 29 = .ok (.lreturn, 1) := by decide +kernel
theorem dX6_darkest_0 : decode cX6_darkest 0 = .ok (.iconst 0, 1) := by decide +kernel
theorem dX6_darkest_1 : decode cX6_darkest 1 = .ok (.istore_n 1, 1) := by decide +kernel
theorem dX6_darkest_2 : decode cX6_darkest 2 = .ok (.iconst 0, 1) := by decide +kernel
theorem dX6_darkest_3 : decode cX6_darkest 3 = .ok (.istore_n 2, 1) := by decide +kernel
theorem dX6_darkest_4 : decode cX6_darkest 4 = .ok (.iconst 0, 1) := by decide +kernel
theorem dX6_darkest_5 : decode cX6_darkest 5 = .ok (.istore_n 3, 1) := by decide +kernel
theorem dX6_darkest_6 : decode cX6_darkest 6 = .ok (.iload_n 3, 1) := by decide +kernel
theorem dX6_darkest_7 : decode cX6_darkest 7 = .ok (.bipush 10, 2) := by decide +kernel
theorem dX6_darkest_9 : decode cX6_darkest 9 = .ok (.if_icmp .ge 68, 3) := by decide +kernel
theorem dX6_darkest_12 : decode cX6_darkest 12 = .ok (.aload_n 0, 1) := by decide +kernel
theorem dX6_darkest_13 : decode cX6_darkest 13 = .ok (.iload_n 3, 1) := by decide +kernel
theorem dX6_darkest_14 : decode cX6_darkest 14 = .ok (.aload_n 0, 1) := by decide +kernel
theorem dX6_darkest_15 : decode cX6_darkest 15 = .ok (.invokevirtual 11, 3) := by decide +kernel
theorem dX6_darkest_18 : decode cX6_darkest 18 = .ok (.invokevirtual 17, 3) := by decide +kernel
theorem dX6_darkest_21 : decode cX6_darkest 21 = .ok (.istore 4, 2) := by decide +kernel
theorem dX6_darkest_23 : decode cX6_darkest 23 = .ok (.iload_n 1, 1) := by decide +kernel
theorem dX6_darkest_24 : decode cX6_darkest 24 = .ok (.iload_n 2, 1) := by decide +kernel
theorem dX6_darkest_25 : decode cX6_darkest 25 = .ok (.sipush 3072, 3) := by decide +kernel
theorem dX6_darkest_28 : decode cX6_darkest 28 = .ok (.iadd, 1) := by decide +kernel
theorem dX6_darkest_29 : decode cX6_darkest 29 = .ok (.invokestatic 21, 3) := by decide +kernel
theorem dX6_darkest_32 : decode cX6_darkest 32 = .ok (.iload 4, 2) := by decide +kernel
theorem dX6_darkest_34 : decode cX6_darkest 34 = .ok (.sipush 1024, 3) := by decide +kernel
theorem dX6_darkest_37 : decode cX6_darkest 37 = .ok (.imul, 1) := by decide +kernel
theorem dX6_darkest_38 : decode cX6_darkest 38 = .ok (.iadd, 1) := by decide +kernel
theorem dX6_darkest_39 : decode cX6_darkest 39 = .ok (.istore 5, 2) := by decide +kernel
theorem dX6_darkest_41 : decode cX6_darkest 41 = .ok (.iload_n 2, 1) := by decide +kernel
theorem dX6_darkest_42 : decode cX6_darkest 42 = .ok (.iload_n 1, 1) := by decide +kernel
theorem dX6_darkest_43 : decode cX6_darkest 43 = .ok (.sipush 3072, 3) := by decide +kernel
theorem dX6_darkest_46 : decode cX6_darkest 46 = .ok (.iadd, 1) := by decide +kernel
theorem dX6_darkest_47 : decode cX6_darkest 47 = .ok (.invokestatic 21, 3) := by decide +kernel
theorem dX6_darkest_50 : decode cX6_darkest 50 = .ok (.iload 4, 2) := by decide +kernel
theorem dX6_darkest_52 : decode cX6_darkest 52 = .ok (.iconst 2, 1) := by decide +kernel
theorem dX6_darkest_53 : decode cX6_darkest 53 = .ok (.idiv, 1) := by decide +kernel
theorem dX6_darkest_54 : decode cX6_darkest 54 = .ok (.sipush 1024, 3) := by decide +kernel
theorem dX6_darkest_57 : decode cX6_darkest 57 = .ok (.imul, 1) := by decide +kernel
theorem dX6_darkest_58 : decode cX6_darkest 58 = .ok (.iadd, 1) := by decide +kernel
theorem dX6_darkest_59 : decode cX6_darkest 59 = .ok (.iconst 1, 1) := by decide +kernel
theorem dX6_darkest_60 : decode cX6_darkest 60 = .ok (.iload_n 3, 1) := by decide +kernel
theorem dX6_darkest_61 : decode cX6_darkest 61 = .ok (.ishl, 1) := by decide +kernel
theorem dX6_darkest_62 : decode cX6_darkest 62 = .ok (.iadd, 1) := by decide +kernel
theorem dX6_darkest_63 : decode cX6_darkest 63 = .ok (.istore 6, 2) := by decide +kernel
theorem dX6_darkest_65 : decode cX6_darkest 65 = .ok (.iload 5, 2) := by decide +kernel
theorem dX6_darkest_67 : decode cX6_darkest 67 = .ok (.istore_n 1, 1) := by decide +kernel
theorem dX6_darkest_68 : decode cX6_darkest 68 = .ok (.iload 6, 2) := by decide +kernel
theorem dX6_darkest_70 : decode cX6_darkest 70 = .ok (.istore_n 2, 1) := by decide +kernel
theorem dX6_darkest_71 : decode cX6_darkest 71 = .ok (.iinc 3 1, 3) := by decide +kernel
theorem dX6_darkest_74 : decode cX6_darkest 74 = .ok (.goto (-68), 3) := by decide +kernel
theorem dX6_darkest_77 : decode cX6_darkest 77 = .ok (.iload_n 1, 1) := by decide +kernel
theorem dX6_darkest_78 : decode cX6_darkest 78 = .ok (.iload_n 2, 1) := by decide +kernel
theorem dX6_darkest_79 : decode cX6_darkest 79 = .ok (.invokestatic 21, 3) := by decide +kernel
theorem dX6_darkest_82 : decode cX6_darkest 82 = .ok (.ireturn, 1) := by decide +kernel
theorem dX6_brightness_0 : decode cX6_brightness 0 = .ok (.iload_n 0, 1) := by decide +kernel
theorem dX6_brightness_1 : decode cX6_brightness 1 = .ok (.sipush 1024, 3) := by decide +kernel
theorem dX6_brightness_4 : decode cX6_brightness 4 = .ok (.idiv, 1) := by decide +kernel
theorem dX6_brightness_5 : decode cX6_brightness 5 = .ok (.ireturn, 1) := by decide +kernel
theorem dX6_placesOnRoad_0 : decode cX6_placesOnRoad 0 = .ok (.iload_n 0, 1) := by decide +kernel
theorem dX6_placesOnRoad_1 : decode cX6_placesOnRoad 1 = .ok (.sipush 1024, 3) := by decide +kernel
theorem dX6_placesOnRoad_4 : decode cX6_placesOnRoad 4 = .ok (.irem, 1) := by decide +kernel
theorem dX6_placesOnRoad_5 : decode cX6_placesOnRoad 5 = .ok (.ireturn, 1) := by decide +kernel
theorem dX7_firstFault_0 : decode cX7_firstFault 0 = .ok (.iconst 0, 1) := by decide +kernel
theorem dX7_firstFault_1 : decode cX7_firstFault 1 = .ok (.istore_n 1, 1) := by decide +kernel
theorem dX7_firstFault_2 : decode cX7_firstFault 2 = .ok (.iconst 0, 1) := by decide +kernel
theorem dX7_firstFault_3 : decode cX7_firstFault 3 = .ok (.istore_n 2, 1) := by decide +kernel
theorem dX7_firstFault_4 : decode cX7_firstFault 4 = .ok (.iload_n 2, 1) := by decide +kernel
theorem dX7_firstFault_5 : decode cX7_firstFault 5 = .ok (.aload_n 0, 1) := by decide +kernel
theorem dX7_firstFault_6 : decode cX7_firstFault 6 = .ok (.invokevirtual 9, 3) := by decide +kernel
theorem dX7_firstFault_9 : decode cX7_firstFault 9 = .ok (.if_icmp .ge 52, 3) := by decide +kernel
theorem dX7_firstFault_12 : decode cX7_firstFault 12 = .ok (.aload_n 0, 1) := by decide +kernel
theorem dX7_firstFault_13 : decode cX7_firstFault 13 = .ok (.iload_n 2, 1) := by decide +kernel
theorem dX7_firstFault_14 : decode cX7_firstFault 14 = .ok (.invokevirtual 15, 3) := by decide +kernel
theorem dX7_firstFault_17 : decode cX7_firstFault 17 = .ok (.bipush 32, 2) := by decide +kernel
theorem dX7_firstFault_19 : decode cX7_firstFault 19 = .ok (.if_icmp .ne 9, 3) := by decide +kernel
theorem dX7_firstFault_22 : decode cX7_firstFault 22 = .ok (.iinc 2 1, 3) := by decide +kernel
theorem dX7_firstFault_25 : decode cX7_firstFault 25 = .ok (.goto (-21), 3) := by decide +kernel
theorem dX7_firstFault_28 : decode cX7_firstFault 28 = .ok (.iload_n 1, 1) := by decide +kernel
theorem dX7_firstFault_29 : decode cX7_firstFault 29 = .ok (.bipush 8, 2) := by decide +kernel
theorem dX7_firstFault_31 : decode cX7_firstFault 31 = .ok (.if_icmp .lt 7, 3) := by decide +kernel
theorem dX7_firstFault_34 : decode cX7_firstFault 34 = .ok (.iload_n 2, 1) := by decide +kernel
theorem dX7_firstFault_35 : decode cX7_firstFault 35 = .ok (.goto 8, 3) := by decide +kernel
theorem dX7_firstFault_38 : decode cX7_firstFault 38 = .ok (.aload_n 0, 1) := by decide +kernel
theorem dX7_firstFault_39 : decode cX7_firstFault 39 = .ok (.iload_n 2, 1) := by decide +kernel
theorem dX7_firstFault_40 : decode cX7_firstFault 40 = .ok (.invokestatic 19, 3) := by decide +kernel
theorem dX7_firstFault_43 : decode cX7_firstFault 43 = .ok (.istore_n 3, 1) := by decide +kernel
theorem dX7_firstFault_44 : decode cX7_firstFault 44 = .ok (.iload_n 3, 1) := by decide +kernel
theorem dX7_firstFault_45 : decode cX7_firstFault 45 = .ok (.bipush (-9), 2) := by decide +kernel
theorem dX7_firstFault_47 : decode cX7_firstFault 47 = .ok (.if_icmp .eq 5, 3) := by decide +kernel
theorem dX7_firstFault_50 : decode cX7_firstFault 50 = .ok (.iload_n 3, 1) := by decide +kernel
theorem dX7_firstFault_51 : decode cX7_firstFault 51 = .ok (.ireturn, 1) := by decide +kernel
theorem dX7_firstFault_52 : decode cX7_firstFault 52 = .ok (.iinc 1 1, 3) := by decide +kernel
theorem dX7_firstFault_55 : decode cX7_firstFault 55 = .ok (.iinc 2 5, 3) := by decide +kernel
theorem dX7_firstFault_58 : decode cX7_firstFault 58 = .ok (.goto (-54), 3) := by decide +kernel
theorem dX7_firstFault_61 : decode cX7_firstFault 61 = .ok (.iload_n 1, 1) := by decide +kernel
theorem dX7_firstFault_62 : decode cX7_firstFault 62 = .ok (.ifCond .ne 10, 3) := by decide +kernel
theorem dX7_firstFault_65 : decode cX7_firstFault 65 = .ok (.aload_n 0, 1) := by decide +kernel
theorem dX7_firstFault_66 : decode cX7_firstFault 66 = .ok (.invokevirtual 9, 3) := by decide +kernel
theorem dX7_firstFault_69 : decode cX7_firstFault 69 = .ok (.goto 5, 3) := by decide +kernel
theorem dX7_firstFault_72 : decode cX7_firstFault 72 = .ok (.bipush (-9), 2) := by decide +kernel
theorem dX7_firstFault_74 : decode cX7_firstFault 74 = .ok (.ireturn, 1) := by decide +kernel
theorem dX7_itemFault_0 : decode cX7_itemFault 0 = .ok (.aload_n 0, 1) := by decide +kernel
theorem dX7_itemFault_1 : decode cX7_itemFault 1 = .ok (.iload_n 1, 1) := by decide +kernel
theorem dX7_itemFault_2 : decode cX7_itemFault 2 = .ok (.invokevirtual 15, 3) := by decide +kernel
theorem dX7_itemFault_5 : decode cX7_itemFault 5 = .ok (.invokestatic 25, 3) := by decide +kernel
theorem dX7_itemFault_8 : decode cX7_itemFault 8 = .ok (.bipush (-9), 2) := by decide +kernel
theorem dX7_itemFault_10 : decode cX7_itemFault 10 = .ok (.if_icmp .ne 5, 3) := by decide +kernel
theorem dX7_itemFault_13 : decode cX7_itemFault 13 = .ok (.iload_n 1, 1) := by decide +kernel
theorem dX7_itemFault_14 : decode cX7_itemFault 14 = .ok (.ireturn, 1) := by decide +kernel
theorem dX7_itemFault_15 : decode cX7_itemFault 15 = .ok (.iload_n 1, 1) := by decide +kernel
theorem dX7_itemFault_16 : decode cX7_itemFault 16 = .ok (.iconst 1, 1) := by decide +kernel
theorem dX7_itemFault_17 : decode cX7_itemFault 17 = .ok (.iadd, 1) := by decide +kernel
theorem dX7_itemFault_18 : decode cX7_itemFault 18 = .ok (.istore_n 2, 1) := by decide +kernel
theorem dX7_itemFault_19 : decode cX7_itemFault 19 = .ok (.iload_n 2, 1) := by decide +kernel
theorem dX7_itemFault_20 : decode cX7_itemFault 20 = .ok (.iload_n 1, 1) := by decide +kernel
theorem dX7_itemFault_21 : decode cX7_itemFault 21 = .ok (.iconst 5, 1) := by decide +kernel
theorem dX7_itemFault_22 : decode cX7_itemFault 22 = .ok (.iadd, 1) := by decide +kernel
theorem dX7_itemFault_23 : decode cX7_itemFault 23 = .ok (.if_icmp .ge 35, 3) := by decide +kernel
theorem dX7_itemFault_26 : decode cX7_itemFault 26 = .ok (.iload_n 2, 1) := by decide +kernel
theorem dX7_itemFault_27 : decode cX7_itemFault 27 = .ok (.aload_n 0, 1) := by decide +kernel
theorem dX7_itemFault_28 : decode cX7_itemFault 28 = .ok (.invokevirtual 9, 3) := by decide +kernel
theorem dX7_itemFault_31 : decode cX7_itemFault 31 = .ok (.if_icmp .lt 8, 3) := by decide +kernel
theorem dX7_itemFault_34 : decode cX7_itemFault 34 = .ok (.aload_n 0, 1) := by decide +kernel
theorem dX7_itemFault_35 : decode cX7_itemFault 35 = .ok (.invokevirtual 9, 3) := by decide +kernel
theorem dX7_itemFault_38 : decode cX7_itemFault 38 = .ok (.ireturn, 1) := by decide +kernel
theorem dX7_itemFault_39 : decode cX7_itemFault 39 = .ok (.aload_n 0, 1) := by decide +kernel
theorem dX7_itemFault_40 : decode cX7_itemFault 40 = .ok (.iload_n 1, 1) := by decide +kernel
theorem dX7_itemFault_41 : decode cX7_itemFault 41 = .ok (.iload_n 2, 1) := by decide +kernel
theorem dX7_itemFault_42 : decode cX7_itemFault 42 = .ok (.iload_n 1, 1) := by decide +kernel
theorem dX7_itemFault_43 : decode cX7_itemFault 43 = .ok (.isub, 1) := by decide +kernel
theorem dX7_itemFault_44 : decode cX7_itemFault 44 = .ok (.invokestatic 30, 3) := by decide +kernel
theorem dX7_itemFault_47 : decode cX7_itemFault 47 = .ok (.ifCond .ne 5, 3) := by decide +kernel
theorem dX7_itemFault_50 : decode cX7_itemFault 50 = .ok (.iload_n 2, 1) := by decide +kernel
theorem dX7_itemFault_51 : decode cX7_itemFault 51 = .ok (.ireturn, 1) := by decide +kernel
theorem dX7_itemFault_52 : decode cX7_itemFault 52 = .ok (.iinc 2 1, 3) := by decide +kernel
theorem dX7_itemFault_55 : decode cX7_itemFault 55 = .ok (.goto (-36), 3) := by decide +kernel
theorem dX7_itemFault_58 : decode cX7_itemFault 58 = .ok (.bipush (-9), 2) := by decide +kernel
theorem dX7_itemFault_60 : decode cX7_itemFault 60 = .ok (.ireturn, 1) := by decide +kernel
theorem dX7_isFigureOf_0 : decode cX7_isFigureOf 0 = .ok (.aload_n 0, 1) := by decide +kernel
theorem dX7_isFigureOf_1 : decode cX7_isFigureOf 1 = .ok (.iload_n 1, 1) := by decide +kernel
theorem dX7_isFigureOf_2 : decode cX7_isFigureOf 2 = .ok (.iload_n 2, 1) := by decide +kernel
theorem dX7_isFigureOf_3 : decode cX7_isFigureOf 3 = .ok (.iadd, 1) := by decide +kernel
theorem dX7_isFigureOf_4 : decode cX7_isFigureOf 4 = .ok (.invokestatic 34, 3) := by decide +kernel
theorem dX7_isFigureOf_7 : decode cX7_isFigureOf 7 = .ok (.istore_n 3, 1) := by decide +kernel
theorem dX7_isFigureOf_8 : decode cX7_isFigureOf 8 = .ok (.iload_n 2, 1) := by decide +kernel
theorem dX7_isFigureOf_9 : decode cX7_isFigureOf 9 = .ok (.iconst 2, 1) := by decide +kernel
theorem dX7_isFigureOf_10 : decode cX7_isFigureOf 10 = .ok (.if_icmp .gt 8, 3) := by decide +kernel
theorem dX7_isFigureOf_13 : decode cX7_isFigureOf 13 = .ok (.bipush 6, 2) := by decide +kernel
theorem dX7_isFigureOf_15 : decode cX7_isFigureOf 15 = .ok (.goto 5, 3) := by decide +kernel
theorem dX7_isFigureOf_18 : decode cX7_isFigureOf 18 = .ok (.bipush 10, 2) := by decide +kernel
theorem dX7_isFigureOf_20 : decode cX7_isFigureOf 20 = .ok (.istore 4, 2) := by decide +kernel
theorem dX7_isFigureOf_22 : decode cX7_isFigureOf 22 = .ok (.iload_n 2, 1) := by decide +kernel
theorem dX7_isFigureOf_23 : decode cX7_isFigureOf 23 = .ok (.iconst 2, 1) := by decide +kernel
theorem dX7_isFigureOf_24 : decode cX7_isFigureOf 24 = .ok (.if_icmp .ne 18, 3) := by decide +kernel
theorem dX7_isFigureOf_27 : decode cX7_isFigureOf 27 = .ok (.iload_n 3, 1) := by decide +kernel
theorem dX7_isFigureOf_28 : decode cX7_isFigureOf 28 = .ok (.aload_n 0, 1) := by decide +kernel
theorem dX7_isFigureOf_29 : decode cX7_isFigureOf 29 = .ok (.iload_n 1, 1) := by decide +kernel
theorem dX7_isFigureOf_30 : decode cX7_isFigureOf 30 = .ok (.iconst 1, 1) := by decide +kernel
theorem dX7_isFigureOf_31 : decode cX7_isFigureOf 31 = .ok (.iadd, 1) := by decide +kernel
theorem dX7_isFigureOf_32 : decode cX7_isFigureOf 32 = .ok (.invokestatic 34, 3) := by decide +kernel
theorem dX7_isFigureOf_35 : decode cX7_isFigureOf 35 = .ok (.if_icmp .ne 7, 3) := by decide +kernel
theorem dX7_isFigureOf_38 : decode cX7_isFigureOf 38 = .ok (.iconst 1, 1) := by decide +kernel
theorem dX7_isFigureOf_39 : decode cX7_isFigureOf 39 = .ok (.goto 4, 3) := by decide +kernel
theorem dX7_isFigureOf_42 : decode cX7_isFigureOf 42 = .ok (.iconst 0, 1) := by decide +kernel
theorem dX7_isFigureOf_43 : decode cX7_isFigureOf 43 = .ok (.istore 5, 2) := by decide +kernel
theorem dX7_isFigureOf_45 : decode cX7_isFigureOf 45 = .ok (.iload_n 3, 1) := by decide +kernel
theorem dX7_isFigureOf_46 : decode cX7_isFigureOf 46 = .ok (.ifCond .lt 18, 3) := by decide +kernel
theorem dX7_isFigureOf_49 : decode cX7_isFigureOf 49 = .ok (.iload_n 3, 1) := by decide +kernel
theorem dX7_isFigureOf_50 : decode cX7_isFigureOf 50 = .ok (.iload 4, 2) := by decide +kernel
theorem dX7_isFigureOf_52 : decode cX7_isFigureOf 52 = .ok (.if_icmp .ge 12, 3) := by decide +kernel
theorem dX7_isFigureOf_55 : decode cX7_isFigureOf 55 = .ok (.iload 5, 2) := by decide +kernel
theorem dX7_isFigureOf_57 : decode cX7_isFigureOf 57 = .ok (.ifCond .ne 7, 3) := by decide +kernel
theorem dX7_isFigureOf_60 : decode cX7_isFigureOf 60 = .ok (.iconst 1, 1) := by decide +kernel
theorem dX7_isFigureOf_61 : decode cX7_isFigureOf 61 = .ok (.goto 4, 3) := by decide +kernel
theorem dX7_isFigureOf_64 : decode cX7_isFigureOf 64 = .ok (.iconst 0, 1) := by decide +kernel
theorem dX7_isFigureOf_65 : decode cX7_isFigureOf 65 = .ok (.ireturn, 1) := by decide +kernel
theorem dX7_figureAt_0 : decode cX7_figureAt 0 = .ok (.aload_n 0, 1) := by decide +kernel
theorem dX7_figureAt_1 : decode cX7_figureAt 1 = .ok (.iload_n 1, 1) := by decide +kernel
theorem dX7_figureAt_2 : decode cX7_figureAt 2 = .ok (.invokevirtual 15, 3) := by decide +kernel
theorem dX7_figureAt_5 : decode cX7_figureAt 5 = .ok (.bipush 48, 2) := by decide +kernel
theorem dX7_figureAt_7 : decode cX7_figureAt 7 = .ok (.isub, 1) := by decide +kernel
theorem dX7_figureAt_8 : decode cX7_figureAt 8 = .ok (.ireturn, 1) := by decide +kernel
theorem dX7_readInto_0 : decode cX7_readInto 0 = .ok (.aload_n 0, 1) := by decide +kernel
theorem dX7_readInto_1 : decode cX7_readInto 1 = .ok (.invokevirtual 37, 3) := by decide +kernel
theorem dX7_readInto_4 : decode cX7_readInto 4 = .ok (.iconst 0, 1) := by decide +kernel
theorem dX7_readInto_5 : decode cX7_readInto 5 = .ok (.istore_n 2, 1) := by decide +kernel
theorem dX7_readInto_6 : decode cX7_readInto 6 = .ok (.iload_n 2, 1) := by decide +kernel
theorem dX7_readInto_7 : decode cX7_readInto 7 = .ok (.aload_n 1, 1) := by decide +kernel
theorem dX7_readInto_8 : decode cX7_readInto 8 = .ok (.invokevirtual 9, 3) := by decide +kernel
theorem dX7_readInto_11 : decode cX7_readInto 11 = .ok (.if_icmp .ge 65, 3) := by decide +kernel
theorem dX7_readInto_14 : decode cX7_readInto 14 = .ok (.aload_n 1, 1) := by decide +kernel
theorem dX7_readInto_15 : decode cX7_readInto 15 = .ok (.iload_n 2, 1) := by decide +kernel
theorem dX7_readInto_16 : decode cX7_readInto 16 = .ok (.invokevirtual 15, 3) := by decide +kernel
theorem dX7_readInto_19 : decode cX7_readInto 19 = .ok (.bipush 32, 2) := by decide +kernel
theorem dX7_readInto_21 : decode cX7_readInto 21 = .ok (.if_icmp .ne 9, 3) := by decide +kernel
theorem dX7_readInto_24 : decode cX7_readInto 24 = .ok (.iinc 2 1, 3) := by decide +kernel
theorem dX7_readInto_27 : decode cX7_readInto 27 = .ok (.goto (-21), 3) := by decide +kernel
theorem dX7_readInto_30 : decode cX7_readInto 30 = .ok (.aload_n 0, 1) := by decide +kernel
theorem dX7_readInto_31 : decode cX7_readInto 31 = .ok (.aload_n 1, 1) := by decide +kernel
theorem dX7_readInto_32 : decode cX7_readInto 32 = .ok (.iload_n 2, 1) := by decide +kernel
theorem dX7_readInto_33 : decode cX7_readInto 33 = .ok (.invokevirtual 15, 3) := by decide +kernel
theorem dX7_readInto_36 : decode cX7_readInto 36 = .ok (.invokestatic 25, 3) := by decide +kernel
theorem dX7_readInto_39 : decode cX7_readInto 39 = .ok (.aload_n 1, 1) := by decide +kernel
theorem dX7_readInto_40 : decode cX7_readInto 40 = .ok (.iload_n 2, 1) := by decide +kernel
theorem dX7_readInto_41 : decode cX7_readInto 41 = .ok (.iconst 1, 1) := by decide +kernel
theorem dX7_readInto_42 : decode cX7_readInto 42 = .ok (.iadd, 1) := by decide +kernel
theorem dX7_readInto_43 : decode cX7_readInto 43 = .ok (.invokestatic 34, 3) := by decide +kernel
theorem dX7_readInto_46 : decode cX7_readInto 46 = .ok (.aload_n 1, 1) := by decide +kernel
theorem dX7_readInto_47 : decode cX7_readInto 47 = .ok (.iload_n 2, 1) := by decide +kernel
theorem dX7_readInto_48 : decode cX7_readInto 48 = .ok (.iconst 2, 1) := by decide +kernel
theorem dX7_readInto_49 : decode cX7_readInto 49 = .ok (.iadd, 1) := by decide +kernel
theorem dX7_readInto_50 : decode cX7_readInto 50 = .ok (.invokestatic 34, 3) := by decide +kernel
theorem dX7_readInto_53 : decode cX7_readInto 53 = .ok (.aload_n 1, 1) := by decide +kernel
theorem dX7_readInto_54 : decode cX7_readInto 54 = .ok (.iload_n 2, 1) := by decide +kernel
theorem dX7_readInto_55 : decode cX7_readInto 55 = .ok (.iconst 3, 1) := by decide +kernel
theorem dX7_readInto_56 : decode cX7_readInto 56 = .ok (.iadd, 1) := by decide +kernel
theorem dX7_readInto_57 : decode cX7_readInto 57 = .ok (.invokestatic 34, 3) := by decide +kernel
theorem dX7_readInto_60 : decode cX7_readInto 60 = .ok (.aload_n 1, 1) := by decide +kernel
theorem dX7_readInto_61 : decode cX7_readInto 61 = .ok (.iload_n 2, 1) := by decide +kernel
theorem dX7_readInto_62 : decode cX7_readInto 62 = .ok (.iconst 4, 1) := by decide +kernel
theorem dX7_readInto_63 : decode cX7_readInto 63 = .ok (.iadd, 1) := by decide +kernel
theorem dX7_readInto_64 : decode cX7_readInto 64 = .ok (.invokestatic 34, 3) := by decide +kernel
theorem dX7_readInto_67 : decode cX7_readInto 67 = .ok (.invokevirtual 42, 3) := by decide +kernel
theorem dX7_readInto_70 : decode cX7_readInto 70 = .ok (.iinc 2 5, 3) := by decide +kernel
theorem dX7_readInto_73 : decode cX7_readInto 73 = .ok (.goto (-67), 3) := by decide +kernel
theorem dX7_readInto_76 : decode cX7_readInto 76 = .ok (.return_, 1) := by decide +kernel
theorem dX8_init_0 : decode cX8_init 0 = .ok (.aload_n 0, 1) := by decide +kernel
theorem dX8_init_1 : decode cX8_init 1 = .ok (.invokespecial 1, 3) := by decide +kernel
theorem dX8_init_4 : decode cX8_init 4 = .ok (.aload_n 0, 1) := by decide +kernel
theorem dX8_init_5 : decode cX8_init 5 = .ok (.bipush 6, 2) := by decide +kernel
theorem dX8_init_7 : decode cX8_init 7 = .ok (.anewarray 9, 3) := by decide +kernel
theorem dX8_init_10 : decode cX8_init 10 = .ok (.putfield 11, 3) := by decide +kernel
theorem dX8_init_13 : decode cX8_init 13 = .ok (.aload_n 0, 1) := by decide +kernel
theorem dX8_init_14 : decode cX8_init 14 = .ok (.iconst 4, 1) := by decide +kernel
theorem dX8_init_15 : decode cX8_init 15 = .ok (.anewarray 9, 3) := by decide +kernel
theorem dX8_init_18 : decode cX8_init 18 = .ok (.putfield 15, 3) := by decide +kernel
theorem dX8_init_21 : decode cX8_init 21 = .ok (.aload_n 0, 1) := by decide +kernel
theorem dX8_init_22 : decode cX8_init 22 = .ok (.new 18, 3) := by decide +kernel
theorem dX8_init_25 : decode cX8_init 25 = .ok (.dup, 1) := by decide +kernel
theorem dX8_init_26 : decode cX8_init 26 = .ok (.invokespecial 20, 3) := by decide +kernel
theorem dX8_init_29 : decode cX8_init 29 = .ok (.putfield 21, 3) := by decide +kernel
theorem dX8_init_32 : decode cX8_init 32 = .ok (.aload_n 0, 1) := by decide +kernel
theorem dX8_init_33 : decode cX8_init 33 = .ok (.iconst 3, 1) := by decide +kernel
theorem dX8_init_34 : decode cX8_init 34 = .ok (.anewarray 18, 3) := by decide +kernel
theorem dX8_init_37 : decode cX8_init 37 = .ok (.putfield 25, 3) := by decide +kernel
theorem dX8_init_40 : decode cX8_init 40 = .ok (.aload_n 0, 1) := by decide +kernel
theorem dX8_init_41 : decode cX8_init 41 = .ok (.new 29, 3) := by decide +kernel
theorem dX8_init_44 : decode cX8_init 44 = .ok (.dup, 1) := by decide +kernel
theorem dX8_init_45 : decode cX8_init 45 = .ok (.invokespecial 31, 3) := by decide +kernel
theorem dX8_init_48 : decode cX8_init 48 = .ok (.putfield 32, 3) := by decide +kernel
theorem dX8_init_51 : decode cX8_init 51 = .ok (.aload_n 0, 1) := by decide +kernel
theorem dX8_init_52 : decode cX8_init 52 = .ok (.new 36, 3) := by decide +kernel
theorem dX8_init_55 : decode cX8_init 55 = .ok (.dup, 1) := by decide +kernel
theorem dX8_init_56 : decode cX8_init 56 = .ok (.invokespecial 38, 3) := by decide +kernel
theorem dX8_init_59 : decode cX8_init 59 = .ok (.putfield 39, 3) := by decide +kernel
theorem dX8_init_62 : decode cX8_init 62 = .ok (.aload_n 0, 1) := by decide +kernel
theorem dX8_init_63 : decode cX8_init 63 = .ok (.bipush 6, 2) := by decide +kernel
theorem dX8_init_65 : decode cX8_init 65 = .ok (.newarray .int, 2) := by decide +kernel
theorem dX8_init_67 : decode cX8_init 67 = .ok (.putfield 43, 3) := by decide +kernel
theorem dX8_init_70 : decode cX8_init 70 = .ok (.aload_n 0, 1) := by decide +kernel
theorem dX8_init_71 : decode cX8_init 71 = .ok (.iconst 0, 1) := by decide +kernel
theorem dX8_init_72 : decode cX8_init 72 = .ok (.putfield 47, 3) := by decide +kernel
theorem dX8_init_75 : decode cX8_init 75 = .ok (.aload_n 0, 1) := by decide +kernel
theorem dX8_init_76 : decode cX8_init 76 = .ok (.iconst 0, 1) := by decide +kernel
theorem dX8_init_77 : decode cX8_init 77 = .ok (.putfield 51, 3) := by decide +kernel
theorem dX8_init_80 : decode cX8_init 80 = .ok (.aload_n 0, 1) := by decide +kernel
theorem dX8_init_81 : decode cX8_init 81 = .ok (.lconst 0, 1) := by decide +kernel
theorem dX8_init_82 : decode cX8_init 82 = .ok (.putfield 54, 3) := by decide +kernel
theorem dX8_init_85 : decode cX8_init 85 = .ok (.aload_n 0, 1) := by decide +kernel
theorem dX8_init_86 : decode cX8_init 86 = .ok (.lconst 1, 1) := by decide +kernel
theorem dX8_init_87 : decode cX8_init 87 = .ok (.putfield 58, 3) := by decide +kernel
theorem dX8_init_90 : decode cX8_init 90 = .ok (.iconst 0, 1) := by decide +kernel
theorem dX8_init_91 : decode cX8_init 91 = .ok (.istore_n 1, 1) := by decide +kernel
theorem dX8_init_92 : decode cX8_init 92 = .ok (.iload_n 1, 1) := by decide +kernel
theorem dX8_init_93 : decode cX8_init 93 = .ok (.aload_n 0, 1) := by decide +kernel
theorem dX8_init_94 : decode cX8_init 94 = .ok (.getfield 11, 3) := by decide +kernel
theorem dX8_init_97 : decode cX8_init 97 = .ok (.arraylength, 1) := by decide +kernel
theorem dX8_init_98 : decode cX8_init 98 = .ok (.if_icmp .ge 24, 3) := by decide +kernel
theorem dX8_init_101 : decode cX8_init 101 = .ok (.aload_n 0, 1) := by decide +kernel
theorem dX8_init_102 : decode cX8_init 102 = .ok (.getfield 11, 3) := by decide +kernel
theorem dX8_init_105 : decode cX8_init 105 = .ok (.iload_n 1, 1) := by decide +kernel
theorem dX8_init_106 : decode cX8_init 106 = .ok (.new 9, 3) := by decide +kernel
theorem dX8_init_109 : decode cX8_init 109 = .ok (.dup, 1) := by decide +kernel
theorem dX8_init_110 : decode cX8_init 110 = .ok (.bipush 40, 2) := by decide +kernel
theorem dX8_init_112 : decode cX8_init 112 = .ok (.invokespecial 61, 3) := by decide +kernel
theorem dX8_init_115 : decode cX8_init 115 = .ok (.aastore, 1) := by decide +kernel
theorem dX8_init_116 : decode cX8_init 116 = .ok (.iinc 1 1, 3) := by decide +kernel
theorem dX8_init_119 : decode cX8_init 119 = .ok (.goto (-27), 3) := by decide +kernel
theorem dX8_init_122 : decode cX8_init 122 = .ok (.iconst 0, 1) := by decide +kernel
theorem dX8_init_123 : decode cX8_init 123 = .ok (.istore_n 1, 1) := by decide +kernel
theorem dX8_init_124 : decode cX8_init 124 = .ok (.iload_n 1, 1) := by decide +kernel
theorem dX8_init_125 : decode cX8_init 125 = .ok (.aload_n 0, 1) := by decide +kernel
theorem dX8_init_126 : decode cX8_init 126 = .ok (.getfield 15, 3) := by decide +kernel
theorem dX8_init_129 : decode cX8_init 129 = .ok (.arraylength, 1) := by decide +kernel
theorem dX8_init_130 : decode cX8_init 130 = .ok (.if_icmp .ge 24, 3) := by decide +kernel
theorem dX8_init_133 : decode cX8_init 133 = .ok (.aload_n 0, 1) := by decide +kernel
theorem dX8_init_134 : decode cX8_init 134 = .ok (.getfield 15, 3) := by decide +kernel
theorem dX8_init_137 : decode cX8_init 137 = .ok (.iload_n 1, 1) := by decide +kernel
theorem dX8_init_138 : decode cX8_init 138 = .ok (.new 9, 3) := by decide +kernel
theorem dX8_init_141 : decode cX8_init 141 = .ok (.dup, 1) := by decide +kernel
theorem dX8_init_142 : decode cX8_init 142 = .ok (.bipush 60, 2) := by decide +kernel
theorem dX8_init_144 : decode cX8_init 144 = .ok (.invokespecial 61, 3) := by decide +kernel
theorem dX8_init_147 : decode cX8_init 147 = .ok (.aastore, 1) := by decide +kernel
theorem dX8_init_148 : decode cX8_init 148 = .ok (.iinc 1 1, 3) := by decide +kernel
theorem dX8_init_151 : decode cX8_init 151 = .ok (.goto (-27), 3) := by decide +kernel
theorem dX8_init_154 : decode cX8_init 154 = .ok (.iconst 0, 1) := by decide +kernel
theorem dX8_init_155 : decode cX8_init 155 = .ok (.istore_n 1, 1) := by decide +kernel
theorem dX8_init_156 : decode cX8_init 156 = .ok (.iload_n 1, 1) := by decide +kernel
theorem dX8_init_157 : decode cX8_init 157 = .ok (.aload_n 0, 1) := by decide +kernel
theorem dX8_init_158 : decode cX8_init 158 = .ok (.getfield 25, 3) := by decide +kernel
theorem dX8_init_161 : decode cX8_init 161 = .ok (.arraylength, 1) := by decide +kernel
theorem dX8_init_162 : decode cX8_init 162 = .ok (.if_icmp .ge 22, 3) := by decide +kernel
theorem dX8_init_165 : decode cX8_init 165 = .ok (.aload_n 0, 1) := by decide +kernel
theorem dX8_init_166 : decode cX8_init 166 = .ok (.getfield 25, 3) := by decide +kernel
theorem dX8_init_169 : decode cX8_init 169 = .ok (.iload_n 1, 1) := by decide +kernel
theorem dX8_init_170 : decode cX8_init 170 = .ok (.new 18, 3) := by decide +kernel
theorem dX8_init_173 : decode cX8_init 173 = .ok (.dup, 1) := by decide +kernel
theorem dX8_init_174 : decode cX8_init 174 = .ok (.invokespecial 20, 3) := by decide +kernel
theorem dX8_init_177 : decode cX8_init 177 = .ok (.aastore, 1) := by decide +kernel
theorem dX8_init_178 : decode cX8_init 178 = .ok (.iinc 1 1, 3) := by decide +kernel
theorem dX8_init_181 : decode cX8_init 181 = .ok (.goto (-25), 3) := by decide +kernel
theorem dX8_init_184 : decode cX8_init 184 = .ok (.return_, 1) := by decide +kernel
theorem dX8_row_0 : decode cX8_row 0 = .ok (.aload_n 0, 1) := by decide +kernel
theorem dX8_row_1 : decode cX8_row 1 = .ok (.aload_n 0, 1) := by decide +kernel
theorem dX8_row_2 : decode cX8_row 2 = .ok (.iload_n 1, 1) := by decide +kernel
theorem dX8_row_3 : decode cX8_row 3 = .ok (.invokevirtual 64, 3) := by decide +kernel
theorem dX8_row_6 : decode cX8_row 6 = .ok (.iload_n 2, 1) := by decide +kernel
theorem dX8_row_7 : decode cX8_row 7 = .ok (.iconst 0, 1) := by decide +kernel
theorem dX8_row_8 : decode cX8_row 8 = .ok (.invokevirtual 68, 3) := by decide +kernel
theorem dX8_row_11 : decode cX8_row 11 = .ok (.ireturn, 1) := by decide +kernel
theorem dX8_lay_0 : decode cX8_lay 0 = .ok (.aload_n 0, 1) := by decide +kernel
theorem dX8_lay_1 : decode cX8_lay 1 = .ok (.iload_n 1, 1) := by decide +kernel
theorem dX8_lay_2 : decode cX8_lay 2 = .ok (.invokevirtual 64, 3) := by decide +kernel
theorem dX8_lay_5 : decode cX8_lay 5 = .ok (.astore 4, 2) := by decide +kernel
theorem dX8_lay_7 : decode cX8_lay 7 = .ok (.aload_n 0, 1) := by decide +kernel
theorem dX8_lay_8 : decode cX8_lay 8 = .ok (.aload 4, 2) := by decide +kernel
theorem dX8_lay_10 : decode cX8_lay 10 = .ok (.iload_n 2, 1) := by decide +kernel
theorem dX8_lay_11 : decode cX8_lay 11 = .ok (.invokevirtual 72, 3) := by decide +kernel
theorem dX8_lay_14 : decode cX8_lay 14 = .ok (.istore 5, 2) := by decide +kernel
theorem dX8_lay_16 : decode cX8_lay 16 = .ok (.aload 4, 2) := by decide +kernel
theorem dX8_lay_18 : decode cX8_lay 18 = .ok (.ifnull 8, 3) := by decide +kernel
theorem dX8_lay_21 : decode cX8_lay 21 = .ok (.iload 5, 2) := by decide +kernel
theorem dX8_lay_23 : decode cX8_lay 23 = .ok (.ifCond .eq 6, 3) := by decide +kernel
theorem dX8_lay_26 : decode cX8_lay 26 = .ok (.iload 5, 2) := by decide +kernel
theorem dX8_lay_28 : decode cX8_lay 28 = .ok (.ireturn, 1) := by decide +kernel
theorem dX8_lay_29 : decode cX8_lay 29 = .ok (.aload_n 0, 1) := by decide +kernel
theorem dX8_lay_30 : decode cX8_lay 30 = .ok (.aload 4, 2) := by decide +kernel
theorem dX8_lay_32 : decode cX8_lay 32 = .ok (.iload_n 2, 1) := by decide +kernel
theorem dX8_lay_33 : decode cX8_lay 33 = .ok (.invokevirtual 76, 3) := by decide +kernel
theorem dX8_lay_36 : decode cX8_lay 36 = .ok (.putfield 51, 3) := by decide +kernel
theorem dX8_lay_39 : decode cX8_lay 39 = .ok (.aload 4, 2) := by decide +kernel
theorem dX8_lay_41 : decode cX8_lay 41 = .ok (.iload_n 2, 1) := by decide +kernel
theorem dX8_lay_42 : decode cX8_lay 42 = .ok (.iload_n 3, 1) := by decide +kernel
theorem dX8_lay_43 : decode cX8_lay 43 = .ok (.invokevirtual 80, 3) := by decide +kernel
theorem dX8_lay_46 : decode cX8_lay 46 = .ok (.iconst 1, 1) := by decide +kernel
theorem dX8_lay_47 : decode cX8_lay 47 = .ok (.ireturn, 1) := by decide +kernel
theorem dX8_at_0 : decode cX8_at 0 = .ok (.aload_n 0, 1) := by decide +kernel
theorem dX8_at_1 : decode cX8_at 1 = .ok (.iload_n 1, 1) := by decide +kernel
theorem dX8_at_2 : decode cX8_at 2 = .ok (.invokevirtual 64, 3) := by decide +kernel
theorem dX8_at_5 : decode cX8_at 5 = .ok (.astore_n 3, 1) := by decide +kernel
theorem dX8_at_6 : decode cX8_at 6 = .ok (.aload_n 0, 1) := by decide +kernel
theorem dX8_at_7 : decode cX8_at 7 = .ok (.aload_n 3, 1) := by decide +kernel
theorem dX8_at_8 : decode cX8_at 8 = .ok (.iload_n 2, 1) := by decide +kernel
theorem dX8_at_9 : decode cX8_at 9 = .ok (.invokevirtual 72, 3) := by decide +kernel
theorem dX8_at_12 : decode cX8_at 12 = .ok (.istore 4, 2) := by decide +kernel
theorem dX8_at_14 : decode cX8_at 14 = .ok (.aload_n 3, 1) := by decide +kernel
theorem dX8_at_15 : decode cX8_at 15 = .ok (.ifnull 8, 3) := by decide +kernel
theorem dX8_at_18 : decode cX8_at 18 = .ok (.iload 4, 2) := by decide +kernel
theorem dX8_at_20 : decode cX8_at 20 = .ok (.ifCond .eq 6, 3) := by decide +kernel
theorem dX8_at_23 : decode cX8_at 23 = .ok (.iload 4, 2) := by decide +kernel
theorem dX8_at_25 : decode cX8_at 25 = .ok (.ireturn, 1) := by decide +kernel
theorem dX8_at_26 : decode cX8_at 26 = .ok (.aload_n 0, 1) := by decide +kernel
theorem dX8_at_27 : decode cX8_at 27 = .ok (.aload_n 3, 1) := by decide +kernel
theorem dX8_at_28 : decode cX8_at 28 = .ok (.iload_n 2, 1) := by decide +kernel
theorem dX8_at_29 : decode cX8_at 29 = .ok (.invokevirtual 76, 3) := by decide +kernel
theorem dX8_at_32 : decode cX8_at 32 = .ok (.putfield 51, 3) := by decide +kernel
theorem dX8_at_35 : decode cX8_at 35 = .ok (.iconst 1, 1) := by decide +kernel
theorem dX8_at_36 : decode cX8_at 36 = .ok (.ireturn, 1) := by decide +kernel
theorem dX8_tear_0 : decode cX8_tear 0 = .ok (.aload_n 0, 1) := by decide +kernel
theorem dX8_tear_1 : decode cX8_tear 1 = .ok (.iload_n 1, 1) := by decide +kernel
theorem dX8_tear_2 : decode cX8_tear 2 = .ok (.invokevirtual 64, 3) := by decide +kernel
theorem dX8_tear_5 : decode cX8_tear 5 = .ok (.astore_n 2, 1) := by decide +kernel
theorem dX8_tear_6 : decode cX8_tear 6 = .ok (.aload_n 0, 1) := by decide +kernel
theorem dX8_tear_7 : decode cX8_tear 7 = .ok (.aload_n 2, 1) := by decide +kernel
theorem dX8_tear_8 : decode cX8_tear 8 = .ok (.invokevirtual 84, 3) := by decide +kernel
theorem dX8_tear_11 : decode cX8_tear 11 = .ok (.istore_n 3, 1) := by decide +kernel
theorem dX8_tear_12 : decode cX8_tear 12 = .ok (.aload_n 2, 1) := by decide +kernel
theorem dX8_tear_13 : decode cX8_tear 13 = .ok (.ifnull 7, 3) := by decide +kernel
theorem dX8_tear_16 : decode cX8_tear 16 = .ok (.iload_n 3, 1) := by decide +kernel
theorem dX8_tear_17 : decode cX8_tear 17 = .ok (.ifCond .eq 5, 3) := by decide +kernel
theorem dX8_tear_20 : decode cX8_tear 20 = .ok (.iload_n 3, 1) := by decide +kernel
theorem dX8_tear_21 : decode cX8_tear 21 = .ok (.ireturn, 1) := by decide +kernel
theorem dX8_tear_22 : decode cX8_tear 22 = .ok (.aload_n 2, 1) := by decide +kernel
theorem dX8_tear_23 : decode cX8_tear 23 = .ok (.invokevirtual 88, 3) := by decide +kernel
theorem dX8_tear_26 : decode cX8_tear 26 = .ok (.iconst 1, 1) := by decide +kernel
theorem dX8_tear_27 : decode cX8_tear 27 = .ok (.ireturn, 1) := by decide +kernel
theorem dX8_copy_0 : decode cX8_copy 0 = .ok (.aload_n 0, 1) := by decide +kernel
theorem dX8_copy_1 : decode cX8_copy 1 = .ok (.iload_n 1, 1) := by decide +kernel
theorem dX8_copy_2 : decode cX8_copy 2 = .ok (.invokevirtual 64, 3) := by decide +kernel
theorem dX8_copy_5 : decode cX8_copy 5 = .ok (.astore 6, 2) := by decide +kernel
theorem dX8_copy_7 : decode cX8_copy 7 = .ok (.aload_n 0, 1) := by decide +kernel
theorem dX8_copy_8 : decode cX8_copy 8 = .ok (.iload_n 3, 1) := by decide +kernel
theorem dX8_copy_9 : decode cX8_copy 9 = .ok (.invokevirtual 64, 3) := by decide +kernel
theorem dX8_copy_12 : decode cX8_copy 12 = .ok (.astore 7, 2) := by decide +kernel
theorem dX8_copy_14 : decode cX8_copy 14 = .ok (.aload 6, 2) := by decide +kernel
theorem dX8_copy_16 : decode cX8_copy 16 = .ok (.ifnull 8, 3) := by decide +kernel
theorem dX8_copy_19 : decode cX8_copy 19 = .ok (.aload 7, 2) := by decide +kernel
theorem dX8_copy_21 : decode cX8_copy 21 = .ok (.ifnonnull 5, 3) := by decide +kernel
theorem dX8_copy_24 : decode cX8_copy 24 = .ok (.iconst (-1), 1) := by decide +kernel
theorem dX8_copy_25 : decode cX8_copy 25 = .ok (.ireturn, 1) := by decide +kernel
theorem dX8_copy_26 : decode cX8_copy 26 = .ok (.iload 5, 2) := by decide +kernel
theorem dX8_copy_28 : decode cX8_copy 28 = .ok (.ifCond .ge 9, 3) := by decide +kernel
theorem dX8_copy_31 : decode cX8_copy 31 = .ok (.aload_n 0, 1) := by decide +kernel
theorem dX8_copy_32 : decode cX8_copy 32 = .ok (.iconst 5, 1) := by decide +kernel
theorem dX8_copy_33 : decode cX8_copy 33 = .ok (.invokevirtual 91, 3) := by decide +kernel
theorem dX8_copy_36 : decode cX8_copy 36 = .ok (.ireturn, 1) := by decide +kernel
theorem dX8_copy_37 : decode cX8_copy 37 = .ok (.aload 6, 2) := by decide +kernel
theorem dX8_copy_39 : decode cX8_copy 39 = .ok (.invokevirtual 94, 3) := by decide +kernel
theorem dX8_copy_42 : decode cX8_copy 42 = .ok (.ifCond .ne 11, 3) := by decide +kernel
theorem dX8_copy_45 : decode cX8_copy 45 = .ok (.aload 7, 2) := by decide +kernel
theorem dX8_copy_47 : decode cX8_copy 47 = .ok (.invokevirtual 94, 3) := by decide +kernel
theorem dX8_copy_50 : decode cX8_copy 50 = .ok (.ifCond .eq 9, 3) := by decide +kernel
theorem dX8_copy_53 : decode cX8_copy 53 = .ok (.aload_n 0, 1) := by decide +kernel
theorem dX8_copy_54 : decode cX8_copy 54 = .ok (.iconst 1, 1) := by decide +kernel
theorem dX8_copy_55 : decode cX8_copy 55 = .ok (.invokevirtual 91, 3) := by decide +kernel
theorem dX8_copy_58 : decode cX8_copy 58 = .ok (.ireturn, 1) := by decide +kernel
theorem dX8_copy_59 : decode cX8_copy 59 = .ok (.aload 6, 2) := by decide +kernel
theorem dX8_copy_61 : decode cX8_copy 61 = .ok (.iload_n 2, 1) := by decide +kernel
theorem dX8_copy_62 : decode cX8_copy 62 = .ok (.iload 5, 2) := by decide +kernel
theorem dX8_copy_64 : decode cX8_copy 64 = .ok (.invokevirtual 98, 3) := by decide +kernel
theorem dX8_copy_67 : decode cX8_copy 67 = .ok (.ifCond .eq 15, 3) := by decide +kernel
theorem dX8_copy_70 : decode cX8_copy 70 = .ok (.aload 7, 2) := by decide +kernel
theorem dX8_copy_72 : decode cX8_copy 72 = .ok (.iload 4, 2) := by decide +kernel
theorem dX8_copy_74 : decode cX8_copy 74 = .ok (.iload 5, 2) := by decide +kernel
theorem dX8_copy_76 : decode cX8_copy 76 = .ok (.invokevirtual 98, 3) := by decide +kernel
theorem dX8_copy_79 : decode cX8_copy 79 = .ok (.ifCond .ne 9, 3) := by decide +kernel
theorem dX8_copy_82 : decode cX8_copy 82 = .ok (.aload_n 0, 1) := by decide +kernel
theorem dX8_copy_83 : decode cX8_copy 83 = .ok (.iconst 2, 1) := by decide +kernel
theorem dX8_copy_84 : decode cX8_copy 84 = .ok (.invokevirtual 91, 3) := by decide +kernel
theorem dX8_copy_87 : decode cX8_copy 87 = .ok (.ireturn, 1) := by decide +kernel
theorem dX8_copy_88 : decode cX8_copy 88 = .ok (.aload 7, 2) := by decide +kernel
theorem dX8_copy_90 : decode cX8_copy 90 = .ok (.iload 4, 2) := by decide +kernel
theorem dX8_copy_92 : decode cX8_copy 92 = .ok (.aload 6, 2) := by decide +kernel
theorem dX8_copy_94 : decode cX8_copy 94 = .ok (.iload_n 2, 1) := by decide +kernel
theorem dX8_copy_95 : decode cX8_copy 95 = .ok (.iload 5, 2) := by decide +kernel
theorem dX8_copy_97 : decode cX8_copy 97 = .ok (.invokevirtual 102, 3) := by decide +kernel
theorem dX8_copy_100 : decode cX8_copy 100 = .ok (.iconst 1, 1) := by decide +kernel
theorem dX8_copy_101 : decode cX8_copy 101 = .ok (.ireturn, 1) := by decide +kernel
theorem dX8_mean_0 : decode cX8_mean 0 = .ok (.aload_n 0, 1) := by decide +kernel
theorem dX8_mean_1 : decode cX8_mean 1 = .ok (.iload_n 1, 1) := by decide +kernel
theorem dX8_mean_2 : decode cX8_mean 2 = .ok (.invokevirtual 64, 3) := by decide +kernel
theorem dX8_mean_5 : decode cX8_mean 5 = .ok (.astore_n 2, 1) := by decide +kernel
theorem dX8_mean_6 : decode cX8_mean 6 = .ok (.aload_n 0, 1) := by decide +kernel
theorem dX8_mean_7 : decode cX8_mean 7 = .ok (.aload_n 2, 1) := by decide +kernel
theorem dX8_mean_8 : decode cX8_mean 8 = .ok (.invokevirtual 84, 3) := by decide +kernel
theorem dX8_mean_11 : decode cX8_mean 11 = .ok (.istore_n 3, 1) := by decide +kernel
theorem dX8_mean_12 : decode cX8_mean 12 = .ok (.aload_n 2, 1) := by decide +kernel
theorem dX8_mean_13 : decode cX8_mean 13 = .ok (.ifnull 7, 3) := by decide +kernel
theorem dX8_mean_16 : decode cX8_mean 16 = .ok (.iload_n 3, 1) := by decide +kernel
theorem dX8_mean_17 : decode cX8_mean 17 = .ok (.ifCond .eq 5, 3) := by decide +kernel
theorem dX8_mean_20 : decode cX8_mean 20 = .ok (.iload_n 3, 1) := by decide +kernel
theorem dX8_mean_21 : decode cX8_mean 21 = .ok (.ireturn, 1) := by decide +kernel
theorem dX8_mean_22 : decode cX8_mean 22 = .ok (.aload_n 2, 1) := by decide +kernel
theorem dX8_mean_23 : decode cX8_mean 23 = .ok (.invokevirtual 106, 3) := by decide +kernel
theorem dX8_mean_26 : decode cX8_mean 26 = .ok (.istore 4, 2) := by decide +kernel
theorem dX8_mean_28 : decode cX8_mean 28 = .ok (.iload 4, 2) := by decide +kernel
theorem dX8_mean_30 : decode cX8_mean 30 = .ok (.ifCond .ne 9, 3) := by decide +kernel
theorem dX8_mean_33 : decode cX8_mean 33 = .ok (.aload_n 0, 1) := by decide +kernel
theorem dX8_mean_34 : decode cX8_mean 34 = .ok (.iconst 4, 1) := by decide +kernel
theorem dX8_mean_35 : decode cX8_mean 35 = .ok (.invokevirtual 91, 3) := by decide +kernel
theorem dX8_mean_38 : decode cX8_mean 38 = .ok (.ireturn, 1) := by decide +kernel
theorem dX8_mean_39 : decode cX8_mean 39 = .ok (.aload_n 0, 1) := by decide +kernel
theorem dX8_mean_40 : decode cX8_mean 40 = .ok (.aload_n 2, 1) := by decide +kernel
theorem dX8_mean_41 : decode cX8_mean 41 = .ok (.invokevirtual 110, 3) := by decide +kernel
theorem dX8_mean_44 : decode cX8_mean 44 = .ok (.iload 4, 2) := by decide +kernel
theorem dX8_mean_46 : decode cX8_mean 46 = .ok (.i2l, 1) := by decide +kernel
theorem dX8_mean_47 : decode cX8_mean 47 = .ok (.ldiv, 1) := by decide +kernel
theorem dX8_mean_48 : decode cX8_mean 48 = .ok (.l2i, 1) := by decide +kernel
theorem dX8_mean_49 : decode cX8_mean 49 = .ok (.putfield 51, 3) := by decide +kernel
theorem dX8_mean_52 : decode cX8_mean 52 = .ok (.iconst 1, 1) := by decide +kernel
theorem dX8_mean_53 : decode cX8_mean 53 = .ok (.ireturn, 1) := by decide +kernel
theorem dX8_text_0 : decode cX8_text 0 = .ok (.aload_n 0, 1) := by decide +kernel
theorem dX8_text_1 : decode cX8_text 1 = .ok (.aload_n 0, 1) := by decide +kernel
theorem dX8_text_2 : decode cX8_text 2 = .ok (.iload_n 1, 1) := by decide +kernel
theorem dX8_text_3 : decode cX8_text 3 = .ok (.invokevirtual 114, 3) := by decide +kernel
theorem dX8_text_6 : decode cX8_text 6 = .ok (.iload_n 2, 1) := by decide +kernel
theorem dX8_text_7 : decode cX8_text 7 = .ok (.bipush 32, 2) := by decide +kernel
theorem dX8_text_9 : decode cX8_text 9 = .ok (.invokevirtual 68, 3) := by decide +kernel
theorem dX8_text_12 : decode cX8_text 12 = .ok (.ireturn, 1) := by decide +kernel
theorem dX8_put_0 : decode cX8_put 0 = .ok (.aload_n 0, 1) := by decide +kernel
theorem dX8_put_1 : decode cX8_put 1 = .ok (.iload_n 1, 1) := by decide +kernel
theorem dX8_put_2 : decode cX8_put 2 = .ok (.invokevirtual 114, 3) := by decide +kernel
theorem dX8_put_5 : decode cX8_put 5 = .ok (.astore 4, 2) := by decide +kernel
theorem dX8_put_7 : decode cX8_put 7 = .ok (.aload_n 0, 1) := by decide +kernel
theorem dX8_put_8 : decode cX8_put 8 = .ok (.aload 4, 2) := by decide +kernel
theorem dX8_put_10 : decode cX8_put 10 = .ok (.iload_n 2, 1) := by decide +kernel
theorem dX8_put_11 : decode cX8_put 11 = .ok (.invokevirtual 72, 3) := by decide +kernel
theorem dX8_put_14 : decode cX8_put 14 = .ok (.istore 5, 2) := by decide +kernel
theorem dX8_put_16 : decode cX8_put 16 = .ok (.aload 4, 2) := by decide +kernel
theorem dX8_put_18 : decode cX8_put 18 = .ok (.ifnull 8, 3) := by decide +kernel
theorem dX8_put_21 : decode cX8_put 21 = .ok (.iload 5, 2) := by decide +kernel
theorem dX8_put_23 : decode cX8_put 23 = .ok (.ifCond .eq 6, 3) := by decide +kernel
theorem dX8_put_26 : decode cX8_put 26 = .ok (.iload 5, 2) := by decide +kernel
theorem dX8_put_28 : decode cX8_put 28 = .ok (.ireturn, 1) := by decide +kernel
theorem dX8_put_29 : decode cX8_put 29 = .ok (.aload 4, 2) := by decide +kernel
theorem dX8_put_31 : decode cX8_put 31 = .ok (.iload_n 2, 1) := by decide +kernel
theorem dX8_put_32 : decode cX8_put 32 = .ok (.invokevirtual 76, 3) := by decide +kernel
theorem dX8_put_35 : decode cX8_put 35 = .ok (.istore 6, 2) := by decide +kernel
theorem dX8_put_37 : decode cX8_put 37 = .ok (.aload 4, 2) := by decide +kernel
theorem dX8_put_39 : decode cX8_put 39 = .ok (.iload_n 2, 1) := by decide +kernel
theorem dX8_put_40 : decode cX8_put 40 = .ok (.iload_n 3, 1) := by decide +kernel
theorem dX8_put_41 : decode cX8_put 41 = .ok (.i2b, 1) := by decide +kernel
theorem dX8_put_42 : decode cX8_put 42 = .ok (.invokevirtual 80, 3) := by decide +kernel
theorem dX8_put_45 : decode cX8_put 45 = .ok (.iload 6, 2) := by decide +kernel
theorem dX8_put_47 : decode cX8_put 47 = .ok (.sipush 1000, 3) := by decide +kernel
theorem dX8_put_50 : decode cX8_put 50 = .ok (.iadd, 1) := by decide +kernel
theorem dX8_put_51 : decode cX8_put 51 = .ok (.ireturn, 1) := by decide +kernel
theorem dX8_fault_0 : decode cX8_fault 0 = .ok (.aload_n 0, 1) := by decide +kernel
theorem dX8_fault_1 : decode cX8_fault 1 = .ok (.iload_n 1, 1) := by decide +kernel
theorem dX8_fault_2 : decode cX8_fault 2 = .ok (.invokevirtual 114, 3) := by decide +kernel
theorem dX8_fault_5 : decode cX8_fault 5 = .ok (.astore_n 2, 1) := by decide +kernel
theorem dX8_fault_6 : decode cX8_fault 6 = .ok (.aload_n 0, 1) := by decide +kernel
theorem dX8_fault_7 : decode cX8_fault 7 = .ok (.aload_n 2, 1) := by decide +kernel
theorem dX8_fault_8 : decode cX8_fault 8 = .ok (.invokevirtual 84, 3) := by decide +kernel
theorem dX8_fault_11 : decode cX8_fault 11 = .ok (.istore_n 3, 1) := by decide +kernel
theorem dX8_fault_12 : decode cX8_fault 12 = .ok (.aload_n 2, 1) := by decide +kernel
theorem dX8_fault_13 : decode cX8_fault 13 = .ok (.ifnull 7, 3) := by decide +kernel
theorem dX8_fault_16 : decode cX8_fault 16 = .ok (.iload_n 3, 1) := by decide +kernel
theorem dX8_fault_17 : decode cX8_fault 17 = .ok (.ifCond .eq 5, 3) := by decide +kernel
theorem dX8_fault_20 : decode cX8_fault 20 = .ok (.iload_n 3, 1) := by decide +kernel
theorem dX8_fault_21 : decode cX8_fault 21 = .ok (.ireturn, 1) := by decide +kernel
theorem dX8_fault_22 : decode cX8_fault 22 = .ok (.aload_n 2, 1) := by decide +kernel
theorem dX8_fault_23 : decode cX8_fault 23 = .ok (.invokestatic 117, 3) := by decide +kernel
theorem dX8_fault_26 : decode cX8_fault 26 = .ok (.ireturn, 1) := by decide +kernel
theorem dX8_bank_0 : decode cX8_bank 0 = .ok (.aload_n 0, 1) := by decide +kernel
theorem dX8_bank_1 : decode cX8_bank 1 = .ok (.iload_n 1, 1) := by decide +kernel
theorem dX8_bank_2 : decode cX8_bank 2 = .ok (.invokevirtual 114, 3) := by decide +kernel
theorem dX8_bank_5 : decode cX8_bank 5 = .ok (.astore_n 2, 1) := by decide +kernel
theorem dX8_bank_6 : decode cX8_bank 6 = .ok (.aload_n 0, 1) := by decide +kernel
theorem dX8_bank_7 : decode cX8_bank 7 = .ok (.aload_n 2, 1) := by decide +kernel
theorem dX8_bank_8 : decode cX8_bank 8 = .ok (.invokevirtual 84, 3) := by decide +kernel
theorem dX8_bank_11 : decode cX8_bank 11 = .ok (.istore_n 3, 1) := by decide +kernel
theorem dX8_bank_12 : decode cX8_bank 12 = .ok (.aload_n 2, 1) := by decide +kernel
theorem dX8_bank_13 : decode cX8_bank 13 = .ok (.ifnull 7, 3) := by decide +kernel
theorem dX8_bank_16 : decode cX8_bank 16 = .ok (.iload_n 3, 1) := by decide +kernel
theorem dX8_bank_17 : decode cX8_bank 17 = .ok (.ifCond .eq 5, 3) := by decide +kernel
theorem dX8_bank_20 : decode cX8_bank 20 = .ok (.iload_n 3, 1) := by decide +kernel
theorem dX8_bank_21 : decode cX8_bank 21 = .ok (.ireturn, 1) := by decide +kernel
theorem dX8_bank_22 : decode cX8_bank 22 = .ok (.aload_n 2, 1) := by decide +kernel
theorem dX8_bank_23 : decode cX8_bank 23 = .ok (.invokestatic 117, 3) := by decide +kernel
theorem dX8_bank_26 : decode cX8_bank 26 = .ok (.bipush (-9), 2) := by decide +kernel
theorem dX8_bank_28 : decode cX8_bank 28 = .ok (.if_icmp .eq 6, 3) := by decide +kernel
theorem dX8_bank_31 : decode cX8_bank 31 = .ok (.bipush (-4), 2) := by decide +kernel
theorem dX8_bank_33 : decode cX8_bank 33 = .ok (.ireturn, 1) := by decide +kernel
theorem dX8_bank_34 : decode cX8_bank 34 = .ok (.aload_n 0, 1) := by decide +kernel
theorem dX8_bank_35 : decode cX8_bank 35 = .ok (.getfield 21, 3) := by decide +kernel
theorem dX8_bank_38 : decode cX8_bank 38 = .ok (.aload_n 2, 1) := by decide +kernel
theorem dX8_bank_39 : decode cX8_bank 39 = .ok (.invokestatic 122, 3) := by decide +kernel
theorem dX8_bank_42 : decode cX8_bank 42 = .ok (.iconst 0, 1) := by decide +kernel
theorem dX8_bank_43 : decode cX8_bank 43 = .ok (.istore 4, 2) := by decide +kernel
theorem dX8_bank_45 : decode cX8_bank 45 = .ok (.iload 4, 2) := by decide +kernel
theorem dX8_bank_47 : decode cX8_bank 47 = .ok (.aload_n 0, 1) := by decide +kernel
theorem dX8_bank_48 : decode cX8_bank 48 = .ok (.getfield 25, 3) := by decide +kernel
theorem dX8_bank_51 : decode cX8_bank 51 = .ok (.arraylength, 1) := by decide +kernel
theorem dX8_bank_52 : decode cX8_bank 52 = .ok (.if_icmp .ge 27, 3) := by decide +kernel
theorem dX8_bank_55 : decode cX8_bank 55 = .ok (.aload_n 0, 1) := by decide +kernel
theorem dX8_bank_56 : decode cX8_bank 56 = .ok (.iload 4, 2) := by decide +kernel
theorem dX8_bank_58 : decode cX8_bank 58 = .ok (.invokevirtual 126, 3) := by decide +kernel
theorem dX8_bank_61 : decode cX8_bank 61 = .ok (.astore 5, 2) := by decide +kernel
theorem dX8_bank_63 : decode cX8_bank 63 = .ok (.aload 5, 2) := by decide +kernel
theorem dX8_bank_65 : decode cX8_bank 65 = .ok (.ifnull 8, 3) := by decide +kernel
theorem dX8_bank_68 : decode cX8_bank 68 = .ok (.aload 5, 2) := by decide +kernel
theorem dX8_bank_70 : decode cX8_bank 70 = .ok (.invokevirtual 130, 3) := by decide +kernel
theorem dX8_bank_73 : decode cX8_bank 73 = .ok (.iinc 4 1, 3) := by decide +kernel
theorem dX8_bank_76 : decode cX8_bank 76 = .ok (.goto (-31), 3) := by decide +kernel
theorem dX8_bank_79 : decode cX8_bank 79 = .ok (.aload_n 0, 1) := by decide +kernel
theorem dX8_bank_80 : decode cX8_bank 80 = .ok (.getfield 21, 3) := by decide +kernel
theorem dX8_bank_83 : decode cX8_bank 83 = .ok (.invokevirtual 133, 3) := by decide +kernel
theorem dX8_bank_86 : decode cX8_bank 86 = .ok (.ireturn, 1) := by decide +kernel
theorem dX8_light_0 : decode cX8_light 0 = .ok (.aload_n 0, 1) := by decide +kernel
theorem dX8_light_1 : decode cX8_light 1 = .ok (.getfield 21, 3) := by decide +kernel
theorem dX8_light_4 : decode cX8_light 4 = .ok (.iload_n 1, 1) := by decide +kernel
theorem dX8_light_5 : decode cX8_light 5 = .ok (.invokevirtual 134, 3) := by decide +kernel
theorem dX8_light_8 : decode cX8_light 8 = .ok (.ifCond .eq 13, 3) := by decide +kernel
theorem dX8_light_11 : decode cX8_light 11 = .ok (.iload_n 2, 1) := by decide +kernel
theorem dX8_light_12 : decode cX8_light 12 = .ok (.ifCond .lt 9, 3) := by decide +kernel
theorem dX8_light_15 : decode cX8_light 15 = .ok (.iload_n 2, 1) := by decide +kernel
theorem dX8_light_16 : decode cX8_light 16 = .ok (.bipush 6, 2) := by decide +kernel
theorem dX8_light_18 : decode cX8_light 18 = .ok (.if_icmp .le 5, 3) := by decide +kernel
theorem dX8_light_21 : decode cX8_light 21 = .ok (.iconst (-1), 1) := by decide +kernel
theorem dX8_light_22 : decode cX8_light 22 = .ok (.ireturn, 1) := by decide +kernel
theorem dX8_light_23 : decode cX8_light 23 = .ok (.aload_n 0, 1) := by decide +kernel
theorem dX8_light_24 : decode cX8_light 24 = .ok (.aload_n 0, 1) := by decide +kernel
theorem dX8_light_25 : decode cX8_light 25 = .ok (.getfield 21, 3) := by decide +kernel
theorem dX8_light_28 : decode cX8_light 28 = .ok (.iload_n 1, 1) := by decide +kernel
theorem dX8_light_29 : decode cX8_light 29 = .ok (.iload_n 2, 1) := by decide +kernel
theorem dX8_light_30 : decode cX8_light 30 = .ok (.invokevirtual 138, 3) := by decide +kernel
theorem dX8_light_33 : decode cX8_light 33 = .ok (.putfield 51, 3) := by decide +kernel
theorem dX8_light_36 : decode cX8_light 36 = .ok (.iconst 1, 1) := by decide +kernel
theorem dX8_light_37 : decode cX8_light 37 = .ok (.ireturn, 1) := by decide +kernel
theorem dX8_mark_0 : decode cX8_mark 0 = .ok (.aload_n 0, 1) := by decide +kernel
theorem dX8_mark_1 : decode cX8_mark 1 = .ok (.getfield 21, 3) := by decide +kernel
theorem dX8_mark_4 : decode cX8_mark 4 = .ok (.iload_n 1, 1) := by decide +kernel
theorem dX8_mark_5 : decode cX8_mark 5 = .ok (.invokevirtual 134, 3) := by decide +kernel
theorem dX8_mark_8 : decode cX8_mark 8 = .ok (.ifCond .eq 13, 3) := by decide +kernel
theorem dX8_mark_11 : decode cX8_mark 11 = .ok (.iload_n 2, 1) := by decide +kernel
theorem dX8_mark_12 : decode cX8_mark 12 = .ok (.ifCond .le 9, 3) := by decide +kernel
theorem dX8_mark_15 : decode cX8_mark 15 = .ok (.iload_n 2, 1) := by decide +kernel
theorem dX8_mark_16 : decode cX8_mark 16 = .ok (.bipush 6, 2) := by decide +kernel
theorem dX8_mark_18 : decode cX8_mark 18 = .ok (.if_icmp .lt 5, 3) := by decide +kernel
theorem dX8_mark_21 : decode cX8_mark 21 = .ok (.iconst (-1), 1) := by decide +kernel
theorem dX8_mark_22 : decode cX8_mark 22 = .ok (.ireturn, 1) := by decide +kernel
theorem dX8_mark_23 : decode cX8_mark 23 = .ok (.aload_n 0, 1) := by decide +kernel
theorem dX8_mark_24 : decode cX8_mark 24 = .ok (.getfield 21, 3) := by decide +kernel
theorem dX8_mark_27 : decode cX8_mark 27 = .ok (.iload_n 1, 1) := by decide +kernel
theorem dX8_mark_28 : decode cX8_mark 28 = .ok (.invokevirtual 142, 3) := by decide +kernel
theorem dX8_mark_31 : decode cX8_mark 31 = .ok (.iload_n 2, 1) := by decide +kernel
theorem dX8_mark_32 : decode cX8_mark 32 = .ok (.invokestatic 145, 3) := by decide +kernel
theorem dX8_mark_35 : decode cX8_mark 35 = .ok (.ifCond .ne 9, 3) := by decide +kernel
theorem dX8_mark_38 : decode cX8_mark 38 = .ok (.aload_n 0, 1) := by decide +kernel
theorem dX8_mark_39 : decode cX8_mark 39 = .ok (.iconst 3, 1) := by decide +kernel
theorem dX8_mark_40 : decode cX8_mark 40 = .ok (.invokevirtual 91, 3) := by decide +kernel
theorem dX8_mark_43 : decode cX8_mark 43 = .ok (.ireturn, 1) := by decide +kernel
theorem dX8_mark_44 : decode cX8_mark 44 = .ok (.iload_n 2, 1) := by decide +kernel
theorem dX8_mark_45 : decode cX8_mark 45 = .ok (.aload_n 0, 1) := by decide +kernel
theorem dX8_mark_46 : decode cX8_mark 46 = .ok (.getfield 21, 3) := by decide +kernel
theorem dX8_mark_49 : decode cX8_mark 49 = .ok (.iload_n 1, 1) := by decide +kernel
theorem dX8_mark_50 : decode cX8_mark 50 = .ok (.invokevirtual 142, 3) := by decide +kernel
theorem dX8_mark_53 : decode cX8_mark 53 = .ok (.aload_n 0, 1) := by decide +kernel
theorem dX8_mark_54 : decode cX8_mark 54 = .ok (.getfield 21, 3) := by decide +kernel
theorem dX8_mark_57 : decode cX8_mark 57 = .ok (.iload_n 1, 1) := by decide +kernel
theorem dX8_mark_58 : decode cX8_mark 58 = .ok (.invokevirtual 150, 3) := by decide +kernel
theorem dX8_mark_61 : decode cX8_mark 61 = .ok (.aload_n 0, 1) := by decide +kernel
theorem dX8_mark_62 : decode cX8_mark 62 = .ok (.getfield 21, 3) := by decide +kernel
theorem dX8_mark_65 : decode cX8_mark 65 = .ok (.invokevirtual 153, 3) := by decide +kernel
theorem dX8_mark_68 : decode cX8_mark 68 = .ok (.invokestatic 156, 3) := by decide +kernel
theorem dX8_mark_71 : decode cX8_mark 71 = .ok (.ireturn, 1) := by decide +kernel
theorem dX8_glows_0 : decode cX8_glows 0 = .ok (.aload_n 0, 1) := by decide +kernel
theorem dX8_glows_1 : decode cX8_glows 1 = .ok (.getfield 21, 3) := by decide +kernel
theorem dX8_glows_4 : decode cX8_glows 4 = .ok (.iload_n 1, 1) := by decide +kernel
theorem dX8_glows_5 : decode cX8_glows 5 = .ok (.invokevirtual 134, 3) := by decide +kernel
theorem dX8_glows_8 : decode cX8_glows 8 = .ok (.ifCond .eq 13, 3) := by decide +kernel
theorem dX8_glows_11 : decode cX8_glows 11 = .ok (.iload_n 2, 1) := by decide +kernel
theorem dX8_glows_12 : decode cX8_glows 12 = .ok (.ifCond .lt 9, 3) := by decide +kernel
theorem dX8_glows_15 : decode cX8_glows 15 = .ok (.iload_n 2, 1) := by decide +kernel
theorem dX8_glows_16 : decode cX8_glows 16 = .ok (.bipush 99, 2) := by decide +kernel
theorem dX8_glows_18 : decode cX8_glows 18 = .ok (.if_icmp .le 5, 3) := by decide +kernel
theorem dX8_glows_21 : decode cX8_glows 21 = .ok (.iconst (-1), 1) := by decide +kernel
theorem dX8_glows_22 : decode cX8_glows 22 = .ok (.ireturn, 1) := by decide +kernel
theorem dX8_glows_23 : decode cX8_glows 23 = .ok (.aload_n 0, 1) := by decide +kernel
theorem dX8_glows_24 : decode cX8_glows 24 = .ok (.getfield 21, 3) := by decide +kernel
theorem dX8_glows_27 : decode cX8_glows 27 = .ok (.iload_n 1, 1) := by decide +kernel
theorem dX8_glows_28 : decode cX8_glows 28 = .ok (.iload_n 2, 1) := by decide +kernel
theorem dX8_glows_29 : decode cX8_glows 29 = .ok (.invokevirtual 160, 3) := by decide +kernel
theorem dX8_glows_32 : decode cX8_glows 32 = .ok (.ireturn, 1) := by decide +kernel
theorem dX8_night_0 : decode cX8_night 0 = .ok (.aload_n 0, 1) := by decide +kernel
theorem dX8_night_1 : decode cX8_night 1 = .ok (.getfield 21, 3) := by decide +kernel
theorem dX8_night_4 : decode cX8_night 4 = .ok (.invokevirtual 133, 3) := by decide +kernel
theorem dX8_night_7 : decode cX8_night 7 = .ok (.ifCond .eq 15, 3) := by decide +kernel
theorem dX8_night_10 : decode cX8_night 10 = .ok (.aload_n 0, 1) := by decide +kernel
theorem dX8_night_11 : decode cX8_night 11 = .ok (.getfield 21, 3) := by decide +kernel
theorem dX8_night_14 : decode cX8_night 14 = .ok (.invokevirtual 153, 3) := by decide +kernel
theorem dX8_night_17 : decode cX8_night 17 = .ok (.bipush 40, 2) := by decide +kernel
theorem dX8_night_19 : decode cX8_night 19 = .ok (.if_icmp .lt 6, 3) := by decide +kernel
theorem dX8_night_22 : decode cX8_night 22 = .ok (.bipush (-4), 2) := by decide +kernel
theorem dX8_night_24 : decode cX8_night 24 = .ok (.ireturn, 1) := by decide +kernel
theorem dX8_night_25 : decode cX8_night 25 = .ok (.aload_n 0, 1) := by decide +kernel
theorem dX8_night_26 : decode cX8_night 26 = .ok (.getfield 21, 3) := by decide +kernel
theorem dX8_night_29 : decode cX8_night 29 = .ok (.invokevirtual 163, 3) := by decide +kernel
theorem dX8_night_32 : decode cX8_night 32 = .ok (.bipush 40, 2) := by decide +kernel
theorem dX8_night_34 : decode cX8_night 34 = .ok (.if_icmp .lt 6, 3) := by decide +kernel
theorem dX8_night_37 : decode cX8_night 37 = .ok (.bipush (-2), 2) := by decide +kernel
theorem dX8_night_39 : decode cX8_night 39 = .ok (.ireturn, 1) := by decide +kernel
theorem dX8_night_40 : decode cX8_night 40 = .ok (.aload_n 0, 1) := by decide +kernel
theorem dX8_night_41 : decode cX8_night 41 = .ok (.getfield 21, 3) := by decide +kernel
theorem dX8_night_44 : decode cX8_night 44 = .ok (.invokevirtual 166, 3) := by decide +kernel
theorem dX8_night_47 : decode cX8_night 47 = .ok (.aload_n 0, 1) := by decide +kernel
theorem dX8_night_48 : decode cX8_night 48 = .ok (.getfield 21, 3) := by decide +kernel
theorem dX8_night_51 : decode cX8_night 51 = .ok (.invokevirtual 169, 3) := by decide +kernel
theorem dX8_night_54 : decode cX8_night 54 = .ok (.ireturn, 1) := by decide +kernel
theorem dX8_answer_0 : decode cX8_answer 0 = .ok (.aload_n 0, 1) := by decide +kernel
theorem dX8_answer_1 : decode cX8_answer 1 = .ok (.getfield 21, 3) := by decide +kernel
theorem dX8_answer_4 : decode cX8_answer 4 = .ok (.iload_n 1, 1) := by decide +kernel
theorem dX8_answer_5 : decode cX8_answer 5 = .ok (.invokevirtual 134, 3) := by decide +kernel
theorem dX8_answer_8 : decode cX8_answer 8 = .ok (.ifCond .ne 5, 3) := by decide +kernel
theorem dX8_answer_11 : decode cX8_answer 11 = .ok (.iconst (-1), 1) := by decide +kernel
theorem dX8_answer_12 : decode cX8_answer 12 = .ok (.ireturn, 1) := by decide +kernel
theorem dX8_answer_13 : decode cX8_answer 13 = .ok (.aload_n 0, 1) := by decide +kernel
theorem dX8_answer_14 : decode cX8_answer 14 = .ok (.getfield 21, 3) := by decide +kernel
theorem dX8_answer_17 : decode cX8_answer 17 = .ok (.iload_n 1, 1) := by decide +kernel
theorem dX8_answer_18 : decode cX8_answer 18 = .ok (.invokevirtual 172, 3) := by decide +kernel
theorem dX8_answer_21 : decode cX8_answer 21 = .ok (.ifCond .ne 6, 3) := by decide +kernel
theorem dX8_answer_24 : decode cX8_answer 24 = .ok (.bipush (-4), 2) := by decide +kernel
theorem dX8_answer_26 : decode cX8_answer 26 = .ok (.ireturn, 1) := by decide +kernel
theorem dX8_answer_27 : decode cX8_answer 27 = .ok (.aload_n 0, 1) := by decide +kernel
theorem dX8_answer_28 : decode cX8_answer 28 = .ok (.getfield 21, 3) := by decide +kernel
theorem dX8_answer_31 : decode cX8_answer 31 = .ok (.invokevirtual 163, 3) := by decide +kernel
theorem dX8_answer_34 : decode cX8_answer 34 = .ok (.bipush 40, 2) := by decide +kernel
theorem dX8_answer_36 : decode cX8_answer 36 = .ok (.if_icmp .lt 6, 3) := by decide +kernel
theorem dX8_answer_39 : decode cX8_answer 39 = .ok (.bipush (-2), 2) := by decide +kernel
theorem dX8_answer_41 : decode cX8_answer 41 = .ok (.ireturn, 1) := by decide +kernel
theorem dX8_answer_42 : decode cX8_answer 42 = .ok (.aload_n 0, 1) := by decide +kernel
theorem dX8_answer_43 : decode cX8_answer 43 = .ok (.getfield 21, 3) := by decide +kernel
theorem dX8_answer_46 : decode cX8_answer 46 = .ok (.iload_n 1, 1) := by decide +kernel
theorem dX8_answer_47 : decode cX8_answer 47 = .ok (.invokevirtual 175, 3) := by decide +kernel
theorem dX8_answer_50 : decode cX8_answer 50 = .ok (.aload_n 0, 1) := by decide +kernel
theorem dX8_answer_51 : decode cX8_answer 51 = .ok (.getfield 21, 3) := by decide +kernel
theorem dX8_answer_54 : decode cX8_answer 54 = .ok (.iload_n 1, 1) := by decide +kernel
theorem dX8_answer_55 : decode cX8_answer 55 = .ok (.aload_n 0, 1) := by decide +kernel
theorem dX8_answer_56 : decode cX8_answer 56 = .ok (.getfield 21, 3) := by decide +kernel
theorem dX8_answer_59 : decode cX8_answer 59 = .ok (.invokevirtual 153, 3) := by decide +kernel
theorem dX8_answer_62 : decode cX8_answer 62 = .ok (.invokevirtual 160, 3) := by decide +kernel
theorem dX8_answer_65 : decode cX8_answer 65 = .ok (.ireturn, 1) := by decide +kernel
theorem dX8_relight_0 : decode cX8_relight 0 = .ok (.aload_n 0, 1) := by decide +kernel
theorem dX8_relight_1 : decode cX8_relight 1 = .ok (.getfield 21, 3) := by decide +kernel
theorem dX8_relight_4 : decode cX8_relight 4 = .ok (.iload_n 1, 1) := by decide +kernel
theorem dX8_relight_5 : decode cX8_relight 5 = .ok (.invokevirtual 134, 3) := by decide +kernel
theorem dX8_relight_8 : decode cX8_relight 8 = .ok (.ifCond .ne 5, 3) := by decide +kernel
theorem dX8_relight_11 : decode cX8_relight 11 = .ok (.iconst (-1), 1) := by decide +kernel
theorem dX8_relight_12 : decode cX8_relight 12 = .ok (.ireturn, 1) := by decide +kernel
theorem dX8_relight_13 : decode cX8_relight 13 = .ok (.aload_n 0, 1) := by decide +kernel
theorem dX8_relight_14 : decode cX8_relight 14 = .ok (.getfield 21, 3) := by decide +kernel
theorem dX8_relight_17 : decode cX8_relight 17 = .ok (.iload_n 1, 1) := by decide +kernel
theorem dX8_relight_18 : decode cX8_relight 18 = .ok (.invokevirtual 172, 3) := by decide +kernel
theorem dX8_relight_21 : decode cX8_relight 21 = .ok (.ifCond .eq 6, 3) := by decide +kernel
theorem dX8_relight_24 : decode cX8_relight 24 = .ok (.bipush (-4), 2) := by decide +kernel
theorem dX8_relight_26 : decode cX8_relight 26 = .ok (.ireturn, 1) := by decide +kernel
theorem dX8_relight_27 : decode cX8_relight 27 = .ok (.aload_n 0, 1) := by decide +kernel
theorem dX8_relight_28 : decode cX8_relight 28 = .ok (.getfield 21, 3) := by decide +kernel
theorem dX8_relight_31 : decode cX8_relight 31 = .ok (.invokevirtual 163, 3) := by decide +kernel
theorem dX8_relight_34 : decode cX8_relight 34 = .ok (.bipush 40, 2) := by decide +kernel
theorem dX8_relight_36 : decode cX8_relight 36 = .ok (.if_icmp .lt 6, 3) := by decide +kernel
theorem dX8_relight_39 : decode cX8_relight 39 = .ok (.bipush (-2), 2) := by decide +kernel
theorem dX8_relight_41 : decode cX8_relight 41 = .ok (.ireturn, 1) := by decide +kernel
theorem dX8_relight_42 : decode cX8_relight 42 = .ok (.aload_n 0, 1) := by decide +kernel
theorem dX8_relight_43 : decode cX8_relight 43 = .ok (.getfield 21, 3) := by decide +kernel
theorem dX8_relight_46 : decode cX8_relight 46 = .ok (.iload_n 1, 1) := by decide +kernel
theorem dX8_relight_47 : decode cX8_relight 47 = .ok (.invokevirtual 178, 3) := by decide +kernel
theorem dX8_relight_50 : decode cX8_relight 50 = .ok (.aload_n 0, 1) := by decide +kernel
theorem dX8_relight_51 : decode cX8_relight 51 = .ok (.getfield 21, 3) := by decide +kernel
theorem dX8_relight_54 : decode cX8_relight 54 = .ok (.iload_n 1, 1) := by decide +kernel
theorem dX8_relight_55 : decode cX8_relight 55 = .ok (.aload_n 0, 1) := by decide +kernel
theorem dX8_relight_56 : decode cX8_relight 56 = .ok (.getfield 21, 3) := by decide +kernel
theorem dX8_relight_59 : decode cX8_relight 59 = .ok (.invokevirtual 153, 3) := by decide +kernel
theorem dX8_relight_62 : decode cX8_relight 62 = .ok (.invokevirtual 160, 3) := by decide +kernel
theorem dX8_relight_65 : decode cX8_relight 65 = .ok (.ireturn, 1) := by decide +kernel
theorem dX8_carry_0 : decode cX8_carry 0 = .ok (.aload_n 0, 1) := by decide +kernel
theorem dX8_carry_1 : decode cX8_carry 1 = .ok (.getfield 21, 3) := by decide +kernel
theorem dX8_carry_4 : decode cX8_carry 4 = .ok (.iload_n 1, 1) := by decide +kernel
theorem dX8_carry_5 : decode cX8_carry 5 = .ok (.invokevirtual 134, 3) := by decide +kernel
theorem dX8_carry_8 : decode cX8_carry 8 = .ok (.ifCond .eq 10, 3) := by decide +kernel
theorem dX8_carry_11 : decode cX8_carry 11 = .ok (.iload_n 2, 1) := by decide +kernel
theorem dX8_carry_12 : decode cX8_carry 12 = .ok (.invokestatic 181, 3) := by decide +kernel
theorem dX8_carry_15 : decode cX8_carry 15 = .ok (.ifCond .ne 5, 3) := by decide +kernel
theorem dX8_carry_18 : decode cX8_carry 18 = .ok (.iconst (-1), 1) := by decide +kernel
theorem dX8_carry_19 : decode cX8_carry 19 = .ok (.ireturn, 1) := by decide +kernel
theorem dX8_carry_20 : decode cX8_carry 20 = .ok (.aload_n 0, 1) := by decide +kernel
theorem dX8_carry_21 : decode cX8_carry 21 = .ok (.getfield 21, 3) := by decide +kernel
theorem dX8_carry_24 : decode cX8_carry 24 = .ok (.iload_n 1, 1) := by decide +kernel
theorem dX8_carry_25 : decode cX8_carry 25 = .ok (.invokevirtual 184, 3) := by decide +kernel
theorem dX8_carry_28 : decode cX8_carry 28 = .ok (.istore_n 3, 1) := by decide +kernel
theorem dX8_carry_29 : decode cX8_carry 29 = .ok (.iload_n 3, 1) := by decide +kernel
theorem dX8_carry_30 : decode cX8_carry 30 = .ok (.iload_n 2, 1) := by decide +kernel
theorem dX8_carry_31 : decode cX8_carry 31 = .ok (.if_icmp .ne 6, 3) := by decide +kernel
theorem dX8_carry_34 : decode cX8_carry 34 = .ok (.bipush (-4), 2) := by decide +kernel
theorem dX8_carry_36 : decode cX8_carry 36 = .ok (.ireturn, 1) := by decide +kernel
theorem dX8_carry_37 : decode cX8_carry 37 = .ok (.aload_n 0, 1) := by decide +kernel
theorem dX8_carry_38 : decode cX8_carry 38 = .ok (.getfield 21, 3) := by decide +kernel
theorem dX8_carry_41 : decode cX8_carry 41 = .ok (.invokevirtual 163, 3) := by decide +kernel
theorem dX8_carry_44 : decode cX8_carry 44 = .ok (.bipush 40, 2) := by decide +kernel
theorem dX8_carry_46 : decode cX8_carry 46 = .ok (.if_icmp .lt 6, 3) := by decide +kernel
theorem dX8_carry_49 : decode cX8_carry 49 = .ok (.bipush (-2), 2) := by decide +kernel
theorem dX8_carry_51 : decode cX8_carry 51 = .ok (.ireturn, 1) := by decide +kernel
theorem dX8_carry_52 : decode cX8_carry 52 = .ok (.aload_n 0, 1) := by decide +kernel
theorem dX8_carry_53 : decode cX8_carry 53 = .ok (.getfield 21, 3) := by decide +kernel
theorem dX8_carry_56 : decode cX8_carry 56 = .ok (.iload_n 1, 1) := by decide +kernel
theorem dX8_carry_57 : decode cX8_carry 57 = .ok (.iload_n 2, 1) := by decide +kernel
theorem dX8_carry_58 : decode cX8_carry 58 = .ok (.invokevirtual 187, 3) := by decide +kernel
theorem dX8_carry_61 : decode cX8_carry 61 = .ok (.iload_n 3, 1) := by decide +kernel
theorem dX8_carry_62 : decode cX8_carry 62 = .ok (.ireturn, 1) := by decide +kernel
theorem dX8_undo_0 : decode cX8_undo 0 = .ok (.iload_n 1, 1) := by decide +kernel
theorem dX8_undo_1 : decode cX8_undo 1 = .ok (.ifCond .lt 14, 3) := by decide +kernel
theorem dX8_undo_4 : decode cX8_undo 4 = .ok (.iload_n 1, 1) := by decide +kernel
theorem dX8_undo_5 : decode cX8_undo 5 = .ok (.aload_n 0, 1) := by decide +kernel
theorem dX8_undo_6 : decode cX8_undo 6 = .ok (.getfield 21, 3) := by decide +kernel
theorem dX8_undo_9 : decode cX8_undo 9 = .ok (.invokevirtual 163, 3) := by decide +kernel
theorem dX8_undo_12 : decode cX8_undo 12 = .ok (.if_icmp .le 5, 3) := by decide +kernel
theorem dX8_undo_15 : decode cX8_undo 15 = .ok (.iconst (-1), 1) := by decide +kernel
theorem dX8_undo_16 : decode cX8_undo 16 = .ok (.ireturn, 1) := by decide +kernel
theorem dX8_undo_17 : decode cX8_undo 17 = .ok (.aload_n 0, 1) := by decide +kernel
theorem dX8_undo_18 : decode cX8_undo 18 = .ok (.getfield 21, 3) := by decide +kernel
theorem dX8_undo_21 : decode cX8_undo 21 = .ok (.invokevirtual 163, 3) := by decide +kernel
theorem dX8_undo_24 : decode cX8_undo 24 = .ok (.iload_n 1, 1) := by decide +kernel
theorem dX8_undo_25 : decode cX8_undo 25 = .ok (.isub, 1) := by decide +kernel
theorem dX8_undo_26 : decode cX8_undo 26 = .ok (.istore_n 2, 1) := by decide +kernel
theorem dX8_undo_27 : decode cX8_undo 27 = .ok (.aload_n 0, 1) := by decide +kernel
theorem dX8_undo_28 : decode cX8_undo 28 = .ok (.getfield 21, 3) := by decide +kernel
theorem dX8_undo_31 : decode cX8_undo 31 = .ok (.iload_n 1, 1) := by decide +kernel
theorem dX8_undo_32 : decode cX8_undo 32 = .ok (.invokevirtual 190, 3) := by decide +kernel
theorem dX8_undo_35 : decode cX8_undo 35 = .ok (.iload_n 2, 1) := by decide +kernel
theorem dX8_undo_36 : decode cX8_undo 36 = .ok (.ireturn, 1) := by decide +kernel
theorem dX8_keep_0 : decode cX8_keep 0 = .ok (.aload_n 0, 1) := by decide +kernel
theorem dX8_keep_1 : decode cX8_keep 1 = .ok (.iload_n 1, 1) := by decide +kernel
theorem dX8_keep_2 : decode cX8_keep 2 = .ok (.invokevirtual 126, 3) := by decide +kernel
theorem dX8_keep_5 : decode cX8_keep 5 = .ok (.astore_n 2, 1) := by decide +kernel
theorem dX8_keep_6 : decode cX8_keep 6 = .ok (.aload_n 2, 1) := by decide +kernel
theorem dX8_keep_7 : decode cX8_keep 7 = .ok (.ifnonnull 5, 3) := by decide +kernel
theorem dX8_keep_10 : decode cX8_keep 10 = .ok (.iconst (-1), 1) := by decide +kernel
theorem dX8_keep_11 : decode cX8_keep 11 = .ok (.ireturn, 1) := by decide +kernel
theorem dX8_keep_12 : decode cX8_keep 12 = .ok (.aload_n 0, 1) := by decide +kernel
theorem dX8_keep_13 : decode cX8_keep 13 = .ok (.getfield 21, 3) := by decide +kernel
theorem dX8_keep_16 : decode cX8_keep 16 = .ok (.invokevirtual 133, 3) := by decide +kernel
theorem dX8_keep_19 : decode cX8_keep 19 = .ok (.ifCond .ne 6, 3) := by decide +kernel
theorem dX8_keep_22 : decode cX8_keep 22 = .ok (.bipush (-4), 2) := by decide +kernel
theorem dX8_keep_24 : decode cX8_keep 24 = .ok (.ireturn, 1) := by decide +kernel
theorem dX8_keep_25 : decode cX8_keep 25 = .ok (.aload_n 2, 1) := by decide +kernel
theorem dX8_keep_26 : decode cX8_keep 26 = .ok (.aload_n 0, 1) := by decide +kernel
theorem dX8_keep_27 : decode cX8_keep 27 = .ok (.getfield 21, 3) := by decide +kernel
theorem dX8_keep_30 : decode cX8_keep 30 = .ok (.invokevirtual 193, 3) := by decide +kernel
theorem dX8_keep_33 : decode cX8_keep 33 = .ok (.aload_n 2, 1) := by decide +kernel
theorem dX8_keep_34 : decode cX8_keep 34 = .ok (.invokevirtual 163, 3) := by decide +kernel
theorem dX8_keep_37 : decode cX8_keep 37 = .ok (.ireturn, 1) := by decide +kernel
theorem dX8_on_0 : decode cX8_on 0 = .ok (.aload_n 0, 1) := by decide +kernel
theorem dX8_on_1 : decode cX8_on 1 = .ok (.iload_n 1, 1) := by decide +kernel
theorem dX8_on_2 : decode cX8_on 2 = .ok (.invokevirtual 126, 3) := by decide +kernel
theorem dX8_on_5 : decode cX8_on 5 = .ok (.astore_n 2, 1) := by decide +kernel
theorem dX8_on_6 : decode cX8_on 6 = .ok (.aload_n 2, 1) := by decide +kernel
theorem dX8_on_7 : decode cX8_on 7 = .ok (.ifnonnull 5, 3) := by decide +kernel
theorem dX8_on_10 : decode cX8_on 10 = .ok (.iconst (-1), 1) := by decide +kernel
theorem dX8_on_11 : decode cX8_on 11 = .ok (.ireturn, 1) := by decide +kernel
theorem dX8_on_12 : decode cX8_on 12 = .ok (.aload_n 2, 1) := by decide +kernel
theorem dX8_on_13 : decode cX8_on 13 = .ok (.invokevirtual 133, 3) := by decide +kernel
theorem dX8_on_16 : decode cX8_on 16 = .ok (.ifCond .ne 9, 3) := by decide +kernel
theorem dX8_on_19 : decode cX8_on 19 = .ok (.aload_n 0, 1) := by decide +kernel
theorem dX8_on_20 : decode cX8_on 20 = .ok (.iconst 1, 1) := by decide +kernel
theorem dX8_on_21 : decode cX8_on 21 = .ok (.invokevirtual 91, 3) := by decide +kernel
theorem dX8_on_24 : decode cX8_on 24 = .ok (.ireturn, 1) := by decide +kernel
theorem dX8_on_25 : decode cX8_on 25 = .ok (.aload_n 0, 1) := by decide +kernel
theorem dX8_on_26 : decode cX8_on 26 = .ok (.getfield 21, 3) := by decide +kernel
theorem dX8_on_29 : decode cX8_on 29 = .ok (.aload_n 2, 1) := by decide +kernel
theorem dX8_on_30 : decode cX8_on 30 = .ok (.invokevirtual 193, 3) := by decide +kernel
theorem dX8_on_33 : decode cX8_on 33 = .ok (.aload_n 0, 1) := by decide +kernel
theorem dX8_on_34 : decode cX8_on 34 = .ok (.getfield 21, 3) := by decide +kernel
theorem dX8_on_37 : decode cX8_on 37 = .ok (.invokevirtual 163, 3) := by decide +kernel
theorem dX8_on_40 : decode cX8_on 40 = .ok (.ireturn, 1) := by decide +kernel
theorem dX8_bright_0 : decode cX8_bright 0 = .ok (.iload_n 1, 1) := by decide +kernel
theorem dX8_bright_1 : decode cX8_bright 1 = .ok (.invokestatic 181, 3) := by decide +kernel
theorem dX8_bright_4 : decode cX8_bright 4 = .ok (.ifCond .eq 21, 3) := by decide +kernel
theorem dX8_bright_7 : decode cX8_bright 7 = .ok (.aload_n 0, 1) := by decide +kernel
theorem dX8_bright_8 : decode cX8_bright 8 = .ok (.getfield 21, 3) := by decide +kernel
theorem dX8_bright_11 : decode cX8_bright 11 = .ok (.iload_n 1, 1) := by decide +kernel
theorem dX8_bright_12 : decode cX8_bright 12 = .ok (.aload_n 0, 1) := by decide +kernel
theorem dX8_bright_13 : decode cX8_bright 13 = .ok (.getfield 21, 3) := by decide +kernel
theorem dX8_bright_16 : decode cX8_bright 16 = .ok (.invokevirtual 153, 3) := by decide +kernel
theorem dX8_bright_19 : decode cX8_bright 19 = .ok (.invokevirtual 197, 3) := by decide +kernel
theorem dX8_bright_22 : decode cX8_bright 22 = .ok (.goto 4, 3) := by decide +kernel
theorem dX8_bright_25 : decode cX8_bright 25 = .ok (.iconst (-1), 1) := by decide +kernel
theorem dX8_bright_26 : decode cX8_bright 26 = .ok (.ireturn, 1) := by decide +kernel
theorem dX8_along_0 : decode cX8_along 0 = .ok (.iload_n 1, 1) := by decide +kernel
theorem dX8_along_1 : decode cX8_along 1 = .ok (.iload_n 2, 1) := by decide +kernel
theorem dX8_along_2 : decode cX8_along 2 = .ok (.invokestatic 200, 3) := by decide +kernel
theorem dX8_along_5 : decode cX8_along 5 = .ok (.ifCond .eq 15, 3) := by decide +kernel
theorem dX8_along_8 : decode cX8_along 8 = .ok (.aload_n 0, 1) := by decide +kernel
theorem dX8_along_9 : decode cX8_along 9 = .ok (.getfield 21, 3) := by decide +kernel
theorem dX8_along_12 : decode cX8_along 12 = .ok (.iload_n 1, 1) := by decide +kernel
theorem dX8_along_13 : decode cX8_along 13 = .ok (.iload_n 2, 1) := by decide +kernel
theorem dX8_along_14 : decode cX8_along 14 = .ok (.invokevirtual 203, 3) := by decide +kernel
theorem dX8_along_17 : decode cX8_along 17 = .ok (.goto 4, 3) := by decide +kernel
theorem dX8_along_20 : decode cX8_along 20 = .ok (.iconst (-1), 1) := by decide +kernel
theorem dX8_along_21 : decode cX8_along 21 = .ok (.ireturn, 1) := by decide +kernel
theorem dX8_when_0 : decode cX8_when 0 = .ok (.iload_n 1, 1) := by decide +kernel
theorem dX8_when_1 : decode cX8_when 1 = .ok (.invokestatic 181, 3) := by decide +kernel
theorem dX8_when_4 : decode cX8_when 4 = .ok (.ifCond .eq 14, 3) := by decide +kernel
theorem dX8_when_7 : decode cX8_when 7 = .ok (.iload_n 2, 1) := by decide +kernel
theorem dX8_when_8 : decode cX8_when 8 = .ok (.ifCond .lt 10, 3) := by decide +kernel
theorem dX8_when_11 : decode cX8_when 11 = .ok (.iload_n 2, 1) := by decide +kernel
theorem dX8_when_12 : decode cX8_when 12 = .ok (.sipush 200, 3) := by decide +kernel
theorem dX8_when_15 : decode cX8_when 15 = .ok (.if_icmp .le 5, 3) := by decide +kernel
theorem dX8_when_18 : decode cX8_when 18 = .ok (.iconst (-1), 1) := by decide +kernel
theorem dX8_when_19 : decode cX8_when 19 = .ok (.ireturn, 1) := by decide +kernel
theorem dX8_when_20 : decode cX8_when 20 = .ok (.iconst 0, 1) := by decide +kernel
theorem dX8_when_21 : decode cX8_when 21 = .ok (.istore_n 3, 1) := by decide +kernel
theorem dX8_when_22 : decode cX8_when 22 = .ok (.iload_n 3, 1) := by decide +kernel
theorem dX8_when_23 : decode cX8_when 23 = .ok (.bipush 40, 2) := by decide +kernel
theorem dX8_when_25 : decode cX8_when 25 = .ok (.if_icmp .gt 42, 3) := by decide +kernel
theorem dX8_when_28 : decode cX8_when 28 = .ok (.aload_n 0, 1) := by decide +kernel
theorem dX8_when_29 : decode cX8_when 29 = .ok (.getfield 21, 3) := by decide +kernel
theorem dX8_when_32 : decode cX8_when 32 = .ok (.iload_n 1, 1) := by decide +kernel
theorem dX8_when_33 : decode cX8_when 33 = .ok (.aload_n 0, 1) := by decide +kernel
theorem dX8_when_34 : decode cX8_when 34 = .ok (.getfield 21, 3) := by decide +kernel
theorem dX8_when_37 : decode cX8_when 37 = .ok (.invokevirtual 153, 3) := by decide +kernel
theorem dX8_when_40 : decode cX8_when 40 = .ok (.iload_n 3, 1) := by decide +kernel
theorem dX8_when_41 : decode cX8_when 41 = .ok (.iadd, 1) := by decide +kernel
theorem dX8_when_42 : decode cX8_when 42 = .ok (.invokevirtual 197, 3) := by decide +kernel
theorem dX8_when_45 : decode cX8_when 45 = .ok (.istore 4, 2) := by decide +kernel
theorem dX8_when_47 : decode cX8_when 47 = .ok (.iload 4, 2) := by decide +kernel
theorem dX8_when_49 : decode cX8_when 49 = .ok (.iload_n 2, 1) := by decide +kernel
theorem dX8_when_50 : decode cX8_when 50 = .ok (.if_icmp .lt 11, 3) := by decide +kernel
theorem dX8_when_53 : decode cX8_when 53 = .ok (.aload_n 0, 1) := by decide +kernel
theorem dX8_when_54 : decode cX8_when 54 = .ok (.iload 4, 2) := by decide +kernel
theorem dX8_when_56 : decode cX8_when 56 = .ok (.putfield 51, 3) := by decide +kernel
theorem dX8_when_59 : decode cX8_when 59 = .ok (.iload_n 3, 1) := by decide +kernel
theorem dX8_when_60 : decode cX8_when 60 = .ok (.ireturn, 1) := by decide +kernel
theorem dX8_when_61 : decode cX8_when 61 = .ok (.iinc 3 1, 3) := by decide +kernel
theorem dX8_when_64 : decode cX8_when 64 = .ok (.goto (-42), 3) := by decide +kernel
theorem dX8_when_67 : decode cX8_when 67 = .ok (.bipush (-9), 2) := by decide +kernel
theorem dX8_when_69 : decode cX8_when 69 = .ok (.ireturn, 1) := by decide +kernel
theorem dX8_stow_0 : decode cX8_stow 0 = .ok (.aload_n 0, 1) := by decide +kernel
theorem dX8_stow_1 : decode cX8_stow 1 = .ok (.getfield 21, 3) := by decide +kernel
theorem dX8_stow_4 : decode cX8_stow 4 = .ok (.iload_n 1, 1) := by decide +kernel
theorem dX8_stow_5 : decode cX8_stow 5 = .ok (.invokevirtual 134, 3) := by decide +kernel
theorem dX8_stow_8 : decode cX8_stow 8 = .ok (.ifCond .eq 11, 3) := by decide +kernel
theorem dX8_stow_11 : decode cX8_stow 11 = .ok (.iload_n 2, 1) := by decide +kernel
theorem dX8_stow_12 : decode cX8_stow 12 = .ok (.iload_n 3, 1) := by decide +kernel
theorem dX8_stow_13 : decode cX8_stow 13 = .ok (.invokestatic 200, 3) := by decide +kernel
theorem dX8_stow_16 : decode cX8_stow 16 = .ok (.ifCond .ne 5, 3) := by decide +kernel
theorem dX8_stow_19 : decode cX8_stow 19 = .ok (.iconst (-1), 1) := by decide +kernel
theorem dX8_stow_20 : decode cX8_stow 20 = .ok (.ireturn, 1) := by decide +kernel
theorem dX8_stow_21 : decode cX8_stow 21 = .ok (.aload_n 0, 1) := by decide +kernel
theorem dX8_stow_22 : decode cX8_stow 22 = .ok (.getfield 21, 3) := by decide +kernel
theorem dX8_stow_25 : decode cX8_stow 25 = .ok (.iload_n 2, 1) := by decide +kernel
theorem dX8_stow_26 : decode cX8_stow 26 = .ok (.iload_n 3, 1) := by decide +kernel
theorem dX8_stow_27 : decode cX8_stow 27 = .ok (.invokevirtual 203, 3) := by decide +kernel
theorem dX8_stow_30 : decode cX8_stow 30 = .ok (.aload_n 0, 1) := by decide +kernel
theorem dX8_stow_31 : decode cX8_stow 31 = .ok (.getfield 21, 3) := by decide +kernel
theorem dX8_stow_34 : decode cX8_stow 34 = .ok (.iload_n 1, 1) := by decide +kernel
theorem dX8_stow_35 : decode cX8_stow 35 = .ok (.aload_n 0, 1) := by decide +kernel
theorem dX8_stow_36 : decode cX8_stow 36 = .ok (.getfield 21, 3) := by decide +kernel
theorem dX8_stow_39 : decode cX8_stow 39 = .ok (.iload_n 1, 1) := by decide +kernel
theorem dX8_stow_40 : decode cX8_stow 40 = .ok (.invokevirtual 184, 3) := by decide +kernel
theorem dX8_stow_43 : decode cX8_stow 43 = .ok (.iload_n 2, 1) := by decide +kernel
theorem dX8_stow_44 : decode cX8_stow 44 = .ok (.iload_n 3, 1) := by decide +kernel
theorem dX8_stow_45 : decode cX8_stow 45 = .ok (.invokevirtual 206, 3) := by decide +kernel
theorem dX8_stow_48 : decode cX8_stow 48 = .ok (.isub, 1) := by decide +kernel
theorem dX8_stow_49 : decode cX8_stow 49 = .ok (.istore 4, 2) := by decide +kernel
theorem dX8_stow_51 : decode cX8_stow 51 = .ok (.iconst 0, 1) := by decide +kernel
theorem dX8_stow_52 : decode cX8_stow 52 = .ok (.istore 5, 2) := by decide +kernel
theorem dX8_stow_54 : decode cX8_stow 54 = .ok (.aload_n 0, 1) := by decide +kernel
theorem dX8_stow_55 : decode cX8_stow 55 = .ok (.getfield 21, 3) := by decide +kernel
theorem dX8_stow_58 : decode cX8_stow 58 = .ok (.iload_n 1, 1) := by decide +kernel
theorem dX8_stow_59 : decode cX8_stow 59 = .ok (.iconst 0, 1) := by decide +kernel
theorem dX8_stow_60 : decode cX8_stow 60 = .ok (.iload_n 2, 1) := by decide +kernel
theorem dX8_stow_61 : decode cX8_stow 61 = .ok (.iload_n 3, 1) := by decide +kernel
theorem dX8_stow_62 : decode cX8_stow 62 = .ok (.invokevirtual 206, 3) := by decide +kernel
theorem dX8_stow_65 : decode cX8_stow 65 = .ok (.istore 6, 2) := by decide +kernel
theorem dX8_stow_67 : decode cX8_stow 67 = .ok (.iconst 1, 1) := by decide +kernel
theorem dX8_stow_68 : decode cX8_stow 68 = .ok (.istore 7, 2) := by decide +kernel
theorem dX8_stow_70 : decode cX8_stow 70 = .ok (.iload 7, 2) := by decide +kernel
theorem dX8_stow_72 : decode cX8_stow 72 = .ok (.bipush 10, 2) := by decide +kernel
theorem dX8_stow_74 : decode cX8_stow 74 = .ok (.if_icmp .ge 38, 3) := by decide +kernel
theorem dX8_stow_77 : decode cX8_stow 77 = .ok (.aload_n 0, 1) := by decide +kernel
theorem dX8_stow_78 : decode cX8_stow 78 = .ok (.getfield 21, 3) := by decide +kernel
theorem dX8_stow_81 : decode cX8_stow 81 = .ok (.iload_n 1, 1) := by decide +kernel
theorem dX8_stow_82 : decode cX8_stow 82 = .ok (.iload 7, 2) := by decide +kernel
theorem dX8_stow_84 : decode cX8_stow 84 = .ok (.iload_n 2, 1) := by decide +kernel
theorem dX8_stow_85 : decode cX8_stow 85 = .ok (.iload_n 3, 1) := by decide +kernel
theorem dX8_stow_86 : decode cX8_stow 86 = .ok (.invokevirtual 206, 3) := by decide +kernel
theorem dX8_stow_89 : decode cX8_stow 89 = .ok (.istore 8, 2) := by decide +kernel
theorem dX8_stow_91 : decode cX8_stow 91 = .ok (.iload 8, 2) := by decide +kernel
theorem dX8_stow_93 : decode cX8_stow 93 = .ok (.iload 6, 2) := by decide +kernel
theorem dX8_stow_95 : decode cX8_stow 95 = .ok (.if_icmp .ge 11, 3) := by decide +kernel
theorem dX8_stow_98 : decode cX8_stow 98 = .ok (.iload 8, 2) := by decide +kernel
theorem dX8_stow_100 : decode cX8_stow 100 = .ok (.istore 6, 2) := by decide +kernel
theorem dX8_stow_102 : decode cX8_stow 102 = .ok (.iload 7, 2) := by decide +kernel
theorem dX8_stow_104 : decode cX8_stow 104 = .ok (.istore 5, 2) := by decide +kernel
theorem dX8_stow_106 : decode cX8_stow 106 = .ok (.iinc 7 1, 3) := by decide +kernel
theorem dX8_stow_109 : decode cX8_stow 109 = .ok (.goto (-39), 3) := by decide +kernel
theorem dX8_stow_112 : decode cX8_stow 112 = .ok (.aload_n 0, 1) := by decide +kernel
theorem dX8_stow_113 : decode cX8_stow 113 = .ok (.iload 4, 2) := by decide +kernel
theorem dX8_stow_115 : decode cX8_stow 115 = .ok (.iload 6, 2) := by decide +kernel
theorem dX8_stow_117 : decode cX8_stow 117 = .ok (.iadd, 1) := by decide +kernel
theorem dX8_stow_118 : decode cX8_stow 118 = .ok (.putfield 51, 3) := by decide +kernel
theorem dX8_stow_121 : decode cX8_stow 121 = .ok (.iload 5, 2) := by decide +kernel
theorem dX8_stow_123 : decode cX8_stow 123 = .ok (.ireturn, 1) := by decide +kernel
theorem dX8_dark_0 : decode cX8_dark 0 = .ok (.iload_n 1, 1) := by decide +kernel
theorem dX8_dark_1 : decode cX8_dark 1 = .ok (.iconst 1, 1) := by decide +kernel
theorem dX8_dark_2 : decode cX8_dark 2 = .ok (.if_icmp .lt 9, 3) := by decide +kernel
theorem dX8_dark_5 : decode cX8_dark 5 = .ok (.iload_n 1, 1) := by decide +kernel
theorem dX8_dark_6 : decode cX8_dark 6 = .ok (.bipush 10, 2) := by decide +kernel
theorem dX8_dark_8 : decode cX8_dark 8 = .ok (.if_icmp .le 5, 3) := by decide +kernel
theorem dX8_dark_11 : decode cX8_dark 11 = .ok (.iconst (-1), 1) := by decide +kernel
theorem dX8_dark_12 : decode cX8_dark 12 = .ok (.ireturn, 1) := by decide +kernel
theorem dX8_dark_13 : decode cX8_dark 13 = .ok (.aload_n 0, 1) := by decide +kernel
theorem dX8_dark_14 : decode cX8_dark 14 = .ok (.getfield 21, 3) := by decide +kernel
theorem dX8_dark_17 : decode cX8_dark 17 = .ok (.invokevirtual 133, 3) := by decide +kernel
theorem dX8_dark_20 : decode cX8_dark 20 = .ok (.ifCond .ne 6, 3) := by decide +kernel
theorem dX8_dark_23 : decode cX8_dark 23 = .ok (.bipush (-4), 2) := by decide +kernel
theorem dX8_dark_25 : decode cX8_dark 25 = .ok (.ireturn, 1) := by decide +kernel
theorem dX8_dark_26 : decode cX8_dark 26 = .ok (.iconst 0, 1) := by decide +kernel
theorem dX8_dark_27 : decode cX8_dark 27 = .ok (.istore_n 2, 1) := by decide +kernel
theorem dX8_dark_28 : decode cX8_dark 28 = .ok (.aload_n 0, 1) := by decide +kernel
theorem dX8_dark_29 : decode cX8_dark 29 = .ok (.getfield 21, 3) := by decide +kernel
theorem dX8_dark_32 : decode cX8_dark 32 = .ok (.iconst 0, 1) := by decide +kernel
theorem dX8_dark_33 : decode cX8_dark 33 = .ok (.iload_n 1, 1) := by decide +kernel
theorem dX8_dark_34 : decode cX8_dark 34 = .ok (.iconst 1, 1) := by decide +kernel
theorem dX8_dark_35 : decode cX8_dark 35 = .ok (.isub, 1) := by decide +kernel
theorem dX8_dark_36 : decode cX8_dark 36 = .ok (.invokevirtual 203, 3) := by decide +kernel
theorem dX8_dark_39 : decode cX8_dark 39 = .ok (.istore_n 3, 1) := by decide +kernel
theorem dX8_dark_40 : decode cX8_dark 40 = .ok (.iconst 1, 1) := by decide +kernel
theorem dX8_dark_41 : decode cX8_dark 41 = .ok (.istore 4, 2) := by decide +kernel
theorem dX8_dark_43 : decode cX8_dark 43 = .ok (.iload 4, 2) := by decide +kernel
theorem dX8_dark_45 : decode cX8_dark 45 = .ok (.iload_n 1, 1) := by decide +kernel
theorem dX8_dark_46 : decode cX8_dark 46 = .ok (.iadd, 1) := by decide +kernel
theorem dX8_dark_47 : decode cX8_dark 47 = .ok (.bipush 10, 2) := by decide +kernel
theorem dX8_dark_49 : decode cX8_dark 49 = .ok (.if_icmp .gt 38, 3) := by decide +kernel
theorem dX8_dark_52 : decode cX8_dark 52 = .ok (.aload_n 0, 1) := by decide +kernel
theorem dX8_dark_53 : decode cX8_dark 53 = .ok (.getfield 21, 3) := by decide +kernel
theorem dX8_dark_56 : decode cX8_dark 56 = .ok (.iload 4, 2) := by decide +kernel
theorem dX8_dark_58 : decode cX8_dark 58 = .ok (.iload 4, 2) := by decide +kernel
theorem dX8_dark_60 : decode cX8_dark 60 = .ok (.iload_n 1, 1) := by decide +kernel
theorem dX8_dark_61 : decode cX8_dark 61 = .ok (.iadd, 1) := by decide +kernel
theorem dX8_dark_62 : decode cX8_dark 62 = .ok (.iconst 1, 1) := by decide +kernel
theorem dX8_dark_63 : decode cX8_dark 63 = .ok (.isub, 1) := by decide +kernel
theorem dX8_dark_64 : decode cX8_dark 64 = .ok (.invokevirtual 203, 3) := by decide +kernel
theorem dX8_dark_67 : decode cX8_dark 67 = .ok (.istore 5, 2) := by decide +kernel
theorem dX8_dark_69 : decode cX8_dark 69 = .ok (.iload 5, 2) := by decide +kernel
theorem dX8_dark_71 : decode cX8_dark 71 = .ok (.iload_n 3, 1) := by decide +kernel
theorem dX8_dark_72 : decode cX8_dark 72 = .ok (.if_icmp .ge 9, 3) := by decide +kernel
theorem dX8_dark_75 : decode cX8_dark 75 = .ok (.iload 5, 2) := by decide +kernel
theorem dX8_dark_77 : decode cX8_dark 77 = .ok (.istore_n 3, 1) := by decide +kernel
theorem dX8_dark_78 : decode cX8_dark 78 = .ok (.iload 4, 2) := by decide +kernel
theorem dX8_dark_80 : decode cX8_dark 80 = .ok (.istore_n 2, 1) := by decide +kernel
theorem dX8_dark_81 : decode cX8_dark 81 = .ok (.iinc 4 1, 3) := by decide +kernel
theorem dX8_dark_84 : decode cX8_dark 84 = .ok (.goto (-41), 3) := by decide +kernel
theorem dX8_dark_87 : decode cX8_dark 87 = .ok (.aload_n 0, 1) := by decide +kernel
theorem dX8_dark_88 : decode cX8_dark 88 = .ok (.iload_n 3, 1) := by decide +kernel
theorem dX8_dark_89 : decode cX8_dark 89 = .ok (.putfield 51, 3) := by decide +kernel
theorem dX8_dark_92 : decode cX8_dark 92 = .ok (.iload_n 2, 1) := by decide +kernel
theorem dX8_dark_93 : decode cX8_dark 93 = .ok (.ireturn, 1) := by decide +kernel
theorem dX8_road_0 : decode cX8_road 0 = .ok (.aload_n 0, 1) := by decide +kernel
theorem dX8_road_1 : decode cX8_road 1 = .ok (.getfield 21, 3) := by decide +kernel
theorem dX8_road_4 : decode cX8_road 4 = .ok (.invokevirtual 133, 3) := by decide +kernel
theorem dX8_road_7 : decode cX8_road 7 = .ok (.ifCond .ne 6, 3) := by decide +kernel
theorem dX8_road_10 : decode cX8_road 10 = .ok (.bipush (-4), 2) := by decide +kernel
theorem dX8_road_12 : decode cX8_road 12 = .ok (.ireturn, 1) := by decide +kernel
theorem dX8_road_13 : decode cX8_road 13 = .ok (.aload_n 0, 1) := by decide +kernel
theorem dX8_road_14 : decode cX8_road 14 = .ok (.getfield 21, 3) := by decide +kernel
theorem dX8_road_17 : decode cX8_road 17 = .ok (.invokestatic 209, 3) := by decide +kernel
theorem dX8_road_20 : decode cX8_road 20 = .ok (.istore_n 1, 1) := by decide +kernel
theorem dX8_road_21 : decode cX8_road 21 = .ok (.aload_n 0, 1) := by decide +kernel
theorem dX8_road_22 : decode cX8_road 22 = .ok (.iload_n 1, 1) := by decide +kernel
theorem dX8_road_23 : decode cX8_road 23 = .ok (.invokestatic 215, 3) := by decide +kernel
theorem dX8_road_26 : decode cX8_road 26 = .ok (.putfield 51, 3) := by decide +kernel
theorem dX8_road_29 : decode cX8_road 29 = .ok (.iload_n 1, 1) := by decide +kernel
theorem dX8_road_30 : decode cX8_road 30 = .ok (.invokestatic 218, 3) := by decide +kernel
theorem dX8_road_33 : decode cX8_road 33 = .ok (.ireturn, 1) := by decide +kernel
theorem dX8_owes_0 : decode cX8_owes 0 = .ok (.iload_n 1, 1) := by decide +kernel
theorem dX8_owes_1 : decode cX8_owes 1 = .ok (.invokestatic 221, 3) := by decide +kernel
theorem dX8_owes_4 : decode cX8_owes 4 = .ok (.ifCond .eq 14, 3) := by decide +kernel
theorem dX8_owes_7 : decode cX8_owes 7 = .ok (.aload_n 0, 1) := by decide +kernel
theorem dX8_owes_8 : decode cX8_owes 8 = .ok (.getfield 21, 3) := by decide +kernel
theorem dX8_owes_11 : decode cX8_owes 11 = .ok (.iload_n 1, 1) := by decide +kernel
theorem dX8_owes_12 : decode cX8_owes 12 = .ok (.invokevirtual 224, 3) := by decide +kernel
theorem dX8_owes_15 : decode cX8_owes 15 = .ok (.goto 4, 3) := by decide +kernel
theorem dX8_owes_18 : decode cX8_owes 18 = .ok (.iconst (-1), 1) := by decide +kernel
theorem dX8_owes_19 : decode cX8_owes 19 = .ok (.ireturn, 1) := by decide +kernel
theorem dX8_ring_0 : decode cX8_ring 0 = .ok (.aload_n 0, 1) := by decide +kernel
theorem dX8_ring_1 : decode cX8_ring 1 = .ok (.getfield 21, 3) := by decide +kernel
theorem dX8_ring_4 : decode cX8_ring 4 = .ok (.invokevirtual 133, 3) := by decide +kernel
theorem dX8_ring_7 : decode cX8_ring 7 = .ok (.ifCond .ne 6, 3) := by decide +kernel
theorem dX8_ring_10 : decode cX8_ring 10 = .ok (.bipush (-4), 2) := by decide +kernel
theorem dX8_ring_12 : decode cX8_ring 12 = .ok (.ireturn, 1) := by decide +kernel
theorem dX8_ring_13 : decode cX8_ring 13 = .ok (.aload_n 0, 1) := by decide +kernel
theorem dX8_ring_14 : decode cX8_ring 14 = .ok (.getfield 32, 3) := by decide +kernel
theorem dX8_ring_17 : decode cX8_ring 17 = .ok (.aload_n 0, 1) := by decide +kernel
theorem dX8_ring_18 : decode cX8_ring 18 = .ok (.getfield 21, 3) := by decide +kernel
theorem dX8_ring_21 : decode cX8_ring 21 = .ok (.invokevirtual 227, 3) := by decide +kernel
theorem dX8_ring_24 : decode cX8_ring 24 = .ok (.istore_n 1, 1) := by decide +kernel
theorem dX8_ring_25 : decode cX8_ring 25 = .ok (.aload_n 0, 1) := by decide +kernel
theorem dX8_ring_26 : decode cX8_ring 26 = .ok (.iload_n 1, 1) := by decide +kernel
theorem dX8_ring_27 : decode cX8_ring 27 = .ok (.putfield 51, 3) := by decide +kernel
theorem dX8_ring_30 : decode cX8_ring 30 = .ok (.iload_n 1, 1) := by decide +kernel
theorem dX8_ring_31 : decode cX8_ring 31 = .ok (.invokestatic 230, 3) := by decide +kernel
theorem dX8_ring_34 : decode cX8_ring 34 = .ok (.ireturn, 1) := by decide +kernel
theorem dX8_rings_0 : decode cX8_rings 0 = .ok (.aload_n 0, 1) := by decide +kernel
theorem dX8_rings_1 : decode cX8_rings 1 = .ok (.getfield 21, 3) := by decide +kernel
theorem dX8_rings_4 : decode cX8_rings 4 = .ok (.iload_n 1, 1) := by decide +kernel
theorem dX8_rings_5 : decode cX8_rings 5 = .ok (.invokevirtual 134, 3) := by decide +kernel
theorem dX8_rings_8 : decode cX8_rings 8 = .ok (.ifCond .eq 18, 3) := by decide +kernel
theorem dX8_rings_11 : decode cX8_rings 11 = .ok (.aload_n 0, 1) := by decide +kernel
theorem dX8_rings_12 : decode cX8_rings 12 = .ok (.getfield 32, 3) := by decide +kernel
theorem dX8_rings_15 : decode cX8_rings 15 = .ok (.aload_n 0, 1) := by decide +kernel
theorem dX8_rings_16 : decode cX8_rings 16 = .ok (.getfield 21, 3) := by decide +kernel
theorem dX8_rings_19 : decode cX8_rings 19 = .ok (.iload_n 1, 1) := by decide +kernel
theorem dX8_rings_20 : decode cX8_rings 20 = .ok (.invokevirtual 235, 3) := by decide +kernel
theorem dX8_rings_23 : decode cX8_rings 23 = .ok (.goto 4, 3) := by decide +kernel
theorem dX8_rings_26 : decode cX8_rings 26 = .ok (.iconst (-1), 1) := by decide +kernel
theorem dX8_rings_27 : decode cX8_rings 27 = .ok (.ireturn, 1) := by decide +kernel
theorem dX8_least_0 : decode cX8_least 0 = .ok (.aload_n 0, 1) := by decide +kernel
theorem dX8_least_1 : decode cX8_least 1 = .ok (.getfield 21, 3) := by decide +kernel
theorem dX8_least_4 : decode cX8_least 4 = .ok (.iload_n 1, 1) := by decide +kernel
theorem dX8_least_5 : decode cX8_least 5 = .ok (.invokevirtual 134, 3) := by decide +kernel
theorem dX8_least_8 : decode cX8_least 8 = .ok (.ifCond .ne 5, 3) := by decide +kernel
theorem dX8_least_11 : decode cX8_least 11 = .ok (.iconst (-1), 1) := by decide +kernel
theorem dX8_least_12 : decode cX8_least 12 = .ok (.ireturn, 1) := by decide +kernel
theorem dX8_least_13 : decode cX8_least 13 = .ok (.aload_n 0, 1) := by decide +kernel
theorem dX8_least_14 : decode cX8_least 14 = .ok (.getfield 32, 3) := by decide +kernel
theorem dX8_least_17 : decode cX8_least 17 = .ok (.aload_n 0, 1) := by decide +kernel
theorem dX8_least_18 : decode cX8_least 18 = .ok (.getfield 21, 3) := by decide +kernel
theorem dX8_least_21 : decode cX8_least 21 = .ok (.iload_n 1, 1) := by decide +kernel
theorem dX8_least_22 : decode cX8_least 22 = .ok (.invokevirtual 239, 3) := by decide +kernel
theorem dX8_least_25 : decode cX8_least 25 = .ok (.istore_n 2, 1) := by decide +kernel
theorem dX8_least_26 : decode cX8_least 26 = .ok (.iload_n 2, 1) := by decide +kernel
theorem dX8_least_27 : decode cX8_least 27 = .ok (.ifCond .ne 6, 3) := by decide +kernel
theorem dX8_least_30 : decode cX8_least 30 = .ok (.bipush (-9), 2) := by decide +kernel
theorem dX8_least_32 : decode cX8_least 32 = .ok (.ireturn, 1) := by decide +kernel
theorem dX8_least_33 : decode cX8_least 33 = .ok (.aload_n 0, 1) := by decide +kernel
theorem dX8_least_34 : decode cX8_least 34 = .ok (.iload_n 2, 1) := by decide +kernel
theorem dX8_least_35 : decode cX8_least 35 = .ok (.putfield 51, 3) := by decide +kernel
theorem dX8_least_38 : decode cX8_least 38 = .ok (.iload_n 2, 1) := by decide +kernel
theorem dX8_least_39 : decode cX8_least 39 = .ok (.invokestatic 230, 3) := by decide +kernel
theorem dX8_least_42 : decode cX8_least 42 = .ok (.ireturn, 1) := by decide +kernel
theorem dX8_chain_0 : decode cX8_chain 0 = .ok (.aload_n 0, 1) := by decide +kernel
theorem dX8_chain_1 : decode cX8_chain 1 = .ok (.iload_n 3, 1) := by decide +kernel
theorem dX8_chain_2 : decode cX8_chain 2 = .ok (.invokevirtual 64, 3) := by decide +kernel
theorem dX8_chain_5 : decode cX8_chain 5 = .ok (.astore 4, 2) := by decide +kernel
theorem dX8_chain_7 : decode cX8_chain 7 = .ok (.iload_n 1, 1) := by decide +kernel
theorem dX8_chain_8 : decode cX8_chain 8 = .ok (.invokestatic 221, 3) := by decide +kernel
theorem dX8_chain_11 : decode cX8_chain 11 = .ok (.ifCond .eq 15, 3) := by decide +kernel
theorem dX8_chain_14 : decode cX8_chain 14 = .ok (.iload_n 2, 1) := by decide +kernel
theorem dX8_chain_15 : decode cX8_chain 15 = .ok (.invokestatic 221, 3) := by decide +kernel
theorem dX8_chain_18 : decode cX8_chain 18 = .ok (.ifCond .eq 8, 3) := by decide +kernel
theorem dX8_chain_21 : decode cX8_chain 21 = .ok (.aload 4, 2) := by decide +kernel
theorem dX8_chain_23 : decode cX8_chain 23 = .ok (.ifnonnull 5, 3) := by decide +kernel
theorem dX8_chain_26 : decode cX8_chain 26 = .ok (.iconst (-1), 1) := by decide +kernel
theorem dX8_chain_27 : decode cX8_chain 27 = .ok (.ireturn, 1) := by decide +kernel
theorem dX8_chain_28 : decode cX8_chain 28 = .ok (.aload_n 0, 1) := by decide +kernel
theorem dX8_chain_29 : decode cX8_chain 29 = .ok (.getfield 39, 3) := by decide +kernel
theorem dX8_chain_32 : decode cX8_chain 32 = .ok (.aload_n 0, 1) := by decide +kernel
theorem dX8_chain_33 : decode cX8_chain 33 = .ok (.getfield 21, 3) := by decide +kernel
theorem dX8_chain_36 : decode cX8_chain 36 = .ok (.iload_n 1, 1) := by decide +kernel
theorem dX8_chain_37 : decode cX8_chain 37 = .ok (.iload_n 2, 1) := by decide +kernel
theorem dX8_chain_38 : decode cX8_chain 38 = .ok (.invokevirtual 242, 3) := by decide +kernel
theorem dX8_chain_41 : decode cX8_chain 41 = .ok (.istore 5, 2) := by decide +kernel
theorem dX8_chain_43 : decode cX8_chain 43 = .ok (.iload 5, 2) := by decide +kernel
theorem dX8_chain_45 : decode cX8_chain 45 = .ok (.bipush (-9), 2) := by decide +kernel
theorem dX8_chain_47 : decode cX8_chain 47 = .ok (.if_icmp .ne 6, 3) := by decide +kernel
theorem dX8_chain_50 : decode cX8_chain 50 = .ok (.bipush (-9), 2) := by decide +kernel
theorem dX8_chain_52 : decode cX8_chain 52 = .ok (.ireturn, 1) := by decide +kernel
theorem dX8_chain_53 : decode cX8_chain 53 = .ok (.aload_n 0, 1) := by decide +kernel
theorem dX8_chain_54 : decode cX8_chain 54 = .ok (.getfield 39, 3) := by decide +kernel
theorem dX8_chain_57 : decode cX8_chain 57 = .ok (.aload_n 0, 1) := by decide +kernel
theorem dX8_chain_58 : decode cX8_chain 58 = .ok (.getfield 21, 3) := by decide +kernel
theorem dX8_chain_61 : decode cX8_chain 61 = .ok (.iload_n 1, 1) := by decide +kernel
theorem dX8_chain_62 : decode cX8_chain 62 = .ok (.aload 4, 2) := by decide +kernel
theorem dX8_chain_64 : decode cX8_chain 64 = .ok (.invokevirtual 246, 3) := by decide +kernel
theorem dX8_chain_67 : decode cX8_chain 67 = .ok (.iload 5, 2) := by decide +kernel
theorem dX8_chain_69 : decode cX8_chain 69 = .ok (.ireturn, 1) := by decide +kernel
theorem dX8_dim_0 : decode cX8_dim 0 = .ok (.iload_n 1, 1) := by decide +kernel
theorem dX8_dim_1 : decode cX8_dim 1 = .ok (.invokestatic 181, 3) := by decide +kernel
theorem dX8_dim_4 : decode cX8_dim 4 = .ok (.ifCond .eq 13, 3) := by decide +kernel
theorem dX8_dim_7 : decode cX8_dim 7 = .ok (.iload_n 2, 1) := by decide +kernel
theorem dX8_dim_8 : decode cX8_dim 8 = .ok (.ifCond .lt 9, 3) := by decide +kernel
theorem dX8_dim_11 : decode cX8_dim 11 = .ok (.iload_n 2, 1) := by decide +kernel
theorem dX8_dim_12 : decode cX8_dim 12 = .ok (.bipush 99, 2) := by decide +kernel
theorem dX8_dim_14 : decode cX8_dim 14 = .ok (.if_icmp .le 5, 3) := by decide +kernel
theorem dX8_dim_17 : decode cX8_dim 17 = .ok (.iconst (-1), 1) := by decide +kernel
theorem dX8_dim_18 : decode cX8_dim 18 = .ok (.ireturn, 1) := by decide +kernel
theorem dX8_dim_19 : decode cX8_dim 19 = .ok (.aload_n 0, 1) := by decide +kernel
theorem dX8_dim_20 : decode cX8_dim 20 = .ok (.getfield 32, 3) := by decide +kernel
theorem dX8_dim_23 : decode cX8_dim 23 = .ok (.aload_n 0, 1) := by decide +kernel
theorem dX8_dim_24 : decode cX8_dim 24 = .ok (.getfield 21, 3) := by decide +kernel
theorem dX8_dim_27 : decode cX8_dim 27 = .ok (.iload_n 1, 1) := by decide +kernel
theorem dX8_dim_28 : decode cX8_dim 28 = .ok (.iload_n 2, 1) := by decide +kernel
theorem dX8_dim_29 : decode cX8_dim 29 = .ok (.invokevirtual 250, 3) := by decide +kernel
theorem dX8_dim_32 : decode cX8_dim 32 = .ok (.istore_n 3, 1) := by decide +kernel
theorem dX8_dim_33 : decode cX8_dim 33 = .ok (.aload_n 0, 1) := by decide +kernel
theorem dX8_dim_34 : decode cX8_dim 34 = .ok (.iload_n 3, 1) := by decide +kernel
theorem dX8_dim_35 : decode cX8_dim 35 = .ok (.putfield 51, 3) := by decide +kernel
theorem dX8_dim_38 : decode cX8_dim 38 = .ok (.iload_n 3, 1) := by decide +kernel
theorem dX8_dim_39 : decode cX8_dim 39 = .ok (.invokestatic 230, 3) := by decide +kernel
theorem dX8_dim_42 : decode cX8_dim 42 = .ok (.ireturn, 1) := by decide +kernel
theorem dX8_firsts_0 : decode cX8_firsts 0 = .ok (.aload_n 0, 1) := by decide +kernel
theorem dX8_firsts_1 : decode cX8_firsts 1 = .ok (.iload_n 2, 1) := by decide +kernel
theorem dX8_firsts_2 : decode cX8_firsts 2 = .ok (.invokevirtual 64, 3) := by decide +kernel
theorem dX8_firsts_5 : decode cX8_firsts 5 = .ok (.astore_n 3, 1) := by decide +kernel
theorem dX8_firsts_6 : decode cX8_firsts 6 = .ok (.aload_n 0, 1) := by decide +kernel
theorem dX8_firsts_7 : decode cX8_firsts 7 = .ok (.iload_n 1, 1) := by decide +kernel
theorem dX8_firsts_8 : decode cX8_firsts 8 = .ok (.aload_n 3, 1) := by decide +kernel
theorem dX8_firsts_9 : decode cX8_firsts 9 = .ok (.invokevirtual 253, 3) := by decide +kernel
theorem dX8_firsts_12 : decode cX8_firsts 12 = .ok (.istore 4, 2) := by decide +kernel
theorem dX8_firsts_14 : decode cX8_firsts 14 = .ok (.aload_n 3, 1) := by decide +kernel
theorem dX8_firsts_15 : decode cX8_firsts 15 = .ok (.ifnull 8, 3) := by decide +kernel
theorem dX8_firsts_18 : decode cX8_firsts 18 = .ok (.iload 4, 2) := by decide +kernel
theorem dX8_firsts_20 : decode cX8_firsts 20 = .ok (.ifCond .eq 6, 3) := by decide +kernel
theorem dX8_firsts_23 : decode cX8_firsts 23 = .ok (.iload 4, 2) := by decide +kernel
theorem dX8_firsts_25 : decode cX8_firsts 25 = .ok (.ireturn, 1) := by decide +kernel
theorem dX8_firsts_26 : decode cX8_firsts 26 = .ok (.aload_n 0, 1) := by decide +kernel
theorem dX8_firsts_27 : decode cX8_firsts 27 = .ok (.getfield 21, 3) := by decide +kernel
theorem dX8_firsts_30 : decode cX8_firsts 30 = .ok (.iload_n 1, 1) := by decide +kernel
theorem dX8_firsts_31 : decode cX8_firsts 31 = .ok (.invokevirtual 142, 3) := by decide +kernel
theorem dX8_firsts_34 : decode cX8_firsts 34 = .ok (.aload_n 3, 1) := by decide +kernel
theorem dX8_firsts_35 : decode cX8_firsts 35 = .ok (.invokestatic 257, 3) := by decide +kernel
theorem dX8_firsts_38 : decode cX8_firsts 38 = .ok (.ireturn, 1) := by decide +kernel
theorem dX8_kinds_0 : decode cX8_kinds 0 = .ok (.aload_n 0, 1) := by decide +kernel
theorem dX8_kinds_1 : decode cX8_kinds 1 = .ok (.iload_n 2, 1) := by decide +kernel
theorem dX8_kinds_2 : decode cX8_kinds 2 = .ok (.invokevirtual 64, 3) := by decide +kernel
theorem dX8_kinds_5 : decode cX8_kinds 5 = .ok (.astore_n 3, 1) := by decide +kernel
theorem dX8_kinds_6 : decode cX8_kinds 6 = .ok (.aload_n 0, 1) := by decide +kernel
theorem dX8_kinds_7 : decode cX8_kinds 7 = .ok (.iload_n 1, 1) := by decide +kernel
theorem dX8_kinds_8 : decode cX8_kinds 8 = .ok (.aload_n 3, 1) := by decide +kernel
theorem dX8_kinds_9 : decode cX8_kinds 9 = .ok (.invokevirtual 253, 3) := by decide +kernel
theorem dX8_kinds_12 : decode cX8_kinds 12 = .ok (.istore 4, 2) := by decide +kernel
theorem dX8_kinds_14 : decode cX8_kinds 14 = .ok (.aload_n 3, 1) := by decide +kernel
theorem dX8_kinds_15 : decode cX8_kinds 15 = .ok (.ifnull 8, 3) := by decide +kernel
theorem dX8_kinds_18 : decode cX8_kinds 18 = .ok (.iload 4, 2) := by decide +kernel
theorem dX8_kinds_20 : decode cX8_kinds 20 = .ok (.ifCond .eq 6, 3) := by decide +kernel
theorem dX8_kinds_23 : decode cX8_kinds 23 = .ok (.iload 4, 2) := by decide +kernel
theorem dX8_kinds_25 : decode cX8_kinds 25 = .ok (.ireturn, 1) := by decide +kernel
theorem dX8_kinds_26 : decode cX8_kinds 26 = .ok (.aload_n 0, 1) := by decide +kernel
theorem dX8_kinds_27 : decode cX8_kinds 27 = .ok (.getfield 21, 3) := by decide +kernel
theorem dX8_kinds_30 : decode cX8_kinds 30 = .ok (.iload_n 1, 1) := by decide +kernel
theorem dX8_kinds_31 : decode cX8_kinds 31 = .ok (.invokevirtual 150, 3) := by decide +kernel
theorem dX8_kinds_34 : decode cX8_kinds 34 = .ok (.aload_n 3, 1) := by decide +kernel
theorem dX8_kinds_35 : decode cX8_kinds 35 = .ok (.invokestatic 262, 3) := by decide +kernel
theorem dX8_kinds_38 : decode cX8_kinds 38 = .ok (.ireturn, 1) := by decide +kernel
theorem dX8_test_0 : decode cX8_test 0 = .ok (.aload_n 0, 1) := by decide +kernel
theorem dX8_test_1 : decode cX8_test 1 = .ok (.iload_n 2, 1) := by decide +kernel
theorem dX8_test_2 : decode cX8_test 2 = .ok (.invokevirtual 64, 3) := by decide +kernel
theorem dX8_test_5 : decode cX8_test 5 = .ok (.astore_n 3, 1) := by decide +kernel
theorem dX8_test_6 : decode cX8_test 6 = .ok (.aload_n 0, 1) := by decide +kernel
theorem dX8_test_7 : decode cX8_test 7 = .ok (.iload_n 1, 1) := by decide +kernel
theorem dX8_test_8 : decode cX8_test 8 = .ok (.aload_n 3, 1) := by decide +kernel
theorem dX8_test_9 : decode cX8_test 9 = .ok (.invokevirtual 253, 3) := by decide +kernel
theorem dX8_test_12 : decode cX8_test 12 = .ok (.istore 4, 2) := by decide +kernel
theorem dX8_test_14 : decode cX8_test 14 = .ok (.aload_n 3, 1) := by decide +kernel
theorem dX8_test_15 : decode cX8_test 15 = .ok (.ifnull 8, 3) := by decide +kernel
theorem dX8_test_18 : decode cX8_test 18 = .ok (.iload 4, 2) := by decide +kernel
theorem dX8_test_20 : decode cX8_test 20 = .ok (.ifCond .eq 6, 3) := by decide +kernel
theorem dX8_test_23 : decode cX8_test 23 = .ok (.iload 4, 2) := by decide +kernel
theorem dX8_test_25 : decode cX8_test 25 = .ok (.ireturn, 1) := by decide +kernel
theorem dX8_test_26 : decode cX8_test 26 = .ok (.aload_n 0, 1) := by decide +kernel
theorem dX8_test_27 : decode cX8_test 27 = .ok (.getfield 21, 3) := by decide +kernel
theorem dX8_test_30 : decode cX8_test 30 = .ok (.iload_n 1, 1) := by decide +kernel
theorem dX8_test_31 : decode cX8_test 31 = .ok (.invokevirtual 150, 3) := by decide +kernel
theorem dX8_test_34 : decode cX8_test 34 = .ok (.istore 5, 2) := by decide +kernel
theorem dX8_test_36 : decode cX8_test 36 = .ok (.iload 5, 2) := by decide +kernel
theorem dX8_test_38 : decode cX8_test 38 = .ok (.aload_n 3, 1) := by decide +kernel
theorem dX8_test_39 : decode cX8_test 39 = .ok (.invokestatic 262, 3) := by decide +kernel
theorem dX8_test_42 : decode cX8_test 42 = .ok (.istore 6, 2) := by decide +kernel
theorem dX8_test_44 : decode cX8_test 44 = .ok (.iload 6, 2) := by decide +kernel
theorem dX8_test_46 : decode cX8_test 46 = .ok (.ifCond .ne 6, 3) := by decide +kernel
theorem dX8_test_49 : decode cX8_test 49 = .ok (.bipush (-9), 2) := by decide +kernel
theorem dX8_test_51 : decode cX8_test 51 = .ok (.ireturn, 1) := by decide +kernel
theorem dX8_test_52 : decode cX8_test 52 = .ok (.iload 6, 2) := by decide +kernel
theorem dX8_test_54 : decode cX8_test 54 = .ok (.iload 5, 2) := by decide +kernel
theorem dX8_test_56 : decode cX8_test 56 = .ok (.invokestatic 265, 3) := by decide +kernel
theorem dX8_test_59 : decode cX8_test 59 = .ok (.istore 7, 2) := by decide +kernel
theorem dX8_test_61 : decode cX8_test 61 = .ok (.aload_n 0, 1) := by decide +kernel
theorem dX8_test_62 : decode cX8_test 62 = .ok (.iload 6, 2) := by decide +kernel
theorem dX8_test_64 : decode cX8_test 64 = .ok (.iload 5, 2) := by decide +kernel
theorem dX8_test_66 : decode cX8_test 66 = .ok (.iload 7, 2) := by decide +kernel
theorem dX8_test_68 : decode cX8_test 68 = .ok (.invokestatic 268, 3) := by decide +kernel
theorem dX8_test_71 : decode cX8_test 71 = .ok (.putfield 51, 3) := by decide +kernel
theorem dX8_test_74 : decode cX8_test 74 = .ok (.iload 7, 2) := by decide +kernel
theorem dX8_test_76 : decode cX8_test 76 = .ok (.ireturn, 1) := by decide +kernel
theorem dX8_whose_0 : decode cX8_whose 0 = .ok (.aload_n 0, 1) := by decide +kernel
theorem dX8_whose_1 : decode cX8_whose 1 = .ok (.iload_n 2, 1) := by decide +kernel
theorem dX8_whose_2 : decode cX8_whose 2 = .ok (.invokevirtual 64, 3) := by decide +kernel
theorem dX8_whose_5 : decode cX8_whose 5 = .ok (.astore_n 3, 1) := by decide +kernel
theorem dX8_whose_6 : decode cX8_whose 6 = .ok (.aload_n 0, 1) := by decide +kernel
theorem dX8_whose_7 : decode cX8_whose 7 = .ok (.getfield 21, 3) := by decide +kernel
theorem dX8_whose_10 : decode cX8_whose 10 = .ok (.iload_n 1, 1) := by decide +kernel
theorem dX8_whose_11 : decode cX8_whose 11 = .ok (.invokevirtual 134, 3) := by decide +kernel
theorem dX8_whose_14 : decode cX8_whose 14 = .ok (.ifCond .eq 7, 3) := by decide +kernel
theorem dX8_whose_17 : decode cX8_whose 17 = .ok (.aload_n 3, 1) := by decide +kernel
theorem dX8_whose_18 : decode cX8_whose 18 = .ok (.ifnonnull 5, 3) := by decide +kernel
theorem dX8_whose_21 : decode cX8_whose 21 = .ok (.iconst (-1), 1) := by decide +kernel
theorem dX8_whose_22 : decode cX8_whose 22 = .ok (.ireturn, 1) := by decide +kernel
theorem dX8_whose_23 : decode cX8_whose 23 = .ok (.aload_n 3, 1) := by decide +kernel
theorem dX8_whose_24 : decode cX8_whose 24 = .ok (.invokevirtual 94, 3) := by decide +kernel
theorem dX8_whose_27 : decode cX8_whose 27 = .ok (.ifCond .eq 9, 3) := by decide +kernel
theorem dX8_whose_30 : decode cX8_whose 30 = .ok (.aload_n 0, 1) := by decide +kernel
theorem dX8_whose_31 : decode cX8_whose 31 = .ok (.iconst 1, 1) := by decide +kernel
theorem dX8_whose_32 : decode cX8_whose 32 = .ok (.invokevirtual 91, 3) := by decide +kernel
theorem dX8_whose_35 : decode cX8_whose 35 = .ok (.ireturn, 1) := by decide +kernel
theorem dX8_whose_36 : decode cX8_whose 36 = .ok (.aload_n 3, 1) := by decide +kernel
theorem dX8_whose_37 : decode cX8_whose 37 = .ok (.invokevirtual 106, 3) := by decide +kernel
theorem dX8_whose_40 : decode cX8_whose 40 = .ok (.bipush 6, 2) := by decide +kernel
theorem dX8_whose_42 : decode cX8_whose 42 = .ok (.if_icmp .eq 9, 3) := by decide +kernel
theorem dX8_whose_45 : decode cX8_whose 45 = .ok (.aload_n 0, 1) := by decide +kernel
theorem dX8_whose_46 : decode cX8_whose 46 = .ok (.iconst 5, 1) := by decide +kernel
theorem dX8_whose_47 : decode cX8_whose 47 = .ok (.invokevirtual 91, 3) := by decide +kernel
theorem dX8_whose_50 : decode cX8_whose 50 = .ok (.ireturn, 1) := by decide +kernel
theorem dX8_whose_51 : decode cX8_whose 51 = .ok (.aload_n 3, 1) := by decide +kernel
theorem dX8_whose_52 : decode cX8_whose 52 = .ok (.invokestatic 272, 3) := by decide +kernel
theorem dX8_whose_55 : decode cX8_whose 55 = .ok (.ifCond .eq 15, 3) := by decide +kernel
theorem dX8_whose_58 : decode cX8_whose 58 = .ok (.aload_n 0, 1) := by decide +kernel
theorem dX8_whose_59 : decode cX8_whose 59 = .ok (.getfield 21, 3) := by decide +kernel
theorem dX8_whose_62 : decode cX8_whose 62 = .ok (.iload_n 1, 1) := by decide +kernel
theorem dX8_whose_63 : decode cX8_whose 63 = .ok (.aload_n 3, 1) := by decide +kernel
theorem dX8_whose_64 : decode cX8_whose 64 = .ok (.invokestatic 276, 3) := by decide +kernel
theorem dX8_whose_67 : decode cX8_whose 67 = .ok (.goto 8, 3) := by decide +kernel
theorem dX8_whose_70 : decode cX8_whose 70 = .ok (.aload_n 0, 1) := by decide +kernel
theorem dX8_whose_71 : decode cX8_whose 71 = .ok (.iconst 3, 1) := by decide +kernel
theorem dX8_whose_72 : decode cX8_whose 72 = .ok (.invokevirtual 91, 3) := by decide +kernel
theorem dX8_whose_75 : decode cX8_whose 75 = .ok (.ireturn, 1) := by decide +kernel
theorem dX8_duel_0 : decode cX8_duel 0 = .ok (.iload_n 1, 1) := by decide +kernel
theorem dX8_duel_1 : decode cX8_duel 1 = .ok (.invokestatic 181, 3) := by decide +kernel
theorem dX8_duel_4 : decode cX8_duel 4 = .ok (.ifCond .eq 12, 3) := by decide +kernel
theorem dX8_duel_7 : decode cX8_duel 7 = .ok (.iload_n 2, 1) := by decide +kernel
theorem dX8_duel_8 : decode cX8_duel 8 = .ok (.ifCond .lt 8, 3) := by decide +kernel
theorem dX8_duel_11 : decode cX8_duel 11 = .ok (.iload_n 2, 1) := by decide +kernel
theorem dX8_duel_12 : decode cX8_duel 12 = .ok (.iconst 4, 1) := by decide +kernel
theorem dX8_duel_13 : decode cX8_duel 13 = .ok (.if_icmp .le 5, 3) := by decide +kernel
theorem dX8_duel_16 : decode cX8_duel 16 = .ok (.iconst (-1), 1) := by decide +kernel
theorem dX8_duel_17 : decode cX8_duel 17 = .ok (.ireturn, 1) := by decide +kernel
theorem dX8_duel_18 : decode cX8_duel 18 = .ok (.aload_n 0, 1) := by decide +kernel
theorem dX8_duel_19 : decode cX8_duel 19 = .ok (.getfield 21, 3) := by decide +kernel
theorem dX8_duel_22 : decode cX8_duel 22 = .ok (.invokevirtual 133, 3) := by decide +kernel
theorem dX8_duel_25 : decode cX8_duel 25 = .ok (.ifCond .ne 8, 3) := by decide +kernel
theorem dX8_duel_28 : decode cX8_duel 28 = .ok (.bipush (-4), 2) := by decide +kernel
theorem dX8_duel_30 : decode cX8_duel 30 = .ok (.goto 16, 3) := by decide +kernel
theorem dX8_duel_33 : decode cX8_duel 33 = .ok (.aload_n 0, 1) := by decide +kernel
theorem dX8_duel_34 : decode cX8_duel 34 = .ok (.getfield 32, 3) := by decide +kernel
theorem dX8_duel_37 : decode cX8_duel 37 = .ok (.aload_n 0, 1) := by decide +kernel
theorem dX8_duel_38 : decode cX8_duel 38 = .ok (.getfield 21, 3) := by decide +kernel
theorem dX8_duel_41 : decode cX8_duel 41 = .ok (.iload_n 1, 1) := by decide +kernel
theorem dX8_duel_42 : decode cX8_duel 42 = .ok (.iload_n 2, 1) := by decide +kernel
theorem dX8_duel_43 : decode cX8_duel 43 = .ok (.invokevirtual 280, 3) := by decide +kernel
theorem dX8_duel_46 : decode cX8_duel 46 = .ok (.ireturn, 1) := by decide +kernel
theorem dX8_odds_0 : decode cX8_odds 0 = .ok (.iload_n 1, 1) := by decide +kernel
theorem dX8_odds_1 : decode cX8_odds 1 = .ok (.invokestatic 181, 3) := by decide +kernel
theorem dX8_odds_4 : decode cX8_odds 4 = .ok (.ifCond .eq 23, 3) := by decide +kernel
theorem dX8_odds_7 : decode cX8_odds 7 = .ok (.iload_n 2, 1) := by decide +kernel
theorem dX8_odds_8 : decode cX8_odds 8 = .ok (.ifCond .lt 19, 3) := by decide +kernel
theorem dX8_odds_11 : decode cX8_odds 11 = .ok (.iload_n 2, 1) := by decide +kernel
theorem dX8_odds_12 : decode cX8_odds 12 = .ok (.bipush 99, 2) := by decide +kernel
theorem dX8_odds_14 : decode cX8_odds 14 = .ok (.if_icmp .gt 13, 3) := by decide +kernel
theorem dX8_odds_17 : decode cX8_odds 17 = .ok (.iload_n 3, 1) := by decide +kernel
theorem dX8_odds_18 : decode cX8_odds 18 = .ok (.ifCond .lt 9, 3) := by decide +kernel
theorem dX8_odds_21 : decode cX8_odds 21 = .ok (.iload_n 3, 1) := by decide +kernel
theorem dX8_odds_22 : decode cX8_odds 22 = .ok (.bipush 12, 2) := by decide +kernel
theorem dX8_odds_24 : decode cX8_odds 24 = .ok (.if_icmp .le 5, 3) := by decide +kernel
theorem dX8_odds_27 : decode cX8_odds 27 = .ok (.iconst (-1), 1) := by decide +kernel
theorem dX8_odds_28 : decode cX8_odds 28 = .ok (.ireturn, 1) := by decide +kernel
theorem dX8_odds_29 : decode cX8_odds 29 = .ok (.aload_n 0, 1) := by decide +kernel
theorem dX8_odds_30 : decode cX8_odds 30 = .ok (.getfield 21, 3) := by decide +kernel
theorem dX8_odds_33 : decode cX8_odds 33 = .ok (.invokevirtual 133, 3) := by decide +kernel
theorem dX8_odds_36 : decode cX8_odds 36 = .ok (.ifCond .ne 6, 3) := by decide +kernel
theorem dX8_odds_39 : decode cX8_odds 39 = .ok (.bipush (-4), 2) := by decide +kernel
theorem dX8_odds_41 : decode cX8_odds 41 = .ok (.ireturn, 1) := by decide +kernel
theorem dX8_odds_42 : decode cX8_odds 42 = .ok (.aload_n 0, 1) := by decide +kernel
theorem dX8_odds_43 : decode cX8_odds 43 = .ok (.getfield 32, 3) := by decide +kernel
theorem dX8_odds_46 : decode cX8_odds 46 = .ok (.aload_n 0, 1) := by decide +kernel
theorem dX8_odds_47 : decode cX8_odds 47 = .ok (.getfield 21, 3) := by decide +kernel
theorem dX8_odds_50 : decode cX8_odds 50 = .ok (.iload_n 1, 1) := by decide +kernel
theorem dX8_odds_51 : decode cX8_odds 51 = .ok (.iload_n 2, 1) := by decide +kernel
theorem dX8_odds_52 : decode cX8_odds 52 = .ok (.iload_n 3, 1) := by decide +kernel
theorem dX8_odds_53 : decode cX8_odds 53 = .ok (.invokevirtual 283, 3) := by decide +kernel
theorem dX8_odds_56 : decode cX8_odds 56 = .ok (.lstore 4, 2) := by decide +kernel
theorem dX8_odds_58 : decode cX8_odds 58 = .ok (.aload_n 0, 1) := by decide +kernel
theorem dX8_odds_59 : decode cX8_odds 59 = .ok (.lload 4, 2) := by decide +kernel
theorem dX8_odds_61 : decode cX8_odds 61 = .ok (.bipush 12, 2) := by decide +kernel
theorem dX8_odds_63 : decode cX8_odds 63 = .ok (.aload_n 0, 1) := by decide +kernel
theorem dX8_odds_64 : decode cX8_odds 64 = .ok (.getfield 21, 3) := by decide +kernel
theorem dX8_odds_67 : decode cX8_odds 67 = .ok (.invokevirtual 287, 3) := by decide +kernel
theorem dX8_odds_70 : decode cX8_odds 70 = .ok (.invokestatic 230, 3) := by decide +kernel
theorem dX8_odds_73 : decode cX8_odds 73 = .ok (.invokestatic 290, 3) := by decide +kernel
theorem dX8_odds_76 : decode cX8_odds 76 = .ok (.invokevirtual 294, 3) := by decide +kernel
theorem dX8_odds_79 : decode cX8_odds 79 = .ok (.iconst 1, 1) := by decide +kernel
theorem dX8_odds_80 : decode cX8_odds 80 = .ok (.ireturn, 1) := by decide +kernel
theorem dX8_mid_0 : decode cX8_mid 0 = .ok (.iload_n 1, 1) := by decide +kernel
theorem dX8_mid_1 : decode cX8_mid 1 = .ok (.invokestatic 181, 3) := by decide +kernel
theorem dX8_mid_4 : decode cX8_mid 4 = .ok (.ifCond .eq 13, 3) := by decide +kernel
theorem dX8_mid_7 : decode cX8_mid 7 = .ok (.iload_n 2, 1) := by decide +kernel
theorem dX8_mid_8 : decode cX8_mid 8 = .ok (.ifCond .lt 9, 3) := by decide +kernel
theorem dX8_mid_11 : decode cX8_mid 11 = .ok (.iload_n 2, 1) := by decide +kernel
theorem dX8_mid_12 : decode cX8_mid 12 = .ok (.bipush 12, 2) := by decide +kernel
theorem dX8_mid_14 : decode cX8_mid 14 = .ok (.if_icmp .le 5, 3) := by decide +kernel
theorem dX8_mid_17 : decode cX8_mid 17 = .ok (.iconst (-1), 1) := by decide +kernel
theorem dX8_mid_18 : decode cX8_mid 18 = .ok (.ireturn, 1) := by decide +kernel
theorem dX8_mid_19 : decode cX8_mid 19 = .ok (.aload_n 0, 1) := by decide +kernel
theorem dX8_mid_20 : decode cX8_mid 20 = .ok (.getfield 21, 3) := by decide +kernel
theorem dX8_mid_23 : decode cX8_mid 23 = .ok (.invokevirtual 133, 3) := by decide +kernel
theorem dX8_mid_26 : decode cX8_mid 26 = .ok (.ifCond .ne 6, 3) := by decide +kernel
theorem dX8_mid_29 : decode cX8_mid 29 = .ok (.bipush (-4), 2) := by decide +kernel
theorem dX8_mid_31 : decode cX8_mid 31 = .ok (.ireturn, 1) := by decide +kernel
theorem dX8_mid_32 : decode cX8_mid 32 = .ok (.aload_n 0, 1) := by decide +kernel
theorem dX8_mid_33 : decode cX8_mid 33 = .ok (.getfield 21, 3) := by decide +kernel
theorem dX8_mid_36 : decode cX8_mid 36 = .ok (.iload_n 1, 1) := by decide +kernel
theorem dX8_mid_37 : decode cX8_mid 37 = .ok (.aload_n 0, 1) := by decide +kernel
theorem dX8_mid_38 : decode cX8_mid 38 = .ok (.getfield 21, 3) := by decide +kernel
theorem dX8_mid_41 : decode cX8_mid 41 = .ok (.invokevirtual 153, 3) := by decide +kernel
theorem dX8_mid_44 : decode cX8_mid 44 = .ok (.invokevirtual 197, 3) := by decide +kernel
theorem dX8_mid_47 : decode cX8_mid 47 = .ok (.i2l, 1) := by decide +kernel
theorem dX8_mid_48 : decode cX8_mid 48 = .ok (.lstore_n 3, 1) := by decide +kernel
theorem dX8_mid_49 : decode cX8_mid 49 = .ok (.aload_n 0, 1) := by decide +kernel
theorem dX8_mid_50 : decode cX8_mid 50 = .ok (.lload_n 3, 1) := by decide +kernel
theorem dX8_mid_51 : decode cX8_mid 51 = .ok (.bipush 12, 2) := by decide +kernel
theorem dX8_mid_53 : decode cX8_mid 53 = .ok (.iload_n 2, 1) := by decide +kernel
theorem dX8_mid_54 : decode cX8_mid 54 = .ok (.isub, 1) := by decide +kernel
theorem dX8_mid_55 : decode cX8_mid 55 = .ok (.i2l, 1) := by decide +kernel
theorem dX8_mid_56 : decode cX8_mid 56 = .ok (.lmul, 1) := by decide +kernel
theorem dX8_mid_57 : decode cX8_mid 57 = .ok (.ldc2_w 298, 3) := by decide +kernel
theorem dX8_mid_60 : decode cX8_mid 60 = .ok (.invokevirtual 294, 3) := by decide +kernel
theorem dX8_mid_63 : decode cX8_mid 63 = .ok (.iconst 1, 1) := by decide +kernel
theorem dX8_mid_64 : decode cX8_mid 64 = .ok (.ireturn, 1) := by decide +kernel
theorem dX8_lots_0 : decode cX8_lots 0 = .ok (.iload_n 1, 1) := by decide +kernel
theorem dX8_lots_1 : decode cX8_lots 1 = .ok (.iconst 1, 1) := by decide +kernel
theorem dX8_lots_2 : decode cX8_lots 2 = .ok (.if_icmp .lt 21, 3) := by decide +kernel
theorem dX8_lots_5 : decode cX8_lots 5 = .ok (.iload_n 1, 1) := by decide +kernel
theorem dX8_lots_6 : decode cX8_lots 6 = .ok (.bipush 20, 2) := by decide +kernel
theorem dX8_lots_8 : decode cX8_lots 8 = .ok (.if_icmp .gt 15, 3) := by decide +kernel
theorem dX8_lots_11 : decode cX8_lots 11 = .ok (.iload_n 2, 1) := by decide +kernel
theorem dX8_lots_12 : decode cX8_lots 12 = .ok (.iconst 1, 1) := by decide +kernel
theorem dX8_lots_13 : decode cX8_lots 13 = .ok (.if_icmp .lt 10, 3) := by decide +kernel
theorem dX8_lots_16 : decode cX8_lots 16 = .ok (.iload_n 2, 1) := by decide +kernel
theorem dX8_lots_17 : decode cX8_lots 17 = .ok (.ldc_w 300, 3) := by decide +kernel
theorem dX8_lots_20 : decode cX8_lots 20 = .ok (.if_icmp .le 5, 3) := by decide +kernel
theorem dX8_lots_23 : decode cX8_lots 23 = .ok (.iconst (-1), 1) := by decide +kernel
theorem dX8_lots_24 : decode cX8_lots 24 = .ok (.ireturn, 1) := by decide +kernel
theorem dX8_lots_25 : decode cX8_lots 25 = .ok (.aload_n 0, 1) := by decide +kernel
theorem dX8_lots_26 : decode cX8_lots 26 = .ok (.getfield 21, 3) := by decide +kernel
theorem dX8_lots_29 : decode cX8_lots 29 = .ok (.invokevirtual 133, 3) := by decide +kernel
theorem dX8_lots_32 : decode cX8_lots 32 = .ok (.ifCond .ne 6, 3) := by decide +kernel
theorem dX8_lots_35 : decode cX8_lots 35 = .ok (.bipush (-4), 2) := by decide +kernel
theorem dX8_lots_37 : decode cX8_lots 37 = .ok (.ireturn, 1) := by decide +kernel
theorem dX8_lots_38 : decode cX8_lots 38 = .ok (.aload_n 0, 1) := by decide +kernel
theorem dX8_lots_39 : decode cX8_lots 39 = .ok (.getfield 21, 3) := by decide +kernel
theorem dX8_lots_42 : decode cX8_lots 42 = .ok (.invokevirtual 163, 3) := by decide +kernel
theorem dX8_lots_45 : decode cX8_lots 45 = .ok (.iload_n 1, 1) := by decide +kernel
theorem dX8_lots_46 : decode cX8_lots 46 = .ok (.iadd, 1) := by decide +kernel
theorem dX8_lots_47 : decode cX8_lots 47 = .ok (.bipush 40, 2) := by decide +kernel
theorem dX8_lots_49 : decode cX8_lots 49 = .ok (.if_icmp .le 6, 3) := by decide +kernel
theorem dX8_lots_52 : decode cX8_lots 52 = .ok (.bipush (-2), 2) := by decide +kernel
theorem dX8_lots_54 : decode cX8_lots 54 = .ok (.ireturn, 1) := by decide +kernel
theorem dX8_lots_55 : decode cX8_lots 55 = .ok (.iload_n 2, 1) := by decide +kernel
theorem dX8_lots_56 : decode cX8_lots 56 = .ok (.i2l, 1) := by decide +kernel
theorem dX8_lots_57 : decode cX8_lots 57 = .ok (.lstore_n 3, 1) := by decide +kernel
theorem dX8_lots_58 : decode cX8_lots 58 = .ok (.iconst 0, 1) := by decide +kernel
theorem dX8_lots_59 : decode cX8_lots 59 = .ok (.istore 5, 2) := by decide +kernel
theorem dX8_lots_61 : decode cX8_lots 61 = .ok (.iload 5, 2) := by decide +kernel
theorem dX8_lots_63 : decode cX8_lots 63 = .ok (.iload_n 1, 1) := by decide +kernel
theorem dX8_lots_64 : decode cX8_lots 64 = .ok (.if_icmp .ge 27, 3) := by decide +kernel
theorem dX8_lots_67 : decode cX8_lots 67 = .ok (.lload_n 3, 1) := by decide +kernel
theorem dX8_lots_68 : decode cX8_lots 68 = .ok (.ldc2_w 301, 3) := by decide +kernel
theorem dX8_lots_71 : decode cX8_lots 71 = .ok (.lmul, 1) := by decide +kernel
theorem dX8_lots_72 : decode cX8_lots 72 = .ok (.ldc2_w 303, 3) := by decide +kernel
theorem dX8_lots_75 : decode cX8_lots 75 = .ok (.lrem, 1) := by decide +kernel
theorem dX8_lots_76 : decode cX8_lots 76 = .ok (.lstore_n 3, 1) := by decide +kernel
theorem dX8_lots_77 : decode cX8_lots 77 = .ok (.aload_n 0, 1) := by decide +kernel
theorem dX8_lots_78 : decode cX8_lots 78 = .ok (.getfield 21, 3) := by decide +kernel
theorem dX8_lots_81 : decode cX8_lots 81 = .ok (.lload_n 3, 1) := by decide +kernel
theorem dX8_lots_82 : decode cX8_lots 82 = .ok (.invokevirtual 305, 3) := by decide +kernel
theorem dX8_lots_85 : decode cX8_lots 85 = .ok (.iinc 5 1, 3) := by decide +kernel
theorem dX8_lots_88 : decode cX8_lots 88 = .ok (.goto (-27), 3) := by decide +kernel
theorem dX8_lots_91 : decode cX8_lots 91 = .ok (.aload_n 0, 1) := by decide +kernel
theorem dX8_lots_92 : decode cX8_lots 92 = .ok (.getfield 21, 3) := by decide +kernel
theorem dX8_lots_95 : decode cX8_lots 95 = .ok (.invokevirtual 169, 3) := by decide +kernel
theorem dX8_lots_98 : decode cX8_lots 98 = .ok (.ireturn, 1) := by decide +kernel
theorem dX8_asked_0 : decode cX8_asked 0 = .ok (.aload_n 0, 1) := by decide +kernel
theorem dX8_asked_1 : decode cX8_asked 1 = .ok (.getfield 51, 3) := by decide +kernel
theorem dX8_asked_4 : decode cX8_asked 4 = .ok (.ireturn, 1) := by decide +kernel
theorem dX8_upper_0 : decode cX8_upper 0 = .ok (.aload_n 0, 1) := by decide +kernel
theorem dX8_upper_1 : decode cX8_upper 1 = .ok (.getfield 54, 3) := by decide +kernel
theorem dX8_upper_4 : decode cX8_upper 4 = .ok (.lreturn, 1) := by decide +kernel
theorem dX8_lower_0 : decode cX8_lower 0 = .ok (.aload_n 0, 1) := by decide +kernel
theorem dX8_lower_1 : decode cX8_lower 1 = .ok (.getfield 58, 3) := by decide +kernel
theorem dX8_lower_4 : decode cX8_lower 4 = .ok (.lreturn, 1) := by decide +kernel
theorem dX8_count_0 : decode cX8_count 0 = .ok (.iload_n 1, 1) := by decide +kernel
theorem dX8_count_1 : decode cX8_count 1 = .ok (.tableswitch 134 0 9 #[55, 63, 71, 79, 87, 95, 104, 113, 121, 129], 55) := by decide +kernel
theorem dX8_count_56 : decode cX8_count 56 = .ok (.aload_n 0, 1) := by decide +kernel
theorem dX8_count_57 : decode cX8_count 57 = .ok (.getfield 21, 3) := by decide +kernel
theorem dX8_count_60 : decode cX8_count 60 = .ok (.invokevirtual 133, 3) := by decide +kernel
theorem dX8_count_63 : decode cX8_count 63 = .ok (.ireturn, 1) := by decide +kernel
theorem dX8_count_64 : decode cX8_count 64 = .ok (.aload_n 0, 1) := by decide +kernel
theorem dX8_count_65 : decode cX8_count 65 = .ok (.getfield 21, 3) := by decide +kernel
theorem dX8_count_68 : decode cX8_count 68 = .ok (.invokevirtual 153, 3) := by decide +kernel
theorem dX8_count_71 : decode cX8_count 71 = .ok (.ireturn, 1) := by decide +kernel
theorem dX8_count_72 : decode cX8_count 72 = .ok (.aload_n 0, 1) := by decide +kernel
theorem dX8_count_73 : decode cX8_count 73 = .ok (.getfield 21, 3) := by decide +kernel
theorem dX8_count_76 : decode cX8_count 76 = .ok (.invokevirtual 163, 3) := by decide +kernel
theorem dX8_count_79 : decode cX8_count 79 = .ok (.ireturn, 1) := by decide +kernel
theorem dX8_count_80 : decode cX8_count 80 = .ok (.aload_n 0, 1) := by decide +kernel
theorem dX8_count_81 : decode cX8_count 81 = .ok (.getfield 21, 3) := by decide +kernel
theorem dX8_count_84 : decode cX8_count 84 = .ok (.invokevirtual 287, 3) := by decide +kernel
theorem dX8_count_87 : decode cX8_count 87 = .ok (.ireturn, 1) := by decide +kernel
theorem dX8_count_88 : decode cX8_count 88 = .ok (.aload_n 0, 1) := by decide +kernel
theorem dX8_count_89 : decode cX8_count 89 = .ok (.getfield 21, 3) := by decide +kernel
theorem dX8_count_92 : decode cX8_count 92 = .ok (.invokevirtual 169, 3) := by decide +kernel
theorem dX8_count_95 : decode cX8_count 95 = .ok (.ireturn, 1) := by decide +kernel
theorem dX8_count_96 : decode cX8_count 96 = .ok (.aload_n 0, 1) := by decide +kernel
theorem dX8_count_97 : decode cX8_count 97 = .ok (.getfield 21, 3) := by decide +kernel
theorem dX8_count_100 : decode cX8_count 100 = .ok (.iconst 3, 1) := by decide +kernel
theorem dX8_count_101 : decode cX8_count 101 = .ok (.invokevirtual 309, 3) := by decide +kernel
theorem dX8_count_104 : decode cX8_count 104 = .ok (.ireturn, 1) := by decide +kernel
theorem dX8_count_105 : decode cX8_count 105 = .ok (.aload_n 0, 1) := by decide +kernel
theorem dX8_count_106 : decode cX8_count 106 = .ok (.getfield 21, 3) := by decide +kernel
theorem dX8_count_109 : decode cX8_count 109 = .ok (.iconst 2, 1) := by decide +kernel
theorem dX8_count_110 : decode cX8_count 110 = .ok (.invokevirtual 309, 3) := by decide +kernel
theorem dX8_count_113 : decode cX8_count 113 = .ok (.ireturn, 1) := by decide +kernel
theorem dX8_count_114 : decode cX8_count 114 = .ok (.aload_n 0, 1) := by decide +kernel
theorem dX8_count_115 : decode cX8_count 115 = .ok (.getfield 11, 3) := by decide +kernel
theorem dX8_count_118 : decode cX8_count 118 = .ok (.invokestatic 312, 3) := by decide +kernel
theorem dX8_count_121 : decode cX8_count 121 = .ok (.ireturn, 1) := by decide +kernel
theorem dX8_count_122 : decode cX8_count 122 = .ok (.aload_n 0, 1) := by decide +kernel
theorem dX8_count_123 : decode cX8_count 123 = .ok (.getfield 15, 3) := by decide +kernel
theorem dX8_count_126 : decode cX8_count 126 = .ok (.invokestatic 312, 3) := by decide +kernel
theorem dX8_count_129 : decode cX8_count 129 = .ok (.ireturn, 1) := by decide +kernel
theorem dX8_count_130 : decode cX8_count 130 = .ok (.aload_n 0, 1) := by decide +kernel
theorem dX8_count_131 : decode cX8_count 131 = .ok (.invokevirtual 316, 3) := by decide +kernel
theorem dX8_count_134 : decode cX8_count 134 = .ok (.ireturn, 1) := by decide +kernel
theorem dX8_count_135 : decode cX8_count 135 = .ok (.iconst (-1), 1) := by decide +kernel
theorem dX8_count_136 : decode cX8_count 136 = .ok (.ireturn, 1) := by decide +kernel
theorem dX8_finding_0 : decode cX8_finding 0 = .ok (.aload_n 0, 1) := by decide +kernel
theorem dX8_finding_1 : decode cX8_finding 1 = .ok (.getfield 47, 3) := by decide +kernel
theorem dX8_finding_4 : decode cX8_finding 4 = .ok (.ireturn, 1) := by decide +kernel
theorem dX8_findings_0 : decode cX8_findings 0 = .ok (.iload_n 1, 1) := by decide +kernel
theorem dX8_findings_1 : decode cX8_findings 1 = .ok (.iconst 1, 1) := by decide +kernel
theorem dX8_findings_2 : decode cX8_findings 2 = .ok (.if_icmp .lt 21, 3) := by decide +kernel
theorem dX8_findings_5 : decode cX8_findings 5 = .ok (.iload_n 1, 1) := by decide +kernel
theorem dX8_findings_6 : decode cX8_findings 6 = .ok (.aload_n 0, 1) := by decide +kernel
theorem dX8_findings_7 : decode cX8_findings 7 = .ok (.getfield 43, 3) := by decide +kernel
theorem dX8_findings_10 : decode cX8_findings 10 = .ok (.arraylength, 1) := by decide +kernel
theorem dX8_findings_11 : decode cX8_findings 11 = .ok (.if_icmp .ge 12, 3) := by decide +kernel
theorem dX8_findings_14 : decode cX8_findings 14 = .ok (.aload_n 0, 1) := by decide +kernel
theorem dX8_findings_15 : decode cX8_findings 15 = .ok (.getfield 43, 3) := by decide +kernel
theorem dX8_findings_18 : decode cX8_findings 18 = .ok (.iload_n 1, 1) := by decide +kernel
theorem dX8_findings_19 : decode cX8_findings 19 = .ok (.iaload, 1) := by decide +kernel
theorem dX8_findings_20 : decode cX8_findings 20 = .ok (.goto 4, 3) := by decide +kernel
theorem dX8_findings_23 : decode cX8_findings 23 = .ok (.iconst (-1), 1) := by decide +kernel
theorem dX8_findings_24 : decode cX8_findings 24 = .ok (.ireturn, 1) := by decide +kernel
theorem dX8_digest_0 : decode cX8_digest 0 = .ok (.ldc2_w 319, 3) := by decide +kernel
theorem dX8_digest_3 : decode cX8_digest 3 = .ok (.lstore_n 1, 1) := by decide +kernel
theorem dX8_digest_4 : decode cX8_digest 4 = .ok (.iconst 0, 1) := by decide +kernel
theorem dX8_digest_5 : decode cX8_digest 5 = .ok (.istore_n 3, 1) := by decide +kernel
theorem dX8_digest_6 : decode cX8_digest 6 = .ok (.iload_n 3, 1) := by decide +kernel
theorem dX8_digest_7 : decode cX8_digest 7 = .ok (.bipush 9, 2) := by decide +kernel
theorem dX8_digest_9 : decode cX8_digest 9 = .ok (.if_icmp .gt 22, 3) := by decide +kernel
theorem dX8_digest_12 : decode cX8_digest 12 = .ok (.ldc2_w 321, 3) := by decide +kernel
theorem dX8_digest_15 : decode cX8_digest 15 = .ok (.lload_n 1, 1) := by decide +kernel
theorem dX8_digest_16 : decode cX8_digest 16 = .ok (.lmul, 1) := by decide +kernel
theorem dX8_digest_17 : decode cX8_digest 17 = .ok (.aload_n 0, 1) := by decide +kernel
theorem dX8_digest_18 : decode cX8_digest 18 = .ok (.iload_n 3, 1) := by decide +kernel
theorem dX8_digest_19 : decode cX8_digest 19 = .ok (.invokevirtual 323, 3) := by decide +kernel
theorem dX8_digest_22 : decode cX8_digest 22 = .ok (.i2l, 1) := by decide +kernel
theorem dX8_digest_23 : decode cX8_digest 23 = .ok (.ladd, 1) := by decide +kernel
theorem dX8_digest_24 : decode cX8_digest 24 = .ok (.lstore_n 1, 1) := by decide +kernel
theorem dX8_digest_25 : decode cX8_digest 25 = .ok (.iinc 3 1, 3) := by decide +kernel
theorem dX8_digest_28 : decode cX8_digest 28 = .ok (.goto (-22), 3) := by decide +kernel
theorem dX8_digest_31 : decode cX8_digest 31 = .ok (.iconst 0, 1) := by decide +kernel
theorem dX8_digest_32 : decode cX8_digest 32 = .ok (.istore_n 3, 1) := by decide +kernel
theorem dX8_digest_33 : decode cX8_digest 33 = .ok (.iload_n 3, 1) := by decide +kernel
theorem dX8_digest_34 : decode cX8_digest 34 = .ok (.aload_n 0, 1) := by decide +kernel
theorem dX8_digest_35 : decode cX8_digest 35 = .ok (.getfield 21, 3) := by decide +kernel
theorem dX8_digest_38 : decode cX8_digest 38 = .ok (.invokevirtual 133, 3) := by decide +kernel
theorem dX8_digest_41 : decode cX8_digest 41 = .ok (.if_icmp .ge 43, 3) := by decide +kernel
theorem dX8_digest_44 : decode cX8_digest 44 = .ok (.iconst 0, 1) := by decide +kernel
theorem dX8_digest_45 : decode cX8_digest 45 = .ok (.istore 4, 2) := by decide +kernel
theorem dX8_digest_47 : decode cX8_digest 47 = .ok (.iload 4, 2) := by decide +kernel
theorem dX8_digest_49 : decode cX8_digest 49 = .ok (.bipush 6, 2) := by decide +kernel
theorem dX8_digest_51 : decode cX8_digest 51 = .ok (.if_icmp .gt 27, 3) := by decide +kernel
theorem dX8_digest_54 : decode cX8_digest 54 = .ok (.ldc2_w 321, 3) := by decide +kernel
theorem dX8_digest_57 : decode cX8_digest 57 = .ok (.lload_n 1, 1) := by decide +kernel
theorem dX8_digest_58 : decode cX8_digest 58 = .ok (.lmul, 1) := by decide +kernel
theorem dX8_digest_59 : decode cX8_digest 59 = .ok (.aload_n 0, 1) := by decide +kernel
theorem dX8_digest_60 : decode cX8_digest 60 = .ok (.getfield 21, 3) := by decide +kernel
theorem dX8_digest_63 : decode cX8_digest 63 = .ok (.iload_n 3, 1) := by decide +kernel
theorem dX8_digest_64 : decode cX8_digest 64 = .ok (.iload 4, 2) := by decide +kernel
theorem dX8_digest_66 : decode cX8_digest 66 = .ok (.invokevirtual 138, 3) := by decide +kernel
theorem dX8_digest_69 : decode cX8_digest 69 = .ok (.i2l, 1) := by decide +kernel
theorem dX8_digest_70 : decode cX8_digest 70 = .ok (.ladd, 1) := by decide +kernel
theorem dX8_digest_71 : decode cX8_digest 71 = .ok (.lstore_n 1, 1) := by decide +kernel
theorem dX8_digest_72 : decode cX8_digest 72 = .ok (.iinc 4 1, 3) := by decide +kernel
theorem dX8_digest_75 : decode cX8_digest 75 = .ok (.goto (-28), 3) := by decide +kernel
theorem dX8_digest_78 : decode cX8_digest 78 = .ok (.iinc 3 1, 3) := by decide +kernel
theorem dX8_digest_81 : decode cX8_digest 81 = .ok (.goto (-48), 3) := by decide +kernel
theorem dX8_digest_84 : decode cX8_digest 84 = .ok (.iconst 0, 1) := by decide +kernel
theorem dX8_digest_85 : decode cX8_digest 85 = .ok (.istore_n 3, 1) := by decide +kernel
theorem dX8_digest_86 : decode cX8_digest 86 = .ok (.iload_n 3, 1) := by decide +kernel
theorem dX8_digest_87 : decode cX8_digest 87 = .ok (.aload_n 0, 1) := by decide +kernel
theorem dX8_digest_88 : decode cX8_digest 88 = .ok (.getfield 25, 3) := by decide +kernel
theorem dX8_digest_91 : decode cX8_digest 91 = .ok (.arraylength, 1) := by decide +kernel
theorem dX8_digest_92 : decode cX8_digest 92 = .ok (.if_icmp .ge 46, 3) := by decide +kernel
theorem dX8_digest_95 : decode cX8_digest 95 = .ok (.aload_n 0, 1) := by decide +kernel
theorem dX8_digest_96 : decode cX8_digest 96 = .ok (.iload_n 3, 1) := by decide +kernel
theorem dX8_digest_97 : decode cX8_digest 97 = .ok (.invokevirtual 126, 3) := by decide +kernel
theorem dX8_digest_100 : decode cX8_digest 100 = .ok (.astore 4, 2) := by decide +kernel
theorem dX8_digest_102 : decode cX8_digest 102 = .ok (.ldc2_w 321, 3) := by decide +kernel
theorem dX8_digest_105 : decode cX8_digest 105 = .ok (.lload_n 1, 1) := by decide +kernel
theorem dX8_digest_106 : decode cX8_digest 106 = .ok (.lmul, 1) := by decide +kernel
theorem dX8_digest_107 : decode cX8_digest 107 = .ok (.aload 4, 2) := by decide +kernel
theorem dX8_digest_109 : decode cX8_digest 109 = .ok (.ifnull 11, 3) := by decide +kernel
theorem dX8_digest_112 : decode cX8_digest 112 = .ok (.aload 4, 2) := by decide +kernel
theorem dX8_digest_114 : decode cX8_digest 114 = .ok (.invokevirtual 133, 3) := by decide +kernel
theorem dX8_digest_117 : decode cX8_digest 117 = .ok (.ifCond .ne 7, 3) := by decide +kernel
theorem dX8_digest_120 : decode cX8_digest 120 = .ok (.iconst (-1), 1) := by decide +kernel
theorem dX8_digest_121 : decode cX8_digest 121 = .ok (.goto 8, 3) := by decide +kernel
theorem dX8_digest_124 : decode cX8_digest 124 = .ok (.aload 4, 2) := by decide +kernel
theorem dX8_digest_126 : decode cX8_digest 126 = .ok (.invokevirtual 163, 3) := by decide +kernel
theorem dX8_digest_129 : decode cX8_digest 129 = .ok (.i2l, 1) := by decide +kernel
theorem dX8_digest_130 : decode cX8_digest 130 = .ok (.ladd, 1) := by decide +kernel
theorem dX8_digest_131 : decode cX8_digest 131 = .ok (.lstore_n 1, 1) := by decide +kernel
theorem dX8_digest_132 : decode cX8_digest 132 = .ok (.iinc 3 1, 3) := by decide +kernel
theorem dX8_digest_135 : decode cX8_digest 135 = .ok (.goto (-49), 3) := by decide +kernel
theorem dX8_digest_138 : decode cX8_digest 138 = .ok (.lload_n 1, 1) := by decide +kernel
theorem dX8_digest_139 : decode cX8_digest 139 = .ok (.aload_n 0, 1) := by decide +kernel
theorem dX8_digest_140 : decode cX8_digest 140 = .ok (.getfield 11, 3) := by decide +kernel
theorem dX8_digest_143 : decode cX8_digest 143 = .ok (.invokestatic 326, 3) := by decide +kernel
theorem dX8_digest_146 : decode cX8_digest 146 = .ok (.lstore_n 1, 1) := by decide +kernel
theorem dX8_digest_147 : decode cX8_digest 147 = .ok (.lload_n 1, 1) := by decide +kernel
theorem dX8_digest_148 : decode cX8_digest 148 = .ok (.aload_n 0, 1) := by decide +kernel
theorem dX8_digest_149 : decode cX8_digest 149 = .ok (.getfield 15, 3) := by decide +kernel
theorem dX8_digest_152 : decode cX8_digest 152 = .ok (.invokestatic 326, 3) := by decide +kernel
theorem dX8_digest_155 : decode cX8_digest 155 = .ok (.lreturn, 1) := by decide +kernel
theorem dX8_isPlace_0 : decode cX8_isPlace 0 = .ok (.iload_n 0, 1) := by decide +kernel
theorem dX8_isPlace_1 : decode cX8_isPlace 1 = .ok (.ifCond .lt 13, 3) := by decide +kernel
theorem dX8_isPlace_4 : decode cX8_isPlace 4 = .ok (.iload_n 0, 1) := by decide +kernel
theorem dX8_isPlace_5 : decode cX8_isPlace 5 = .ok (.bipush 10, 2) := by decide +kernel
theorem dX8_isPlace_7 : decode cX8_isPlace 7 = .ok (.if_icmp .ge 7, 3) := by decide +kernel
theorem dX8_isPlace_10 : decode cX8_isPlace 10 = .ok (.iconst 1, 1) := by decide +kernel
theorem dX8_isPlace_11 : decode cX8_isPlace 11 = .ok (.goto 4, 3) := by decide +kernel
theorem dX8_isPlace_14 : decode cX8_isPlace 14 = .ok (.iconst 0, 1) := by decide +kernel
theorem dX8_isPlace_15 : decode cX8_isPlace 15 = .ok (.ireturn, 1) := by decide +kernel
theorem dX8_isPerson_0 : decode cX8_isPerson 0 = .ok (.iload_n 0, 1) := by decide +kernel
theorem dX8_isPerson_1 : decode cX8_isPerson 1 = .ok (.ifCond .lt 13, 3) := by decide +kernel
theorem dX8_isPerson_4 : decode cX8_isPerson 4 = .ok (.iload_n 0, 1) := by decide +kernel
theorem dX8_isPerson_5 : decode cX8_isPerson 5 = .ok (.bipush 6, 2) := by decide +kernel
theorem dX8_isPerson_7 : decode cX8_isPerson 7 = .ok (.if_icmp .ge 7, 3) := by decide +kernel
theorem dX8_isPerson_10 : decode cX8_isPerson 10 = .ok (.iconst 1, 1) := by decide +kernel
theorem dX8_isPerson_11 : decode cX8_isPerson 11 = .ok (.goto 4, 3) := by decide +kernel
theorem dX8_isPerson_14 : decode cX8_isPerson 14 = .ok (.iconst 0, 1) := by decide +kernel
theorem dX8_isPerson_15 : decode cX8_isPerson 15 = .ok (.ireturn, 1) := by decide +kernel
theorem dX8_isStretch_0 : decode cX8_isStretch 0 = .ok (.iload_n 0, 1) := by decide +kernel
theorem dX8_isStretch_1 : decode cX8_isStretch 1 = .ok (.invokestatic 181, 3) := by decide +kernel
theorem dX8_isStretch_4 : decode cX8_isStretch 4 = .ok (.ifCond .eq 19, 3) := by decide +kernel
theorem dX8_isStretch_7 : decode cX8_isStretch 7 = .ok (.iload_n 1, 1) := by decide +kernel
theorem dX8_isStretch_8 : decode cX8_isStretch 8 = .ok (.invokestatic 181, 3) := by decide +kernel
theorem dX8_isStretch_11 : decode cX8_isStretch 11 = .ok (.ifCond .eq 12, 3) := by decide +kernel
theorem dX8_isStretch_14 : decode cX8_isStretch 14 = .ok (.iload_n 0, 1) := by decide +kernel
theorem dX8_isStretch_15 : decode cX8_isStretch 15 = .ok (.iload_n 1, 1) := by decide +kernel
theorem dX8_isStretch_16 : decode cX8_isStretch 16 = .ok (.if_icmp .gt 7, 3) := by decide +kernel
theorem dX8_isStretch_19 : decode cX8_isStretch 19 = .ok (.iconst 1, 1) := by decide +kernel
theorem dX8_isStretch_20 : decode cX8_isStretch 20 = .ok (.goto 4, 3) := by decide +kernel
theorem dX8_isStretch_23 : decode cX8_isStretch 23 = .ok (.iconst 0, 1) := by decide +kernel
theorem dX8_isStretch_24 : decode cX8_isStretch 24 = .ok (.ireturn, 1) := by decide +kernel
theorem dX8_rowOf_0 : decode cX8_rowOf 0 = .ok (.iload_n 1, 1) := by decide +kernel
theorem dX8_rowOf_1 : decode cX8_rowOf 1 = .ok (.ifCond .lt 21, 3) := by decide +kernel
theorem dX8_rowOf_4 : decode cX8_rowOf 4 = .ok (.iload_n 1, 1) := by decide +kernel
theorem dX8_rowOf_5 : decode cX8_rowOf 5 = .ok (.aload_n 0, 1) := by decide +kernel
theorem dX8_rowOf_6 : decode cX8_rowOf 6 = .ok (.getfield 11, 3) := by decide +kernel
theorem dX8_rowOf_9 : decode cX8_rowOf 9 = .ok (.arraylength, 1) := by decide +kernel
theorem dX8_rowOf_10 : decode cX8_rowOf 10 = .ok (.if_icmp .ge 12, 3) := by decide +kernel
theorem dX8_rowOf_13 : decode cX8_rowOf 13 = .ok (.aload_n 0, 1) := by decide +kernel
theorem dX8_rowOf_14 : decode cX8_rowOf 14 = .ok (.getfield 11, 3) := by decide +kernel
theorem dX8_rowOf_17 : decode cX8_rowOf 17 = .ok (.iload_n 1, 1) := by decide +kernel
theorem dX8_rowOf_18 : decode cX8_rowOf 18 = .ok (.aaload, 1) := by decide +kernel
theorem dX8_rowOf_19 : decode cX8_rowOf 19 = .ok (.goto 4, 3) := by decide +kernel
theorem dX8_rowOf_22 : decode cX8_rowOf 22 = .ok (.aconst_null, 1) := by decide +kernel
theorem dX8_rowOf_23 : decode cX8_rowOf 23 = .ok (.areturn, 1) := by decide +kernel
theorem dX8_textOf_0 : decode cX8_textOf 0 = .ok (.iload_n 1, 1) := by decide +kernel
theorem dX8_textOf_1 : decode cX8_textOf 1 = .ok (.ifCond .lt 21, 3) := by decide +kernel
theorem dX8_textOf_4 : decode cX8_textOf 4 = .ok (.iload_n 1, 1) := by decide +kernel
theorem dX8_textOf_5 : decode cX8_textOf 5 = .ok (.aload_n 0, 1) := by decide +kernel
theorem dX8_textOf_6 : decode cX8_textOf 6 = .ok (.getfield 15, 3) := by decide +kernel
theorem dX8_textOf_9 : decode cX8_textOf 9 = .ok (.arraylength, 1) := by decide +kernel
theorem dX8_textOf_10 : decode cX8_textOf 10 = .ok (.if_icmp .ge 12, 3) := by decide +kernel
theorem dX8_textOf_13 : decode cX8_textOf 13 = .ok (.aload_n 0, 1) := by decide +kernel
theorem dX8_textOf_14 : decode cX8_textOf 14 = .ok (.getfield 15, 3) := by decide +kernel
theorem dX8_textOf_17 : decode cX8_textOf 17 = .ok (.iload_n 1, 1) := by decide +kernel
theorem dX8_textOf_18 : decode cX8_textOf 18 = .ok (.aaload, 1) := by decide +kernel
theorem dX8_textOf_19 : decode cX8_textOf 19 = .ok (.goto 4, 3) := by decide +kernel
theorem dX8_textOf_22 : decode cX8_textOf 22 = .ok (.aconst_null, 1) := by decide +kernel
theorem dX8_textOf_23 : decode cX8_textOf 23 = .ok (.areturn, 1) := by decide +kernel
theorem dX8_keepOf_0 : decode cX8_keepOf 0 = .ok (.iload_n 1, 1) := by decide +kernel
theorem dX8_keepOf_1 : decode cX8_keepOf 1 = .ok (.ifCond .lt 21, 3) := by decide +kernel
theorem dX8_keepOf_4 : decode cX8_keepOf 4 = .ok (.iload_n 1, 1) := by decide +kernel
theorem dX8_keepOf_5 : decode cX8_keepOf 5 = .ok (.aload_n 0, 1) := by decide +kernel
theorem dX8_keepOf_6 : decode cX8_keepOf 6 = .ok (.getfield 25, 3) := by decide +kernel
theorem dX8_keepOf_9 : decode cX8_keepOf 9 = .ok (.arraylength, 1) := by decide +kernel
theorem dX8_keepOf_10 : decode cX8_keepOf 10 = .ok (.if_icmp .ge 12, 3) := by decide +kernel
theorem dX8_keepOf_13 : decode cX8_keepOf 13 = .ok (.aload_n 0, 1) := by decide +kernel
theorem dX8_keepOf_14 : decode cX8_keepOf 14 = .ok (.getfield 25, 3) := by decide +kernel
theorem dX8_keepOf_17 : decode cX8_keepOf 17 = .ok (.iload_n 1, 1) := by decide +kernel
theorem dX8_keepOf_18 : decode cX8_keepOf 18 = .ok (.aaload, 1) := by decide +kernel
theorem dX8_keepOf_19 : decode cX8_keepOf 19 = .ok (.goto 4, 3) := by decide +kernel
theorem dX8_keepOf_22 : decode cX8_keepOf 22 = .ok (.aconst_null, 1) := by decide +kernel
theorem dX8_keepOf_23 : decode cX8_keepOf 23 = .ok (.areturn, 1) := by decide +kernel
theorem dX8_refuse_0 : decode cX8_refuse 0 = .ok (.iload_n 1, 1) := by decide +kernel
theorem dX8_refuse_1 : decode cX8_refuse 1 = .ok (.ifCond .lt 27, 3) := by decide +kernel
theorem dX8_refuse_4 : decode cX8_refuse 4 = .ok (.iload_n 1, 1) := by decide +kernel
theorem dX8_refuse_5 : decode cX8_refuse 5 = .ok (.aload_n 0, 1) := by decide +kernel
theorem dX8_refuse_6 : decode cX8_refuse 6 = .ok (.getfield 43, 3) := by decide +kernel
theorem dX8_refuse_9 : decode cX8_refuse 9 = .ok (.arraylength, 1) := by decide +kernel
theorem dX8_refuse_10 : decode cX8_refuse 10 = .ok (.if_icmp .ge 18, 3) := by decide +kernel
theorem dX8_refuse_13 : decode cX8_refuse 13 = .ok (.aload_n 0, 1) := by decide +kernel
theorem dX8_refuse_14 : decode cX8_refuse 14 = .ok (.getfield 43, 3) := by decide +kernel
theorem dX8_refuse_17 : decode cX8_refuse 17 = .ok (.iload_n 1, 1) := by decide +kernel
theorem dX8_refuse_18 : decode cX8_refuse 18 = .ok (.dup2, 1) := by decide +kernel
theorem dX8_refuse_19 : decode cX8_refuse 19 = .ok (.iaload, 1) := by decide +kernel
theorem dX8_refuse_20 : decode cX8_refuse 20 = .ok (.iconst 1, 1) := by decide +kernel
theorem dX8_refuse_21 : decode cX8_refuse 21 = .ok (.iadd, 1) := by decide +kernel
theorem dX8_refuse_22 : decode cX8_refuse 22 = .ok (.iastore, 1) := by decide +kernel
theorem dX8_refuse_23 : decode cX8_refuse 23 = .ok (.aload_n 0, 1) := by decide +kernel
theorem dX8_refuse_24 : decode cX8_refuse 24 = .ok (.iload_n 1, 1) := by decide +kernel
theorem dX8_refuse_25 : decode cX8_refuse 25 = .ok (.putfield 47, 3) := by decide +kernel
theorem dX8_refuse_28 : decode cX8_refuse 28 = .ok (.bipush (-3), 2) := by decide +kernel
theorem dX8_refuse_30 : decode cX8_refuse 30 = .ok (.ireturn, 1) := by decide +kernel
theorem dX8_refusedMissing_0 : decode cX8_refusedMissing 0 = .ok (.aload_n 1, 1) := by decide +kernel
theorem dX8_refusedMissing_1 : decode cX8_refusedMissing 1 = .ok (.ifnonnull 5, 3) := by decide +kernel
theorem dX8_refusedMissing_4 : decode cX8_refusedMissing 4 = .ok (.iconst (-1), 1) := by decide +kernel
theorem dX8_refusedMissing_5 : decode cX8_refusedMissing 5 = .ok (.ireturn, 1) := by decide +kernel
theorem dX8_refusedMissing_6 : decode cX8_refusedMissing 6 = .ok (.aload_n 1, 1) := by decide +kernel
theorem dX8_refusedMissing_7 : decode cX8_refusedMissing 7 = .ok (.invokevirtual 94, 3) := by decide +kernel
theorem dX8_refusedMissing_10 : decode cX8_refusedMissing 10 = .ok (.ifCond .eq 11, 3) := by decide +kernel
theorem dX8_refusedMissing_13 : decode cX8_refusedMissing 13 = .ok (.aload_n 0, 1) := by decide +kernel
theorem dX8_refusedMissing_14 : decode cX8_refusedMissing 14 = .ok (.iconst 1, 1) := by decide +kernel
theorem dX8_refusedMissing_15 : decode cX8_refusedMissing 15 = .ok (.invokevirtual 91, 3) := by decide +kernel
theorem dX8_refusedMissing_18 : decode cX8_refusedMissing 18 = .ok (.goto 4, 3) := by decide +kernel
theorem dX8_refusedMissing_21 : decode cX8_refusedMissing 21 = .ok (.iconst 0, 1) := by decide +kernel
theorem dX8_refusedMissing_22 : decode cX8_refusedMissing 22 = .ok (.ireturn, 1) := by decide +kernel
theorem dX8_refusedAt_0 : decode cX8_refusedAt 0 = .ok (.aload_n 0, 1) := by decide +kernel
theorem dX8_refusedAt_1 : decode cX8_refusedAt 1 = .ok (.aload_n 1, 1) := by decide +kernel
theorem dX8_refusedAt_2 : decode cX8_refusedAt 2 = .ok (.invokevirtual 84, 3) := by decide +kernel
theorem dX8_refusedAt_5 : decode cX8_refusedAt 5 = .ok (.istore_n 3, 1) := by decide +kernel
theorem dX8_refusedAt_6 : decode cX8_refusedAt 6 = .ok (.aload_n 1, 1) := by decide +kernel
theorem dX8_refusedAt_7 : decode cX8_refusedAt 7 = .ok (.ifnull 7, 3) := by decide +kernel
theorem dX8_refusedAt_10 : decode cX8_refusedAt 10 = .ok (.iload_n 3, 1) := by decide +kernel
theorem dX8_refusedAt_11 : decode cX8_refusedAt 11 = .ok (.ifCond .eq 5, 3) := by decide +kernel
theorem dX8_refusedAt_14 : decode cX8_refusedAt 14 = .ok (.iload_n 3, 1) := by decide +kernel
theorem dX8_refusedAt_15 : decode cX8_refusedAt 15 = .ok (.ireturn, 1) := by decide +kernel
theorem dX8_refusedAt_16 : decode cX8_refusedAt 16 = .ok (.aload_n 1, 1) := by decide +kernel
theorem dX8_refusedAt_17 : decode cX8_refusedAt 17 = .ok (.iload_n 2, 1) := by decide +kernel
theorem dX8_refusedAt_18 : decode cX8_refusedAt 18 = .ok (.invokevirtual 330, 3) := by decide +kernel
theorem dX8_refusedAt_21 : decode cX8_refusedAt 21 = .ok (.ifCond .eq 7, 3) := by decide +kernel
theorem dX8_refusedAt_24 : decode cX8_refusedAt 24 = .ok (.iconst 0, 1) := by decide +kernel
theorem dX8_refusedAt_25 : decode cX8_refusedAt 25 = .ok (.goto 8, 3) := by decide +kernel
theorem dX8_refusedAt_28 : decode cX8_refusedAt 28 = .ok (.aload_n 0, 1) := by decide +kernel
theorem dX8_refusedAt_29 : decode cX8_refusedAt 29 = .ok (.iconst 2, 1) := by decide +kernel
theorem dX8_refusedAt_30 : decode cX8_refusedAt 30 = .ok (.invokevirtual 91, 3) := by decide +kernel
theorem dX8_refusedAt_33 : decode cX8_refusedAt 33 = .ok (.ireturn, 1) := by decide +kernel
theorem dX8_refusedLooks_0 : decode cX8_refusedLooks 0 = .ok (.aload_n 0, 1) := by decide +kernel
theorem dX8_refusedLooks_1 : decode cX8_refusedLooks 1 = .ok (.getfield 21, 3) := by decide +kernel
theorem dX8_refusedLooks_4 : decode cX8_refusedLooks 4 = .ok (.iload_n 1, 1) := by decide +kernel
theorem dX8_refusedLooks_5 : decode cX8_refusedLooks 5 = .ok (.invokevirtual 134, 3) := by decide +kernel
theorem dX8_refusedLooks_8 : decode cX8_refusedLooks 8 = .ok (.ifCond .eq 7, 3) := by decide +kernel
theorem dX8_refusedLooks_11 : decode cX8_refusedLooks 11 = .ok (.aload_n 2, 1) := by decide +kernel
theorem dX8_refusedLooks_12 : decode cX8_refusedLooks 12 = .ok (.ifnonnull 5, 3) := by decide +kernel
theorem dX8_refusedLooks_15 : decode cX8_refusedLooks 15 = .ok (.iconst (-1), 1) := by decide +kernel
theorem dX8_refusedLooks_16 : decode cX8_refusedLooks 16 = .ok (.ireturn, 1) := by decide +kernel
theorem dX8_refusedLooks_17 : decode cX8_refusedLooks 17 = .ok (.aload_n 2, 1) := by decide +kernel
theorem dX8_refusedLooks_18 : decode cX8_refusedLooks 18 = .ok (.invokevirtual 94, 3) := by decide +kernel
theorem dX8_refusedLooks_21 : decode cX8_refusedLooks 21 = .ok (.ifCond .eq 9, 3) := by decide +kernel
theorem dX8_refusedLooks_24 : decode cX8_refusedLooks 24 = .ok (.aload_n 0, 1) := by decide +kernel
theorem dX8_refusedLooks_25 : decode cX8_refusedLooks 25 = .ok (.iconst 1, 1) := by decide +kernel
theorem dX8_refusedLooks_26 : decode cX8_refusedLooks 26 = .ok (.invokevirtual 91, 3) := by decide +kernel
theorem dX8_refusedLooks_29 : decode cX8_refusedLooks 29 = .ok (.ireturn, 1) := by decide +kernel
theorem dX8_refusedLooks_30 : decode cX8_refusedLooks 30 = .ok (.aload_n 2, 1) := by decide +kernel
theorem dX8_refusedLooks_31 : decode cX8_refusedLooks 31 = .ok (.invokevirtual 106, 3) := by decide +kernel
theorem dX8_refusedLooks_34 : decode cX8_refusedLooks 34 = .ok (.iconst 2, 1) := by decide +kernel
theorem dX8_refusedLooks_35 : decode cX8_refusedLooks 35 = .ok (.irem, 1) := by decide +kernel
theorem dX8_refusedLooks_36 : decode cX8_refusedLooks 36 = .ok (.ifCond .eq 9, 3) := by decide +kernel
theorem dX8_refusedLooks_39 : decode cX8_refusedLooks 39 = .ok (.aload_n 0, 1) := by decide +kernel
theorem dX8_refusedLooks_40 : decode cX8_refusedLooks 40 = .ok (.iconst 5, 1) := by decide +kernel
theorem dX8_refusedLooks_41 : decode cX8_refusedLooks 41 = .ok (.invokevirtual 91, 3) := by decide +kernel
theorem dX8_refusedLooks_44 : decode cX8_refusedLooks 44 = .ok (.ireturn, 1) := by decide +kernel
theorem dX8_refusedLooks_45 : decode cX8_refusedLooks 45 = .ok (.aload_n 2, 1) := by decide +kernel
theorem dX8_refusedLooks_46 : decode cX8_refusedLooks 46 = .ok (.invokestatic 333, 3) := by decide +kernel
theorem dX8_refusedLooks_49 : decode cX8_refusedLooks 49 = .ok (.ifCond .eq 7, 3) := by decide +kernel
theorem dX8_refusedLooks_52 : decode cX8_refusedLooks 52 = .ok (.iconst 0, 1) := by decide +kernel
theorem dX8_refusedLooks_53 : decode cX8_refusedLooks 53 = .ok (.goto 8, 3) := by decide +kernel
theorem dX8_refusedLooks_56 : decode cX8_refusedLooks 56 = .ok (.aload_n 0, 1) := by decide +kernel
theorem dX8_refusedLooks_57 : decode cX8_refusedLooks 57 = .ok (.iconst 3, 1) := by decide +kernel
theorem dX8_refusedLooks_58 : decode cX8_refusedLooks 58 = .ok (.invokevirtual 91, 3) := by decide +kernel
theorem dX8_refusedLooks_61 : decode cX8_refusedLooks 61 = .ok (.ireturn, 1) := by decide +kernel
theorem dX8_makeAnew_0 : decode cX8_makeAnew 0 = .ok (.aload_n 1, 1) := by decide +kernel
theorem dX8_makeAnew_1 : decode cX8_makeAnew 1 = .ok (.ifnull 11, 3) := by decide +kernel
theorem dX8_makeAnew_4 : decode cX8_makeAnew 4 = .ok (.iload_n 2, 1) := by decide +kernel
theorem dX8_makeAnew_5 : decode cX8_makeAnew 5 = .ok (.aload_n 1, 1) := by decide +kernel
theorem dX8_makeAnew_6 : decode cX8_makeAnew 6 = .ok (.invokevirtual 336, 3) := by decide +kernel
theorem dX8_makeAnew_9 : decode cX8_makeAnew 9 = .ok (.if_icmp .le 5, 3) := by decide +kernel
theorem dX8_makeAnew_12 : decode cX8_makeAnew 12 = .ok (.iconst (-1), 1) := by decide +kernel
theorem dX8_makeAnew_13 : decode cX8_makeAnew 13 = .ok (.ireturn, 1) := by decide +kernel
theorem dX8_makeAnew_14 : decode cX8_makeAnew 14 = .ok (.iload_n 2, 1) := by decide +kernel
theorem dX8_makeAnew_15 : decode cX8_makeAnew 15 = .ok (.ifCond .ge 9, 3) := by decide +kernel
theorem dX8_makeAnew_18 : decode cX8_makeAnew 18 = .ok (.aload_n 0, 1) := by decide +kernel
theorem dX8_makeAnew_19 : decode cX8_makeAnew 19 = .ok (.iconst 5, 1) := by decide +kernel
theorem dX8_makeAnew_20 : decode cX8_makeAnew 20 = .ok (.invokevirtual 91, 3) := by decide +kernel
theorem dX8_makeAnew_23 : decode cX8_makeAnew 23 = .ok (.ireturn, 1) := by decide +kernel
theorem dX8_makeAnew_24 : decode cX8_makeAnew 24 = .ok (.aload_n 1, 1) := by decide +kernel
theorem dX8_makeAnew_25 : decode cX8_makeAnew 25 = .ok (.iload_n 2, 1) := by decide +kernel
theorem dX8_makeAnew_26 : decode cX8_makeAnew 26 = .ok (.iload_n 3, 1) := by decide +kernel
theorem dX8_makeAnew_27 : decode cX8_makeAnew 27 = .ok (.invokevirtual 339, 3) := by decide +kernel
theorem dX8_makeAnew_30 : decode cX8_makeAnew 30 = .ok (.iload_n 2, 1) := by decide +kernel
theorem dX8_makeAnew_31 : decode cX8_makeAnew 31 = .ok (.ireturn, 1) := by decide +kernel
theorem dX8_tellInLowestTerms_0 : decode cX8_tellInLowestTerms 0 = .ok (.lload_n 1, 1) := by decide +kernel
theorem dX8_tellInLowestTerms_1 : decode cX8_tellInLowestTerms 1 = .ok (.lload_n 3, 1) := by decide +kernel
theorem dX8_tellInLowestTerms_2 : decode cX8_tellInLowestTerms 2 = .ok (.invokestatic 342, 3) := by decide +kernel
theorem dX8_tellInLowestTerms_5 : decode cX8_tellInLowestTerms 5 = .ok (.lstore 5, 2) := by decide +kernel
theorem dX8_tellInLowestTerms_7 : decode cX8_tellInLowestTerms 7 = .ok (.lload 5, 2) := by decide +kernel
theorem dX8_tellInLowestTerms_9 : decode cX8_tellInLowestTerms 9 = .ok (.lconst 0, 1) := by decide +kernel
theorem dX8_tellInLowestTerms_10 : decode cX8_tellInLowestTerms 10 = .ok (.lcmp, 1) := by decide +kernel
theorem dX8_tellInLowestTerms_11 : decode cX8_tellInLowestTerms 11 = .ok (.ifCond .le 19, 3) := by decide +kernel
theorem dX8_tellInLowestTerms_14 : decode cX8_tellInLowestTerms 14 = .ok (.aload_n 0, 1) := by decide +kernel
theorem dX8_tellInLowestTerms_15 : decode cX8_tellInLowestTerms 15 = .ok (.lload_n 1, 1) := by decide +kernel
theorem dX8_tellInLowestTerms_16 : decode cX8_tellInLowestTerms 16 = .ok (.lload 5, 2) := by decide +kernel
theorem dX8_tellInLowestTerms_18 : decode cX8_tellInLowestTerms 18 = .ok (.ldiv, 1) := by decide +kernel
theorem dX8_tellInLowestTerms_19 : decode cX8_tellInLowestTerms 19 = .ok (.putfield 54, 3) := by decide +kernel
theorem dX8_tellInLowestTerms_22 : decode cX8_tellInLowestTerms 22 = .ok (.aload_n 0, 1) := by decide +kernel
theorem dX8_tellInLowestTerms_23 : decode cX8_tellInLowestTerms 23 = .ok (.lload_n 3, 1) := by decide +kernel
theorem dX8_tellInLowestTerms_24 : decode cX8_tellInLowestTerms 24 = .ok (.lload 5, 2) := by decide +kernel
theorem dX8_tellInLowestTerms_26 : decode cX8_tellInLowestTerms 26 = .ok (.ldiv, 1) := by decide +kernel
theorem dX8_tellInLowestTerms_27 : decode cX8_tellInLowestTerms 27 = .ok (.putfield 58, 3) := by decide +kernel
theorem dX8_tellInLowestTerms_30 : decode cX8_tellInLowestTerms 30 = .ok (.return_, 1) := by decide +kernel
theorem dX8_greatestDivisor_0 : decode cX8_greatestDivisor 0 = .ok (.lload_n 0, 1) := by decide +kernel
theorem dX8_greatestDivisor_1 : decode cX8_greatestDivisor 1 = .ok (.lstore 4, 2) := by decide +kernel
theorem dX8_greatestDivisor_3 : decode cX8_greatestDivisor 3 = .ok (.lload_n 2, 1) := by decide +kernel
theorem dX8_greatestDivisor_4 : decode cX8_greatestDivisor 4 = .ok (.lstore 6, 2) := by decide +kernel
theorem dX8_greatestDivisor_6 : decode cX8_greatestDivisor 6 = .ok (.iconst 0, 1) := by decide +kernel
theorem dX8_greatestDivisor_7 : decode cX8_greatestDivisor 7 = .ok (.istore 8, 2) := by decide +kernel
theorem dX8_greatestDivisor_9 : decode cX8_greatestDivisor 9 = .ok (.iload 8, 2) := by decide +kernel
theorem dX8_greatestDivisor_11 : decode cX8_greatestDivisor 11 = .ok (.sipush 200, 3) := by decide +kernel
theorem dX8_greatestDivisor_14 : decode cX8_greatestDivisor 14 = .ok (.if_icmp .ge 31, 3) := by decide +kernel
theorem dX8_greatestDivisor_17 : decode cX8_greatestDivisor 17 = .ok (.lload 6, 2) := by decide +kernel
theorem dX8_greatestDivisor_19 : decode cX8_greatestDivisor 19 = .ok (.lconst 0, 1) := by decide +kernel
theorem dX8_greatestDivisor_20 : decode cX8_greatestDivisor 20 = .ok (.lcmp, 1) := by decide +kernel
theorem dX8_greatestDivisor_21 : decode cX8_greatestDivisor 21 = .ok (.ifCond .eq 24, 3) := by decide +kernel
theorem dX8_greatestDivisor_24 : decode cX8_greatestDivisor 24 = .ok (.lload 4, 2) := by decide +kernel
theorem dX8_greatestDivisor_26 : decode cX8_greatestDivisor 26 = .ok (.lload 6, 2) := by decide +kernel
theorem dX8_greatestDivisor_28 : decode cX8_greatestDivisor 28 = .ok (.lrem, 1) := by decide +kernel
theorem dX8_greatestDivisor_29 : decode cX8_greatestDivisor 29 = .ok (.lstore 9, 2) := by decide +kernel
theorem dX8_greatestDivisor_31 : decode cX8_greatestDivisor 31 = .ok (.lload 6, 2) := by decide +kernel
theorem dX8_greatestDivisor_33 : decode cX8_greatestDivisor 33 = .ok (.lstore 4, 2) := by decide +kernel
theorem dX8_greatestDivisor_35 : decode cX8_greatestDivisor 35 = .ok (.lload 9, 2) := by decide +kernel
theorem dX8_greatestDivisor_37 : decode cX8_greatestDivisor 37 = .ok (.lstore 6, 2) := by decide +kernel
theorem dX8_greatestDivisor_39 : decode cX8_greatestDivisor 39 = .ok (.iinc 8 1, 3) := by decide +kernel
theorem dX8_greatestDivisor_42 : decode cX8_greatestDivisor 42 = .ok (.goto (-33), 3) := by decide +kernel
theorem dX8_greatestDivisor_45 : decode cX8_greatestDivisor 45 = .ok (.lload 4, 2) := by decide +kernel
theorem dX8_greatestDivisor_47 : decode cX8_greatestDivisor 47 = .ok (.lreturn, 1) := by decide +kernel
theorem dX8_howManyThere_0 : decode cX8_howManyThere 0 = .ok (.iconst 0, 1) := by decide +kernel
theorem dX8_howManyThere_1 : decode cX8_howManyThere 1 = .ok (.istore_n 1, 1) := by decide +kernel
theorem dX8_howManyThere_2 : decode cX8_howManyThere 2 = .ok (.aload_n 0, 1) := by decide +kernel
theorem dX8_howManyThere_3 : decode cX8_howManyThere 3 = .ok (.astore_n 2, 1) := by decide +kernel
theorem dX8_howManyThere_4 : decode cX8_howManyThere 4 = .ok (.aload_n 2, 1) := by decide +kernel
theorem dX8_howManyThere_5 : decode cX8_howManyThere 5 = .ok (.arraylength, 1) := by decide +kernel
theorem dX8_howManyThere_6 : decode cX8_howManyThere 6 = .ok (.istore_n 3, 1) := by decide +kernel
theorem dX8_howManyThere_7 : decode cX8_howManyThere 7 = .ok (.iconst 0, 1) := by decide +kernel
theorem dX8_howManyThere_8 : decode cX8_howManyThere 8 = .ok (.istore 4, 2) := by decide +kernel
theorem dX8_howManyThere_10 : decode cX8_howManyThere 10 = .ok (.iload 4, 2) := by decide +kernel
theorem dX8_howManyThere_12 : decode cX8_howManyThere 12 = .ok (.iload_n 3, 1) := by decide +kernel
theorem dX8_howManyThere_13 : decode cX8_howManyThere 13 = .ok (.if_icmp .ge 31, 3) := by decide +kernel
theorem dX8_howManyThere_16 : decode cX8_howManyThere 16 = .ok (.aload_n 2, 1) := by decide +kernel
theorem dX8_howManyThere_17 : decode cX8_howManyThere 17 = .ok (.iload 4, 2) := by decide +kernel
theorem dX8_howManyThere_19 : decode cX8_howManyThere 19 = .ok (.aaload, 1) := by decide +kernel
theorem dX8_howManyThere_20 : decode cX8_howManyThere 20 = .ok (.astore 5, 2) := by decide +kernel
theorem dX8_howManyThere_22 : decode cX8_howManyThere 22 = .ok (.aload 5, 2) := by decide +kernel
theorem dX8_howManyThere_24 : decode cX8_howManyThere 24 = .ok (.ifnull 14, 3) := by decide +kernel
theorem dX8_howManyThere_27 : decode cX8_howManyThere 27 = .ok (.aload 5, 2) := by decide +kernel
theorem dX8_howManyThere_29 : decode cX8_howManyThere 29 = .ok (.invokevirtual 94, 3) := by decide +kernel
theorem dX8_howManyThere_32 : decode cX8_howManyThere 32 = .ok (.ifCond .ne 6, 3) := by decide +kernel
theorem dX8_howManyThere_35 : decode cX8_howManyThere 35 = .ok (.iinc 1 1, 3) := by decide +kernel
theorem dX8_howManyThere_38 : decode cX8_howManyThere 38 = .ok (.iinc 4 1, 3) := by decide +kernel
theorem dX8_howManyThere_41 : decode cX8_howManyThere 41 = .ok (.goto (-31), 3) := by decide +kernel
theorem dX8_howManyThere_44 : decode cX8_howManyThere 44 = .ok (.iload_n 1, 1) := by decide +kernel
theorem dX8_howManyThere_45 : decode cX8_howManyThere 45 = .ok (.ireturn, 1) := by decide +kernel
theorem dX8_howManyKept_0 : decode cX8_howManyKept 0 = .ok (.iconst 0, 1) := by decide +kernel
theorem dX8_howManyKept_1 : decode cX8_howManyKept 1 = .ok (.istore_n 1, 1) := by decide +kernel
theorem dX8_howManyKept_2 : decode cX8_howManyKept 2 = .ok (.aload_n 0, 1) := by decide +kernel
theorem dX8_howManyKept_3 : decode cX8_howManyKept 3 = .ok (.getfield 25, 3) := by decide +kernel
theorem dX8_howManyKept_6 : decode cX8_howManyKept 6 = .ok (.astore_n 2, 1) := by decide +kernel
theorem dX8_howManyKept_7 : decode cX8_howManyKept 7 = .ok (.aload_n 2, 1) := by decide +kernel
theorem dX8_howManyKept_8 : decode cX8_howManyKept 8 = .ok (.arraylength, 1) := by decide +kernel
theorem dX8_howManyKept_9 : decode cX8_howManyKept 9 = .ok (.istore_n 3, 1) := by decide +kernel
theorem dX8_howManyKept_10 : decode cX8_howManyKept 10 = .ok (.iconst 0, 1) := by decide +kernel
theorem dX8_howManyKept_11 : decode cX8_howManyKept 11 = .ok (.istore 4, 2) := by decide +kernel
theorem dX8_howManyKept_13 : decode cX8_howManyKept 13 = .ok (.iload 4, 2) := by decide +kernel
theorem dX8_howManyKept_15 : decode cX8_howManyKept 15 = .ok (.iload_n 3, 1) := by decide +kernel
theorem dX8_howManyKept_16 : decode cX8_howManyKept 16 = .ok (.if_icmp .ge 31, 3) := by decide +kernel
theorem dX8_howManyKept_19 : decode cX8_howManyKept 19 = .ok (.aload_n 2, 1) := by decide +kernel
theorem dX8_howManyKept_20 : decode cX8_howManyKept 20 = .ok (.iload 4, 2) := by decide +kernel
theorem dX8_howManyKept_22 : decode cX8_howManyKept 22 = .ok (.aaload, 1) := by decide +kernel
theorem dX8_howManyKept_23 : decode cX8_howManyKept 23 = .ok (.astore 5, 2) := by decide +kernel
theorem dX8_howManyKept_25 : decode cX8_howManyKept 25 = .ok (.aload 5, 2) := by decide +kernel
theorem dX8_howManyKept_27 : decode cX8_howManyKept 27 = .ok (.ifnull 14, 3) := by decide +kernel
theorem dX8_howManyKept_30 : decode cX8_howManyKept 30 = .ok (.aload 5, 2) := by decide +kernel
theorem dX8_howManyKept_32 : decode cX8_howManyKept 32 = .ok (.invokevirtual 133, 3) := by decide +kernel
theorem dX8_howManyKept_35 : decode cX8_howManyKept 35 = .ok (.ifCond .le 6, 3) := by decide +kernel
theorem dX8_howManyKept_38 : decode cX8_howManyKept 38 = .ok (.iinc 1 1, 3) := by decide +kernel
theorem dX8_howManyKept_41 : decode cX8_howManyKept 41 = .ok (.iinc 4 1, 3) := by decide +kernel
theorem dX8_howManyKept_44 : decode cX8_howManyKept 44 = .ok (.goto (-31), 3) := by decide +kernel
theorem dX8_howManyKept_47 : decode cX8_howManyKept 47 = .ok (.iload_n 1, 1) := by decide +kernel
theorem dX8_howManyKept_48 : decode cX8_howManyKept 48 = .ok (.ireturn, 1) := by decide +kernel
theorem dX8_digestOf_0 : decode cX8_digestOf 0 = .ok (.lload_n 0, 1) := by decide +kernel
theorem dX8_digestOf_1 : decode cX8_digestOf 1 = .ok (.lstore_n 3, 1) := by decide +kernel
theorem dX8_digestOf_2 : decode cX8_digestOf 2 = .ok (.aload_n 2, 1) := by decide +kernel
theorem dX8_digestOf_3 : decode cX8_digestOf 3 = .ok (.astore 5, 2) := by decide +kernel
theorem dX8_digestOf_5 : decode cX8_digestOf 5 = .ok (.aload 5, 2) := by decide +kernel
theorem dX8_digestOf_7 : decode cX8_digestOf 7 = .ok (.arraylength, 1) := by decide +kernel
theorem dX8_digestOf_8 : decode cX8_digestOf 8 = .ok (.istore 6, 2) := by decide +kernel
theorem dX8_digestOf_10 : decode cX8_digestOf 10 = .ok (.iconst 0, 1) := by decide +kernel
theorem dX8_digestOf_11 : decode cX8_digestOf 11 = .ok (.istore 7, 2) := by decide +kernel
theorem dX8_digestOf_13 : decode cX8_digestOf 13 = .ok (.iload 7, 2) := by decide +kernel
theorem dX8_digestOf_15 : decode cX8_digestOf 15 = .ok (.iload 6, 2) := by decide +kernel
theorem dX8_digestOf_17 : decode cX8_digestOf 17 = .ok (.if_icmp .ge 68, 3) := by decide +kernel
theorem dX8_digestOf_20 : decode cX8_digestOf 20 = .ok (.aload 5, 2) := by decide +kernel
theorem dX8_digestOf_22 : decode cX8_digestOf 22 = .ok (.iload 7, 2) := by decide +kernel
theorem dX8_digestOf_24 : decode cX8_digestOf 24 = .ok (.aaload, 1) := by decide +kernel
theorem dX8_digestOf_25 : decode cX8_digestOf 25 = .ok (.astore 8, 2) := by decide +kernel
theorem dX8_digestOf_27 : decode cX8_digestOf 27 = .ok (.aload 8, 2) := by decide +kernel
theorem dX8_digestOf_29 : decode cX8_digestOf 29 = .ok (.ifnull 50, 3) := by decide +kernel
theorem dX8_digestOf_32 : decode cX8_digestOf 32 = .ok (.ldc2_w 321, 3) := by decide +kernel
theorem dX8_digestOf_35 : decode cX8_digestOf 35 = .ok (.lload_n 3, 1) := by decide +kernel
theorem dX8_digestOf_36 : decode cX8_digestOf 36 = .ok (.lmul, 1) := by decide +kernel
theorem dX8_digestOf_37 : decode cX8_digestOf 37 = .ok (.aload 8, 2) := by decide +kernel
theorem dX8_digestOf_39 : decode cX8_digestOf 39 = .ok (.invokevirtual 106, 3) := by decide +kernel
theorem dX8_digestOf_42 : decode cX8_digestOf 42 = .ok (.i2l, 1) := by decide +kernel
theorem dX8_digestOf_43 : decode cX8_digestOf 43 = .ok (.ladd, 1) := by decide +kernel
theorem dX8_digestOf_44 : decode cX8_digestOf 44 = .ok (.lstore_n 3, 1) := by decide +kernel
theorem dX8_digestOf_45 : decode cX8_digestOf 45 = .ok (.iconst 0, 1) := by decide +kernel
theorem dX8_digestOf_46 : decode cX8_digestOf 46 = .ok (.istore 9, 2) := by decide +kernel
theorem dX8_digestOf_48 : decode cX8_digestOf 48 = .ok (.iload 9, 2) := by decide +kernel
theorem dX8_digestOf_50 : decode cX8_digestOf 50 = .ok (.aload 8, 2) := by decide +kernel
theorem dX8_digestOf_52 : decode cX8_digestOf 52 = .ok (.invokevirtual 106, 3) := by decide +kernel
theorem dX8_digestOf_55 : decode cX8_digestOf 55 = .ok (.if_icmp .ge 24, 3) := by decide +kernel
theorem dX8_digestOf_58 : decode cX8_digestOf 58 = .ok (.ldc2_w 321, 3) := by decide +kernel
theorem dX8_digestOf_61 : decode cX8_digestOf 61 = .ok (.lload_n 3, 1) := by decide +kernel
theorem dX8_digestOf_62 : decode cX8_digestOf 62 = .ok (.lmul, 1) := by decide +kernel
theorem dX8_digestOf_63 : decode cX8_digestOf 63 = .ok (.aload 8, 2) := by decide +kernel
theorem dX8_digestOf_65 : decode cX8_digestOf 65 = .ok (.iload 9, 2) := by decide +kernel
theorem dX8_digestOf_67 : decode cX8_digestOf 67 = .ok (.invokevirtual 76, 3) := by decide +kernel
theorem dX8_digestOf_70 : decode cX8_digestOf 70 = .ok (.i2l, 1) := by decide +kernel
theorem dX8_digestOf_71 : decode cX8_digestOf 71 = .ok (.ladd, 1) := by decide +kernel
theorem dX8_digestOf_72 : decode cX8_digestOf 72 = .ok (.lstore_n 3, 1) := by decide +kernel
theorem dX8_digestOf_73 : decode cX8_digestOf 73 = .ok (.iinc 9 1, 3) := by decide +kernel
theorem dX8_digestOf_76 : decode cX8_digestOf 76 = .ok (.goto (-28), 3) := by decide +kernel
theorem dX8_digestOf_79 : decode cX8_digestOf 79 = .ok (.iinc 7 1, 3) := by decide +kernel
theorem dX8_digestOf_82 : decode cX8_digestOf 82 = .ok (.goto (-69), 3) := by decide +kernel
theorem dX8_digestOf_85 : decode cX8_digestOf 85 = .ok (.lload_n 3, 1) := by decide +kernel
theorem dX8_digestOf_86 : decode cX8_digestOf 86 = .ok (.lreturn, 1) := by decide +kernel
theorem dJ6_bitCount_0f7a4_0 : decode cJ6_bitCount_0f7a4 0 = .ok (.iload_n 0, 1) := by decide +kernel
theorem dJ6_bitCount_0f7a4_1 : decode cJ6_bitCount_0f7a4 1 = .ok (.iload_n 0, 1) := by decide +kernel
theorem dJ6_bitCount_0f7a4_2 : decode cJ6_bitCount_0f7a4 2 = .ok (.iconst 1, 1) := by decide +kernel
theorem dJ6_bitCount_0f7a4_3 : decode cJ6_bitCount_0f7a4 3 = .ok (.iushr, 1) := by decide +kernel
theorem dJ6_bitCount_0f7a4_4 : decode cJ6_bitCount_0f7a4 4 = .ok (.ldc_w 265, 3) := by decide +kernel
theorem dJ6_bitCount_0f7a4_7 : decode cJ6_bitCount_0f7a4 7 = .ok (.iand, 1) := by decide +kernel
theorem dJ6_bitCount_0f7a4_8 : decode cJ6_bitCount_0f7a4 8 = .ok (.isub, 1) := by decide +kernel
theorem dJ6_bitCount_0f7a4_9 : decode cJ6_bitCount_0f7a4 9 = .ok (.istore_n 0, 1) := by decide +kernel
theorem dJ6_bitCount_0f7a4_10 : decode cJ6_bitCount_0f7a4 10 = .ok (.iload_n 0, 1) := by decide +kernel
theorem dJ6_bitCount_0f7a4_11 : decode cJ6_bitCount_0f7a4 11 = .ok (.ldc_w 266, 3) := by decide +kernel
theorem dJ6_bitCount_0f7a4_14 : decode cJ6_bitCount_0f7a4 14 = .ok (.iand, 1) := by decide +kernel
theorem dJ6_bitCount_0f7a4_15 : decode cJ6_bitCount_0f7a4 15 = .ok (.iload_n 0, 1) := by decide +kernel
theorem dJ6_bitCount_0f7a4_16 : decode cJ6_bitCount_0f7a4 16 = .ok (.iconst 2, 1) := by decide +kernel
theorem dJ6_bitCount_0f7a4_17 : decode cJ6_bitCount_0f7a4 17 = .ok (.iushr, 1) := by decide +kernel
theorem dJ6_bitCount_0f7a4_18 : decode cJ6_bitCount_0f7a4 18 = .ok (.ldc_w 266, 3) := by decide +kernel
theorem dJ6_bitCount_0f7a4_21 : decode cJ6_bitCount_0f7a4 21 = .ok (.iand, 1) := by decide +kernel
theorem dJ6_bitCount_0f7a4_22 : decode cJ6_bitCount_0f7a4 22 = .ok (.iadd, 1) := by decide +kernel
theorem dJ6_bitCount_0f7a4_23 : decode cJ6_bitCount_0f7a4 23 = .ok (.istore_n 0, 1) := by decide +kernel
theorem dJ6_bitCount_0f7a4_24 : decode cJ6_bitCount_0f7a4 24 = .ok (.iload_n 0, 1) := by decide +kernel
theorem dJ6_bitCount_0f7a4_25 : decode cJ6_bitCount_0f7a4 25 = .ok (.iload_n 0, 1) := by decide +kernel
theorem dJ6_bitCount_0f7a4_26 : decode cJ6_bitCount_0f7a4 26 = .ok (.iconst 4, 1) := by decide +kernel
theorem dJ6_bitCount_0f7a4_27 : decode cJ6_bitCount_0f7a4 27 = .ok (.iushr, 1) := by decide +kernel
theorem dJ6_bitCount_0f7a4_28 : decode cJ6_bitCount_0f7a4 28 = .ok (.iadd, 1) := by decide +kernel
theorem dJ6_bitCount_0f7a4_29 : decode cJ6_bitCount_0f7a4 29 = .ok (.ldc_w 267, 3) := by decide +kernel
theorem dJ6_bitCount_0f7a4_32 : decode cJ6_bitCount_0f7a4 32 = .ok (.iand, 1) := by decide +kernel
theorem dJ6_bitCount_0f7a4_33 : decode cJ6_bitCount_0f7a4 33 = .ok (.istore_n 0, 1) := by decide +kernel
theorem dJ6_bitCount_0f7a4_34 : decode cJ6_bitCount_0f7a4 34 = .ok (.iload_n 0, 1) := by decide +kernel
theorem dJ6_bitCount_0f7a4_35 : decode cJ6_bitCount_0f7a4 35 = .ok (.iload_n 0, 1) := by decide +kernel
theorem dJ6_bitCount_0f7a4_36 : decode cJ6_bitCount_0f7a4 36 = .ok (.bipush 8, 2) := by decide +kernel
theorem dJ6_bitCount_0f7a4_38 : decode cJ6_bitCount_0f7a4 38 = .ok (.iushr, 1) := by decide +kernel
theorem dJ6_bitCount_0f7a4_39 : decode cJ6_bitCount_0f7a4 39 = .ok (.iadd, 1) := by decide +kernel
theorem dJ6_bitCount_0f7a4_40 : decode cJ6_bitCount_0f7a4 40 = .ok (.istore_n 0, 1) := by decide +kernel
theorem dJ6_bitCount_0f7a4_41 : decode cJ6_bitCount_0f7a4 41 = .ok (.iload_n 0, 1) := by decide +kernel
theorem dJ6_bitCount_0f7a4_42 : decode cJ6_bitCount_0f7a4 42 = .ok (.iload_n 0, 1) := by decide +kernel
theorem dJ6_bitCount_0f7a4_43 : decode cJ6_bitCount_0f7a4 43 = .ok (.bipush 16, 2) := by decide +kernel
theorem dJ6_bitCount_0f7a4_45 : decode cJ6_bitCount_0f7a4 45 = .ok (.iushr, 1) := by decide +kernel
theorem dJ6_bitCount_0f7a4_46 : decode cJ6_bitCount_0f7a4 46 = .ok (.iadd, 1) := by decide +kernel
theorem dJ6_bitCount_0f7a4_47 : decode cJ6_bitCount_0f7a4 47 = .ok (.istore_n 0, 1) := by decide +kernel
theorem dJ6_bitCount_0f7a4_48 : decode cJ6_bitCount_0f7a4 48 = .ok (.iload_n 0, 1) := by decide +kernel
theorem dJ6_bitCount_0f7a4_49 : decode cJ6_bitCount_0f7a4 49 = .ok (.bipush 63, 2) := by decide +kernel
theorem dJ6_bitCount_0f7a4_51 : decode cJ6_bitCount_0f7a4 51 = .ok (.iand, 1) := by decide +kernel
theorem dJ6_bitCount_0f7a4_52 : decode cJ6_bitCount_0f7a4 52 = .ok (.ireturn, 1) := by decide +kernel
theorem dJ9_abs_0f7a4_0 : decode cJ9_abs_0f7a4 0 = .ok (.iload_n 0, 1) := by decide +kernel
theorem dJ9_abs_0f7a4_1 : decode cJ9_abs_0f7a4 1 = .ok (.ifCond .ge 8, 3) := by decide +kernel
theorem dJ9_abs_0f7a4_4 : decode cJ9_abs_0f7a4 4 = .ok (.iload_n 0, 1) := by decide +kernel
theorem dJ9_abs_0f7a4_5 : decode cJ9_abs_0f7a4 5 = .ok (.ineg, 1) := by decide +kernel
theorem dJ9_abs_0f7a4_6 : decode cJ9_abs_0f7a4 6 = .ok (.goto 4, 3) := by decide +kernel
theorem dJ9_abs_0f7a4_9 : decode cJ9_abs_0f7a4 9 = .ok (.iload_n 0, 1) := by decide +kernel
theorem dJ9_abs_0f7a4_10 : decode cJ9_abs_0f7a4 10 = .ok (.ireturn, 1) := by decide +kernel
theorem dJ9_max_7cf53_0 : decode cJ9_max_7cf53 0 = .ok (.iload_n 0, 1) := by decide +kernel
theorem dJ9_max_7cf53_1 : decode cJ9_max_7cf53 1 = .ok (.iload_n 1, 1) := by decide +kernel
theorem dJ9_max_7cf53_2 : decode cJ9_max_7cf53 2 = .ok (.if_icmp .lt 7, 3) := by decide +kernel
theorem dJ9_max_7cf53_5 : decode cJ9_max_7cf53 5 = .ok (.iload_n 0, 1) := by decide +kernel
theorem dJ9_max_7cf53_6 : decode cJ9_max_7cf53 6 = .ok (.goto 4, 3) := by decide +kernel
theorem dJ9_max_7cf53_9 : decode cJ9_max_7cf53 9 = .ok (.iload_n 1, 1) := by decide +kernel
theorem dJ9_max_7cf53_10 : decode cJ9_max_7cf53 10 = .ok (.ireturn, 1) := by decide +kernel
theorem dJ9_min_7cf53_0 : decode cJ9_min_7cf53 0 = .ok (.iload_n 0, 1) := by decide +kernel
theorem dJ9_min_7cf53_1 : decode cJ9_min_7cf53 1 = .ok (.iload_n 1, 1) := by decide +kernel
theorem dJ9_min_7cf53_2 : decode cJ9_min_7cf53 2 = .ok (.if_icmp .gt 7, 3) := by decide +kernel
theorem dJ9_min_7cf53_5 : decode cJ9_min_7cf53 5 = .ok (.iload_n 0, 1) := by decide +kernel
theorem dJ9_min_7cf53_6 : decode cJ9_min_7cf53 6 = .ok (.goto 4, 3) := by decide +kernel
theorem dJ9_min_7cf53_9 : decode cJ9_min_7cf53 9 = .ok (.iload_n 1, 1) := by decide +kernel
theorem dJ9_min_7cf53_10 : decode cJ9_min_7cf53 10 = .ok (.ireturn, 1) := by decide +kernel
end
section
theorem dX9_init_0 : decode cX9_init 0 = .ok (.aload_n 0, 1) := by decide +kernel
theorem dX9_init_1 : decode cX9_init 1 = .ok (.invokespecial 1, 3) := by decide +kernel
theorem dX9_init_4 : decode cX9_init 4 = .ok (.aload_n 0, 1) := by decide +kernel
theorem dX9_init_5 : decode cX9_init 5 = .ok (.sipush 1776, 3) := by decide +kernel
theorem dX9_init_8 : decode cX9_init 8 = .ok (.newarray .int, 2) := by decide +kernel
theorem dX9_init_10 : decode cX9_init 10 = .ok (.putfield 7, 3) := by decide +kernel
theorem dX9_init_13 : decode cX9_init 13 = .ok (.aload_n 0, 1) := by decide +kernel
theorem dX9_init_14 : decode cX9_init 14 = .ok (.bipush 6, 2) := by decide +kernel
theorem dX9_init_16 : decode cX9_init 16 = .ok (.newarray .int, 2) := by decide +kernel
theorem dX9_init_18 : decode cX9_init 18 = .ok (.putfield 13, 3) := by decide +kernel
theorem dX9_init_21 : decode cX9_init 21 = .ok (.aload_n 0, 1) := by decide +kernel
theorem dX9_init_22 : decode cX9_init 22 = .ok (.sipush 240, 3) := by decide +kernel
theorem dX9_init_25 : decode cX9_init 25 = .ok (.newarray .int, 2) := by decide +kernel
theorem dX9_init_27 : decode cX9_init 27 = .ok (.putfield 16, 3) := by decide +kernel
theorem dX9_init_30 : decode cX9_init 30 = .ok (.aload_n 0, 1) := by decide +kernel
theorem dX9_init_31 : decode cX9_init 31 = .ok (.iconst 4, 1) := by decide +kernel
theorem dX9_init_32 : decode cX9_init 32 = .ok (.newarray .int, 2) := by decide +kernel
theorem dX9_init_34 : decode cX9_init 34 = .ok (.putfield 19, 3) := by decide +kernel
theorem dX9_init_37 : decode cX9_init 37 = .ok (.aload_n 0, 1) := by decide +kernel
theorem dX9_init_38 : decode cX9_init 38 = .ok (.sipush 240, 3) := by decide +kernel
theorem dX9_init_41 : decode cX9_init 41 = .ok (.newarray .int, 2) := by decide +kernel
theorem dX9_init_43 : decode cX9_init 43 = .ok (.putfield 22, 3) := by decide +kernel
theorem dX9_init_46 : decode cX9_init 46 = .ok (.aload_n 0, 1) := by decide +kernel
theorem dX9_init_47 : decode cX9_init 47 = .ok (.bipush 6, 2) := by decide +kernel
theorem dX9_init_49 : decode cX9_init 49 = .ok (.newarray .int, 2) := by decide +kernel
theorem dX9_init_51 : decode cX9_init 51 = .ok (.putfield 25, 3) := by decide +kernel
theorem dX9_init_54 : decode cX9_init 54 = .ok (.aload_n 0, 1) := by decide +kernel
theorem dX9_init_55 : decode cX9_init 55 = .ok (.lconst 1, 1) := by decide +kernel
theorem dX9_init_56 : decode cX9_init 56 = .ok (.putfield 28, 3) := by decide +kernel
theorem dX9_init_59 : decode cX9_init 59 = .ok (.aload_n 0, 1) := by decide +kernel
theorem dX9_init_60 : decode cX9_init 60 = .ok (.bipush 40, 2) := by decide +kernel
theorem dX9_init_62 : decode cX9_init 62 = .ok (.newarray .int, 2) := by decide +kernel
theorem dX9_init_64 : decode cX9_init 64 = .ok (.putfield 32, 3) := by decide +kernel
theorem dX9_init_67 : decode cX9_init 67 = .ok (.aload_n 0, 1) := by decide +kernel
theorem dX9_init_68 : decode cX9_init 68 = .ok (.bipush 40, 2) := by decide +kernel
theorem dX9_init_70 : decode cX9_init 70 = .ok (.newarray .int, 2) := by decide +kernel
theorem dX9_init_72 : decode cX9_init 72 = .ok (.putfield 35, 3) := by decide +kernel
theorem dX9_init_75 : decode cX9_init 75 = .ok (.aload_n 0, 1) := by decide +kernel
theorem dX9_init_76 : decode cX9_init 76 = .ok (.bipush 10, 2) := by decide +kernel
theorem dX9_init_78 : decode cX9_init 78 = .ok (.newarray .int, 2) := by decide +kernel
theorem dX9_init_80 : decode cX9_init 80 = .ok (.putfield 38, 3) := by decide +kernel
theorem dX9_init_83 : decode cX9_init 83 = .ok (.aload_n 0, 1) := by decide +kernel
theorem dX9_init_84 : decode cX9_init 84 = .ok (.bipush 6, 2) := by decide +kernel
theorem dX9_init_86 : decode cX9_init 86 = .ok (.newarray .int, 2) := by decide +kernel
theorem dX9_init_88 : decode cX9_init 88 = .ok (.putfield 41, 3) := by decide +kernel
theorem dX9_init_91 : decode cX9_init 91 = .ok (.aload_n 0, 1) := by decide +kernel
theorem dX9_init_92 : decode cX9_init 92 = .ok (.iconst 5, 1) := by decide +kernel
theorem dX9_init_93 : decode cX9_init 93 = .ok (.newarray .int, 2) := by decide +kernel
theorem dX9_init_95 : decode cX9_init 95 = .ok (.putfield 44, 3) := by decide +kernel
theorem dX9_init_98 : decode cX9_init 98 = .ok (.aload_n 0, 1) := by decide +kernel
theorem dX9_init_99 : decode cX9_init 99 = .ok (.iconst 5, 1) := by decide +kernel
theorem dX9_init_100 : decode cX9_init 100 = .ok (.newarray .int, 2) := by decide +kernel
theorem dX9_init_102 : decode cX9_init 102 = .ok (.putfield 47, 3) := by decide +kernel
theorem dX9_init_105 : decode cX9_init 105 = .ok (.aload_n 0, 1) := by decide +kernel
theorem dX9_init_106 : decode cX9_init 106 = .ok (.iconst 5, 1) := by decide +kernel
theorem dX9_init_107 : decode cX9_init 107 = .ok (.newarray .int, 2) := by decide +kernel
theorem dX9_init_109 : decode cX9_init 109 = .ok (.putfield 50, 3) := by decide +kernel
theorem dX9_init_112 : decode cX9_init 112 = .ok (.iconst 0, 1) := by decide +kernel
theorem dX9_init_113 : decode cX9_init 113 = .ok (.istore_n 1, 1) := by decide +kernel
theorem dX9_init_114 : decode cX9_init 114 = .ok (.iload_n 1, 1) := by decide +kernel
theorem dX9_init_115 : decode cX9_init 115 = .ok (.bipush 6, 2) := by decide +kernel
theorem dX9_init_117 : decode cX9_init 117 = .ok (.if_icmp .ge 16, 3) := by decide +kernel
theorem dX9_init_120 : decode cX9_init 120 = .ok (.aload_n 0, 1) := by decide +kernel
theorem dX9_init_121 : decode cX9_init 121 = .ok (.getfield 13, 3) := by decide +kernel
theorem dX9_init_124 : decode cX9_init 124 = .ok (.iload_n 1, 1) := by decide +kernel
theorem dX9_init_125 : decode cX9_init 125 = .ok (.iconst (-1), 1) := by decide +kernel
theorem dX9_init_126 : decode cX9_init 126 = .ok (.iastore, 1) := by decide +kernel
theorem dX9_init_127 : decode cX9_init 127 = .ok (.iinc 1 1, 3) := by decide +kernel
theorem dX9_init_130 : decode cX9_init 130 = .ok (.goto (-16), 3) := by decide +kernel
theorem dX9_init_133 : decode cX9_init 133 = .ok (.iconst 0, 1) := by decide +kernel
theorem dX9_init_134 : decode cX9_init 134 = .ok (.istore_n 1, 1) := by decide +kernel
theorem dX9_init_135 : decode cX9_init 135 = .ok (.iload_n 1, 1) := by decide +kernel
theorem dX9_init_136 : decode cX9_init 136 = .ok (.iconst 4, 1) := by decide +kernel
theorem dX9_init_137 : decode cX9_init 137 = .ok (.if_icmp .ge 16, 3) := by decide +kernel
theorem dX9_init_140 : decode cX9_init 140 = .ok (.aload_n 0, 1) := by decide +kernel
theorem dX9_init_141 : decode cX9_init 141 = .ok (.getfield 19, 3) := by decide +kernel
theorem dX9_init_144 : decode cX9_init 144 = .ok (.iload_n 1, 1) := by decide +kernel
theorem dX9_init_145 : decode cX9_init 145 = .ok (.iconst (-1), 1) := by decide +kernel
theorem dX9_init_146 : decode cX9_init 146 = .ok (.iastore, 1) := by decide +kernel
theorem dX9_init_147 : decode cX9_init 147 = .ok (.iinc 1 1, 3) := by decide +kernel
theorem dX9_init_150 : decode cX9_init 150 = .ok (.goto (-15), 3) := by decide +kernel
theorem dX9_init_153 : decode cX9_init 153 = .ok (.return_, 1) := by decide +kernel
theorem dX9_in_0 : decode cX9_in 0 = .ok (.lload_n 0, 1) := by decide +kernel
theorem dX9_in_1 : decode cX9_in 1 = .ok (.lload_n 2, 1) := by decide +kernel
theorem dX9_in_2 : decode cX9_in 2 = .ok (.lcmp, 1) := by decide +kernel
theorem dX9_in_3 : decode cX9_in 3 = .ok (.ifCond .lt 14, 3) := by decide +kernel
theorem dX9_in_6 : decode cX9_in 6 = .ok (.lload_n 0, 1) := by decide +kernel
theorem dX9_in_7 : decode cX9_in 7 = .ok (.lload 4, 2) := by decide +kernel
theorem dX9_in_9 : decode cX9_in 9 = .ok (.lcmp, 1) := by decide +kernel
theorem dX9_in_10 : decode cX9_in 10 = .ok (.ifCond .gt 7, 3) := by decide +kernel
theorem dX9_in_13 : decode cX9_in 13 = .ok (.iconst 1, 1) := by decide +kernel
theorem dX9_in_14 : decode cX9_in 14 = .ok (.goto 4, 3) := by decide +kernel
theorem dX9_in_17 : decode cX9_in 17 = .ok (.iconst 0, 1) := by decide +kernel
theorem dX9_in_18 : decode cX9_in 18 = .ok (.ireturn, 1) := by decide +kernel
theorem dX9_has_0 : decode cX9_has 0 = .ok (.iload_n 0, 1) := by decide +kernel
theorem dX9_has_1 : decode cX9_has 1 = .ok (.iload_n 1, 1) := by decide +kernel
theorem dX9_has_2 : decode cX9_has 2 = .ok (.ishr, 1) := by decide +kernel
theorem dX9_has_3 : decode cX9_has 3 = .ok (.iconst 1, 1) := by decide +kernel
theorem dX9_has_4 : decode cX9_has 4 = .ok (.iand, 1) := by decide +kernel
theorem dX9_has_5 : decode cX9_has 5 = .ok (.iconst 1, 1) := by decide +kernel
theorem dX9_has_6 : decode cX9_has 6 = .ok (.if_icmp .ne 7, 3) := by decide +kernel
theorem dX9_has_9 : decode cX9_has 9 = .ok (.iconst 1, 1) := by decide +kernel
theorem dX9_has_10 : decode cX9_has 10 = .ok (.goto 4, 3) := by decide +kernel
theorem dX9_has_13 : decode cX9_has 13 = .ok (.iconst 0, 1) := by decide +kernel
theorem dX9_has_14 : decode cX9_has 14 = .ok (.ireturn, 1) := by decide +kernel
theorem dX9_ones_0 : decode cX9_ones 0 = .ok (.iconst 0, 1) := by decide +kernel
theorem dX9_ones_1 : decode cX9_ones 1 = .ok (.istore_n 1, 1) := by decide +kernel
theorem dX9_ones_2 : decode cX9_ones 2 = .ok (.iconst 0, 1) := by decide +kernel
theorem dX9_ones_3 : decode cX9_ones 3 = .ok (.istore_n 2, 1) := by decide +kernel
theorem dX9_ones_4 : decode cX9_ones 4 = .ok (.iload_n 2, 1) := by decide +kernel
theorem dX9_ones_5 : decode cX9_ones 5 = .ok (.bipush 8, 2) := by decide +kernel
theorem dX9_ones_7 : decode cX9_ones 7 = .ok (.if_icmp .ge 17, 3) := by decide +kernel
theorem dX9_ones_10 : decode cX9_ones 10 = .ok (.iload_n 1, 1) := by decide +kernel
theorem dX9_ones_11 : decode cX9_ones 11 = .ok (.iload_n 0, 1) := by decide +kernel
theorem dX9_ones_12 : decode cX9_ones 12 = .ok (.iload_n 2, 1) := by decide +kernel
theorem dX9_ones_13 : decode cX9_ones 13 = .ok (.ishr, 1) := by decide +kernel
theorem dX9_ones_14 : decode cX9_ones 14 = .ok (.iconst 1, 1) := by decide +kernel
theorem dX9_ones_15 : decode cX9_ones 15 = .ok (.iand, 1) := by decide +kernel
theorem dX9_ones_16 : decode cX9_ones 16 = .ok (.iadd, 1) := by decide +kernel
theorem dX9_ones_17 : decode cX9_ones 17 = .ok (.istore_n 1, 1) := by decide +kernel
theorem dX9_ones_18 : decode cX9_ones 18 = .ok (.iinc 2 1, 3) := by decide +kernel
theorem dX9_ones_21 : decode cX9_ones 21 = .ok (.goto (-17), 3) := by decide +kernel
theorem dX9_ones_24 : decode cX9_ones 24 = .ok (.iload_n 1, 1) := by decide +kernel
theorem dX9_ones_25 : decode cX9_ones 25 = .ok (.ireturn, 1) := by decide +kernel
theorem dX9_finds_0 : decode cX9_finds 0 = .ok (.aload_n 0, 1) := by decide +kernel
theorem dX9_finds_1 : decode cX9_finds 1 = .ok (.iload_n 1, 1) := by decide +kernel
theorem dX9_finds_2 : decode cX9_finds 2 = .ok (.putfield 53, 3) := by decide +kernel
theorem dX9_finds_5 : decode cX9_finds 5 = .ok (.aload_n 0, 1) := by decide +kernel
theorem dX9_finds_6 : decode cX9_finds 6 = .ok (.getfield 25, 3) := by decide +kernel
theorem dX9_finds_9 : decode cX9_finds 9 = .ok (.iload_n 1, 1) := by decide +kernel
theorem dX9_finds_10 : decode cX9_finds 10 = .ok (.dup2, 1) := by decide +kernel
theorem dX9_finds_11 : decode cX9_finds 11 = .ok (.iaload, 1) := by decide +kernel
theorem dX9_finds_12 : decode cX9_finds 12 = .ok (.iconst 1, 1) := by decide +kernel
theorem dX9_finds_13 : decode cX9_finds 13 = .ok (.iadd, 1) := by decide +kernel
theorem dX9_finds_14 : decode cX9_finds 14 = .ok (.iastore, 1) := by decide +kernel
theorem dX9_finds_15 : decode cX9_finds 15 = .ok (.bipush (-3), 2) := by decide +kernel
theorem dX9_finds_17 : decode cX9_finds 17 = .ok (.ireturn, 1) := by decide +kernel
theorem dX9_tells_0 : decode cX9_tells 0 = .ok (.aload_n 0, 1) := by decide +kernel
theorem dX9_tells_1 : decode cX9_tells 1 = .ok (.iload_n 1, 1) := by decide +kernel
theorem dX9_tells_2 : decode cX9_tells 2 = .ok (.putfield 57, 3) := by decide +kernel
theorem dX9_tells_5 : decode cX9_tells 5 = .ok (.iconst 1, 1) := by decide +kernel
theorem dX9_tells_6 : decode cX9_tells 6 = .ok (.ireturn, 1) := by decide +kernel
theorem dX9_bring_0 : decode cX9_bring 0 = .ok (.iconst 0, 1) := by decide +kernel
theorem dX9_bring_1 : decode cX9_bring 1 = .ok (.istore_n 3, 1) := by decide +kernel
theorem dX9_bring_2 : decode cX9_bring 2 = .ok (.iload_n 3, 1) := by decide +kernel
theorem dX9_bring_3 : decode cX9_bring 3 = .ok (.sipush 444, 3) := by decide +kernel
theorem dX9_bring_6 : decode cX9_bring 6 = .ok (.if_icmp .ge 25, 3) := by decide +kernel
theorem dX9_bring_9 : decode cX9_bring 9 = .ok (.aload_n 0, 1) := by decide +kernel
theorem dX9_bring_10 : decode cX9_bring 10 = .ok (.getfield 7, 3) := by decide +kernel
theorem dX9_bring_13 : decode cX9_bring 13 = .ok (.iload_n 2, 1) := by decide +kernel
theorem dX9_bring_14 : decode cX9_bring 14 = .ok (.iload_n 3, 1) := by decide +kernel
theorem dX9_bring_15 : decode cX9_bring 15 = .ok (.iadd, 1) := by decide +kernel
theorem dX9_bring_16 : decode cX9_bring 16 = .ok (.aload_n 0, 1) := by decide +kernel
theorem dX9_bring_17 : decode cX9_bring 17 = .ok (.getfield 7, 3) := by decide +kernel
theorem dX9_bring_20 : decode cX9_bring 20 = .ok (.iload_n 1, 1) := by decide +kernel
theorem dX9_bring_21 : decode cX9_bring 21 = .ok (.iload_n 3, 1) := by decide +kernel
theorem dX9_bring_22 : decode cX9_bring 22 = .ok (.iadd, 1) := by decide +kernel
theorem dX9_bring_23 : decode cX9_bring 23 = .ok (.iaload, 1) := by decide +kernel
theorem dX9_bring_24 : decode cX9_bring 24 = .ok (.iastore, 1) := by decide +kernel
theorem dX9_bring_25 : decode cX9_bring 25 = .ok (.iinc 3 1, 3) := by decide +kernel
theorem dX9_bring_28 : decode cX9_bring 28 = .ok (.goto (-26), 3) := by decide +kernel
theorem dX9_bring_31 : decode cX9_bring 31 = .ok (.return_, 1) := by decide +kernel
theorem dX9_isRow_0 : decode cX9_isRow 0 = .ok (.iload_n 0, 1) := by decide +kernel
theorem dX9_isRow_1 : decode cX9_isRow 1 = .ok (.i2l, 1) := by decide +kernel
theorem dX9_isRow_2 : decode cX9_isRow 2 = .ok (.lconst 0, 1) := by decide +kernel
theorem dX9_isRow_3 : decode cX9_isRow 3 = .ok (.ldc2_w 60, 3) := by decide +kernel
theorem dX9_isRow_6 : decode cX9_isRow 6 = .ok (.invokestatic 62, 3) := by decide +kernel
theorem dX9_isRow_9 : decode cX9_isRow 9 = .ok (.ireturn, 1) := by decide +kernel
theorem dX9_isText_0 : decode cX9_isText 0 = .ok (.iload_n 0, 1) := by decide +kernel
theorem dX9_isText_1 : decode cX9_isText 1 = .ok (.i2l, 1) := by decide +kernel
theorem dX9_isText_2 : decode cX9_isText 2 = .ok (.lconst 0, 1) := by decide +kernel
theorem dX9_isText_3 : decode cX9_isText 3 = .ok (.ldc2_w 66, 3) := by decide +kernel
theorem dX9_isText_6 : decode cX9_isText 6 = .ok (.invokestatic 62, 3) := by decide +kernel
theorem dX9_isText_9 : decode cX9_isText 9 = .ok (.ireturn, 1) := by decide +kernel
theorem dX9_isLight_0 : decode cX9_isLight 0 = .ok (.iload_n 1, 1) := by decide +kernel
theorem dX9_isLight_1 : decode cX9_isLight 1 = .ok (.i2l, 1) := by decide +kernel
theorem dX9_isLight_2 : decode cX9_isLight 2 = .ok (.lconst 0, 1) := by decide +kernel
theorem dX9_isLight_3 : decode cX9_isLight 3 = .ok (.aload_n 0, 1) := by decide +kernel
theorem dX9_isLight_4 : decode cX9_isLight 4 = .ok (.getfield 7, 3) := by decide +kernel
theorem dX9_isLight_7 : decode cX9_isLight 7 = .ok (.iconst 0, 1) := by decide +kernel
theorem dX9_isLight_8 : decode cX9_isLight 8 = .ok (.iaload, 1) := by decide +kernel
theorem dX9_isLight_9 : decode cX9_isLight 9 = .ok (.iconst 1, 1) := by decide +kernel
theorem dX9_isLight_10 : decode cX9_isLight 10 = .ok (.isub, 1) := by decide +kernel
theorem dX9_isLight_11 : decode cX9_isLight 11 = .ok (.i2l, 1) := by decide +kernel
theorem dX9_isLight_12 : decode cX9_isLight 12 = .ok (.invokestatic 62, 3) := by decide +kernel
theorem dX9_isLight_15 : decode cX9_isLight 15 = .ok (.ireturn, 1) := by decide +kernel
theorem dX9_isPlace_0 : decode cX9_isPlace 0 = .ok (.iload_n 0, 1) := by decide +kernel
theorem dX9_isPlace_1 : decode cX9_isPlace 1 = .ok (.i2l, 1) := by decide +kernel
theorem dX9_isPlace_2 : decode cX9_isPlace 2 = .ok (.lconst 0, 1) := by decide +kernel
theorem dX9_isPlace_3 : decode cX9_isPlace 3 = .ok (.ldc2_w 68, 3) := by decide +kernel
theorem dX9_isPlace_6 : decode cX9_isPlace 6 = .ok (.invokestatic 62, 3) := by decide +kernel
theorem dX9_isPlace_9 : decode cX9_isPlace 9 = .ok (.ireturn, 1) := by decide +kernel
theorem dX9_row_0 : decode cX9_row 0 = .ok (.iload_n 1, 1) := by decide +kernel
theorem dX9_row_1 : decode cX9_row 1 = .ok (.invokestatic 70, 3) := by decide +kernel
theorem dX9_row_4 : decode cX9_row 4 = .ok (.ifCond .eq 9, 3) := by decide +kernel
theorem dX9_row_7 : decode cX9_row 7 = .ok (.iload_n 2, 1) := by decide +kernel
theorem dX9_row_8 : decode cX9_row 8 = .ok (.bipush 40, 2) := by decide +kernel
theorem dX9_row_10 : decode cX9_row 10 = .ok (.if_icmp .le 5, 3) := by decide +kernel
theorem dX9_row_13 : decode cX9_row 13 = .ok (.iconst (-1), 1) := by decide +kernel
theorem dX9_row_14 : decode cX9_row 14 = .ok (.ireturn, 1) := by decide +kernel
theorem dX9_row_15 : decode cX9_row 15 = .ok (.iload_n 2, 1) := by decide +kernel
theorem dX9_row_16 : decode cX9_row 16 = .ok (.ifCond .ge 9, 3) := by decide +kernel
theorem dX9_row_19 : decode cX9_row 19 = .ok (.aload_n 0, 1) := by decide +kernel
theorem dX9_row_20 : decode cX9_row 20 = .ok (.iconst 5, 1) := by decide +kernel
theorem dX9_row_21 : decode cX9_row 21 = .ok (.invokevirtual 74, 3) := by decide +kernel
theorem dX9_row_24 : decode cX9_row 24 = .ok (.ireturn, 1) := by decide +kernel
theorem dX9_row_25 : decode cX9_row 25 = .ok (.aload_n 0, 1) := by decide +kernel
theorem dX9_row_26 : decode cX9_row 26 = .ok (.getfield 13, 3) := by decide +kernel
theorem dX9_row_29 : decode cX9_row 29 = .ok (.iload_n 1, 1) := by decide +kernel
theorem dX9_row_30 : decode cX9_row 30 = .ok (.iload_n 2, 1) := by decide +kernel
theorem dX9_row_31 : decode cX9_row 31 = .ok (.iastore, 1) := by decide +kernel
theorem dX9_row_32 : decode cX9_row 32 = .ok (.iconst 0, 1) := by decide +kernel
theorem dX9_row_33 : decode cX9_row 33 = .ok (.istore_n 3, 1) := by decide +kernel
theorem dX9_row_34 : decode cX9_row 34 = .ok (.iload_n 3, 1) := by decide +kernel
theorem dX9_row_35 : decode cX9_row 35 = .ok (.bipush 40, 2) := by decide +kernel
theorem dX9_row_37 : decode cX9_row 37 = .ok (.if_icmp .ge 21, 3) := by decide +kernel
theorem dX9_row_40 : decode cX9_row 40 = .ok (.aload_n 0, 1) := by decide +kernel
theorem dX9_row_41 : decode cX9_row 41 = .ok (.getfield 16, 3) := by decide +kernel
theorem dX9_row_44 : decode cX9_row 44 = .ok (.bipush 40, 2) := by decide +kernel
theorem dX9_row_46 : decode cX9_row 46 = .ok (.iload_n 1, 1) := by decide +kernel
theorem dX9_row_47 : decode cX9_row 47 = .ok (.imul, 1) := by decide +kernel
theorem dX9_row_48 : decode cX9_row 48 = .ok (.iload_n 3, 1) := by decide +kernel
theorem dX9_row_49 : decode cX9_row 49 = .ok (.iadd, 1) := by decide +kernel
theorem dX9_row_50 : decode cX9_row 50 = .ok (.iconst 0, 1) := by decide +kernel
theorem dX9_row_51 : decode cX9_row 51 = .ok (.iastore, 1) := by decide +kernel
theorem dX9_row_52 : decode cX9_row 52 = .ok (.iinc 3 1, 3) := by decide +kernel
theorem dX9_row_55 : decode cX9_row 55 = .ok (.goto (-21), 3) := by decide +kernel
theorem dX9_row_58 : decode cX9_row 58 = .ok (.iload_n 2, 1) := by decide +kernel
theorem dX9_row_59 : decode cX9_row 59 = .ok (.ireturn, 1) := by decide +kernel
theorem dX9_lay_0 : decode cX9_lay 0 = .ok (.iload_n 1, 1) := by decide +kernel
theorem dX9_lay_1 : decode cX9_lay 1 = .ok (.invokestatic 70, 3) := by decide +kernel
theorem dX9_lay_4 : decode cX9_lay 4 = .ok (.ifCond .ne 5, 3) := by decide +kernel
theorem dX9_lay_7 : decode cX9_lay 7 = .ok (.iconst (-1), 1) := by decide +kernel
theorem dX9_lay_8 : decode cX9_lay 8 = .ok (.ireturn, 1) := by decide +kernel
theorem dX9_lay_9 : decode cX9_lay 9 = .ok (.aload_n 0, 1) := by decide +kernel
theorem dX9_lay_10 : decode cX9_lay 10 = .ok (.getfield 13, 3) := by decide +kernel
theorem dX9_lay_13 : decode cX9_lay 13 = .ok (.iload_n 1, 1) := by decide +kernel
theorem dX9_lay_14 : decode cX9_lay 14 = .ok (.iaload, 1) := by decide +kernel
theorem dX9_lay_15 : decode cX9_lay 15 = .ok (.ifCond .ge 9, 3) := by decide +kernel
theorem dX9_lay_18 : decode cX9_lay 18 = .ok (.aload_n 0, 1) := by decide +kernel
theorem dX9_lay_19 : decode cX9_lay 19 = .ok (.iconst 1, 1) := by decide +kernel
theorem dX9_lay_20 : decode cX9_lay 20 = .ok (.invokevirtual 74, 3) := by decide +kernel
theorem dX9_lay_23 : decode cX9_lay 23 = .ok (.ireturn, 1) := by decide +kernel
theorem dX9_lay_24 : decode cX9_lay 24 = .ok (.iload_n 2, 1) := by decide +kernel
theorem dX9_lay_25 : decode cX9_lay 25 = .ok (.i2l, 1) := by decide +kernel
theorem dX9_lay_26 : decode cX9_lay 26 = .ok (.lconst 0, 1) := by decide +kernel
theorem dX9_lay_27 : decode cX9_lay 27 = .ok (.aload_n 0, 1) := by decide +kernel
theorem dX9_lay_28 : decode cX9_lay 28 = .ok (.getfield 13, 3) := by decide +kernel
theorem dX9_lay_31 : decode cX9_lay 31 = .ok (.iload_n 1, 1) := by decide +kernel
theorem dX9_lay_32 : decode cX9_lay 32 = .ok (.iaload, 1) := by decide +kernel
theorem dX9_lay_33 : decode cX9_lay 33 = .ok (.iconst 1, 1) := by decide +kernel
theorem dX9_lay_34 : decode cX9_lay 34 = .ok (.isub, 1) := by decide +kernel
theorem dX9_lay_35 : decode cX9_lay 35 = .ok (.i2l, 1) := by decide +kernel
theorem dX9_lay_36 : decode cX9_lay 36 = .ok (.invokestatic 62, 3) := by decide +kernel
theorem dX9_lay_39 : decode cX9_lay 39 = .ok (.ifCond .ne 9, 3) := by decide +kernel
theorem dX9_lay_42 : decode cX9_lay 42 = .ok (.aload_n 0, 1) := by decide +kernel
theorem dX9_lay_43 : decode cX9_lay 43 = .ok (.iconst 2, 1) := by decide +kernel
theorem dX9_lay_44 : decode cX9_lay 44 = .ok (.invokevirtual 74, 3) := by decide +kernel
theorem dX9_lay_47 : decode cX9_lay 47 = .ok (.ireturn, 1) := by decide +kernel
theorem dX9_lay_48 : decode cX9_lay 48 = .ok (.aload_n 0, 1) := by decide +kernel
theorem dX9_lay_49 : decode cX9_lay 49 = .ok (.getfield 16, 3) := by decide +kernel
theorem dX9_lay_52 : decode cX9_lay 52 = .ok (.bipush 40, 2) := by decide +kernel
theorem dX9_lay_54 : decode cX9_lay 54 = .ok (.iload_n 1, 1) := by decide +kernel
theorem dX9_lay_55 : decode cX9_lay 55 = .ok (.imul, 1) := by decide +kernel
theorem dX9_lay_56 : decode cX9_lay 56 = .ok (.iload_n 2, 1) := by decide +kernel
theorem dX9_lay_57 : decode cX9_lay 57 = .ok (.iadd, 1) := by decide +kernel
theorem dX9_lay_58 : decode cX9_lay 58 = .ok (.iaload, 1) := by decide +kernel
theorem dX9_lay_59 : decode cX9_lay 59 = .ok (.istore 4, 2) := by decide +kernel
theorem dX9_lay_61 : decode cX9_lay 61 = .ok (.aload_n 0, 1) := by decide +kernel
theorem dX9_lay_62 : decode cX9_lay 62 = .ok (.getfield 16, 3) := by decide +kernel
theorem dX9_lay_65 : decode cX9_lay 65 = .ok (.bipush 40, 2) := by decide +kernel
theorem dX9_lay_67 : decode cX9_lay 67 = .ok (.iload_n 1, 1) := by decide +kernel
theorem dX9_lay_68 : decode cX9_lay 68 = .ok (.imul, 1) := by decide +kernel
theorem dX9_lay_69 : decode cX9_lay 69 = .ok (.iload_n 2, 1) := by decide +kernel
theorem dX9_lay_70 : decode cX9_lay 70 = .ok (.iadd, 1) := by decide +kernel
theorem dX9_lay_71 : decode cX9_lay 71 = .ok (.iload_n 3, 1) := by decide +kernel
theorem dX9_lay_72 : decode cX9_lay 72 = .ok (.iastore, 1) := by decide +kernel
theorem dX9_lay_73 : decode cX9_lay 73 = .ok (.aload_n 0, 1) := by decide +kernel
theorem dX9_lay_74 : decode cX9_lay 74 = .ok (.iload 4, 2) := by decide +kernel
theorem dX9_lay_76 : decode cX9_lay 76 = .ok (.invokevirtual 77, 3) := by decide +kernel
theorem dX9_lay_79 : decode cX9_lay 79 = .ok (.ireturn, 1) := by decide +kernel
theorem dX9_at_0 : decode cX9_at 0 = .ok (.iload_n 1, 1) := by decide +kernel
theorem dX9_at_1 : decode cX9_at 1 = .ok (.invokestatic 70, 3) := by decide +kernel
theorem dX9_at_4 : decode cX9_at 4 = .ok (.ifCond .ne 5, 3) := by decide +kernel
theorem dX9_at_7 : decode cX9_at 7 = .ok (.iconst (-1), 1) := by decide +kernel
theorem dX9_at_8 : decode cX9_at 8 = .ok (.ireturn, 1) := by decide +kernel
theorem dX9_at_9 : decode cX9_at 9 = .ok (.aload_n 0, 1) := by decide +kernel
theorem dX9_at_10 : decode cX9_at 10 = .ok (.getfield 13, 3) := by decide +kernel
theorem dX9_at_13 : decode cX9_at 13 = .ok (.iload_n 1, 1) := by decide +kernel
theorem dX9_at_14 : decode cX9_at 14 = .ok (.iaload, 1) := by decide +kernel
theorem dX9_at_15 : decode cX9_at 15 = .ok (.ifCond .ge 9, 3) := by decide +kernel
theorem dX9_at_18 : decode cX9_at 18 = .ok (.aload_n 0, 1) := by decide +kernel
theorem dX9_at_19 : decode cX9_at 19 = .ok (.iconst 1, 1) := by decide +kernel
theorem dX9_at_20 : decode cX9_at 20 = .ok (.invokevirtual 74, 3) := by decide +kernel
theorem dX9_at_23 : decode cX9_at 23 = .ok (.ireturn, 1) := by decide +kernel
theorem dX9_at_24 : decode cX9_at 24 = .ok (.iload_n 2, 1) := by decide +kernel
theorem dX9_at_25 : decode cX9_at 25 = .ok (.i2l, 1) := by decide +kernel
theorem dX9_at_26 : decode cX9_at 26 = .ok (.lconst 0, 1) := by decide +kernel
theorem dX9_at_27 : decode cX9_at 27 = .ok (.aload_n 0, 1) := by decide +kernel
theorem dX9_at_28 : decode cX9_at 28 = .ok (.getfield 13, 3) := by decide +kernel
theorem dX9_at_31 : decode cX9_at 31 = .ok (.iload_n 1, 1) := by decide +kernel
theorem dX9_at_32 : decode cX9_at 32 = .ok (.iaload, 1) := by decide +kernel
theorem dX9_at_33 : decode cX9_at 33 = .ok (.iconst 1, 1) := by decide +kernel
theorem dX9_at_34 : decode cX9_at 34 = .ok (.isub, 1) := by decide +kernel
theorem dX9_at_35 : decode cX9_at 35 = .ok (.i2l, 1) := by decide +kernel
theorem dX9_at_36 : decode cX9_at 36 = .ok (.invokestatic 62, 3) := by decide +kernel
theorem dX9_at_39 : decode cX9_at 39 = .ok (.ifCond .ne 9, 3) := by decide +kernel
theorem dX9_at_42 : decode cX9_at 42 = .ok (.aload_n 0, 1) := by decide +kernel
theorem dX9_at_43 : decode cX9_at 43 = .ok (.iconst 2, 1) := by decide +kernel
theorem dX9_at_44 : decode cX9_at 44 = .ok (.invokevirtual 74, 3) := by decide +kernel
theorem dX9_at_47 : decode cX9_at 47 = .ok (.ireturn, 1) := by decide +kernel
theorem dX9_at_48 : decode cX9_at 48 = .ok (.aload_n 0, 1) := by decide +kernel
theorem dX9_at_49 : decode cX9_at 49 = .ok (.aload_n 0, 1) := by decide +kernel
theorem dX9_at_50 : decode cX9_at 50 = .ok (.getfield 16, 3) := by decide +kernel
theorem dX9_at_53 : decode cX9_at 53 = .ok (.bipush 40, 2) := by decide +kernel
theorem dX9_at_55 : decode cX9_at 55 = .ok (.iload_n 1, 1) := by decide +kernel
theorem dX9_at_56 : decode cX9_at 56 = .ok (.imul, 1) := by decide +kernel
theorem dX9_at_57 : decode cX9_at 57 = .ok (.iload_n 2, 1) := by decide +kernel
theorem dX9_at_58 : decode cX9_at 58 = .ok (.iadd, 1) := by decide +kernel
theorem dX9_at_59 : decode cX9_at 59 = .ok (.iaload, 1) := by decide +kernel
theorem dX9_at_60 : decode cX9_at 60 = .ok (.invokevirtual 77, 3) := by decide +kernel
theorem dX9_at_63 : decode cX9_at 63 = .ok (.ireturn, 1) := by decide +kernel
theorem dX9_tear_0 : decode cX9_tear 0 = .ok (.iload_n 1, 1) := by decide +kernel
theorem dX9_tear_1 : decode cX9_tear 1 = .ok (.invokestatic 70, 3) := by decide +kernel
theorem dX9_tear_4 : decode cX9_tear 4 = .ok (.ifCond .ne 5, 3) := by decide +kernel
theorem dX9_tear_7 : decode cX9_tear 7 = .ok (.iconst (-1), 1) := by decide +kernel
theorem dX9_tear_8 : decode cX9_tear 8 = .ok (.ireturn, 1) := by decide +kernel
theorem dX9_tear_9 : decode cX9_tear 9 = .ok (.aload_n 0, 1) := by decide +kernel
theorem dX9_tear_10 : decode cX9_tear 10 = .ok (.getfield 13, 3) := by decide +kernel
theorem dX9_tear_13 : decode cX9_tear 13 = .ok (.iload_n 1, 1) := by decide +kernel
theorem dX9_tear_14 : decode cX9_tear 14 = .ok (.iaload, 1) := by decide +kernel
theorem dX9_tear_15 : decode cX9_tear 15 = .ok (.ifCond .ge 9, 3) := by decide +kernel
theorem dX9_tear_18 : decode cX9_tear 18 = .ok (.aload_n 0, 1) := by decide +kernel
theorem dX9_tear_19 : decode cX9_tear 19 = .ok (.iconst 1, 1) := by decide +kernel
theorem dX9_tear_20 : decode cX9_tear 20 = .ok (.invokevirtual 74, 3) := by decide +kernel
theorem dX9_tear_23 : decode cX9_tear 23 = .ok (.ireturn, 1) := by decide +kernel
theorem dX9_tear_24 : decode cX9_tear 24 = .ok (.aload_n 0, 1) := by decide +kernel
theorem dX9_tear_25 : decode cX9_tear 25 = .ok (.getfield 13, 3) := by decide +kernel
theorem dX9_tear_28 : decode cX9_tear 28 = .ok (.iload_n 1, 1) := by decide +kernel
theorem dX9_tear_29 : decode cX9_tear 29 = .ok (.iconst (-1), 1) := by decide +kernel
theorem dX9_tear_30 : decode cX9_tear 30 = .ok (.iastore, 1) := by decide +kernel
theorem dX9_tear_31 : decode cX9_tear 31 = .ok (.iconst 1, 1) := by decide +kernel
theorem dX9_tear_32 : decode cX9_tear 32 = .ok (.ireturn, 1) := by decide +kernel
theorem dX9_copy_0 : decode cX9_copy 0 = .ok (.iload_n 1, 1) := by decide +kernel
theorem dX9_copy_1 : decode cX9_copy 1 = .ok (.invokestatic 70, 3) := by decide +kernel
theorem dX9_copy_4 : decode cX9_copy 4 = .ok (.ifCond .eq 10, 3) := by decide +kernel
theorem dX9_copy_7 : decode cX9_copy 7 = .ok (.iload_n 3, 1) := by decide +kernel
theorem dX9_copy_8 : decode cX9_copy 8 = .ok (.invokestatic 70, 3) := by decide +kernel
theorem dX9_copy_11 : decode cX9_copy 11 = .ok (.ifCond .ne 5, 3) := by decide +kernel
theorem dX9_copy_14 : decode cX9_copy 14 = .ok (.iconst (-1), 1) := by decide +kernel
theorem dX9_copy_15 : decode cX9_copy 15 = .ok (.ireturn, 1) := by decide +kernel
theorem dX9_copy_16 : decode cX9_copy 16 = .ok (.iload 5, 2) := by decide +kernel
theorem dX9_copy_18 : decode cX9_copy 18 = .ok (.ifCond .ge 9, 3) := by decide +kernel
theorem dX9_copy_21 : decode cX9_copy 21 = .ok (.aload_n 0, 1) := by decide +kernel
theorem dX9_copy_22 : decode cX9_copy 22 = .ok (.iconst 5, 1) := by decide +kernel
theorem dX9_copy_23 : decode cX9_copy 23 = .ok (.invokevirtual 74, 3) := by decide +kernel
theorem dX9_copy_26 : decode cX9_copy 26 = .ok (.ireturn, 1) := by decide +kernel
theorem dX9_copy_27 : decode cX9_copy 27 = .ok (.aload_n 0, 1) := by decide +kernel
theorem dX9_copy_28 : decode cX9_copy 28 = .ok (.getfield 13, 3) := by decide +kernel
theorem dX9_copy_31 : decode cX9_copy 31 = .ok (.iload_n 1, 1) := by decide +kernel
theorem dX9_copy_32 : decode cX9_copy 32 = .ok (.iaload, 1) := by decide +kernel
theorem dX9_copy_33 : decode cX9_copy 33 = .ok (.ifCond .lt 12, 3) := by decide +kernel
theorem dX9_copy_36 : decode cX9_copy 36 = .ok (.aload_n 0, 1) := by decide +kernel
theorem dX9_copy_37 : decode cX9_copy 37 = .ok (.getfield 13, 3) := by decide +kernel
theorem dX9_copy_40 : decode cX9_copy 40 = .ok (.iload_n 3, 1) := by decide +kernel
theorem dX9_copy_41 : decode cX9_copy 41 = .ok (.iaload, 1) := by decide +kernel
theorem dX9_copy_42 : decode cX9_copy 42 = .ok (.ifCond .ge 9, 3) := by decide +kernel
theorem dX9_copy_45 : decode cX9_copy 45 = .ok (.aload_n 0, 1) := by decide +kernel
theorem dX9_copy_46 : decode cX9_copy 46 = .ok (.iconst 1, 1) := by decide +kernel
theorem dX9_copy_47 : decode cX9_copy 47 = .ok (.invokevirtual 74, 3) := by decide +kernel
theorem dX9_copy_50 : decode cX9_copy 50 = .ok (.ireturn, 1) := by decide +kernel
theorem dX9_copy_51 : decode cX9_copy 51 = .ok (.iload_n 2, 1) := by decide +kernel
theorem dX9_copy_52 : decode cX9_copy 52 = .ok (.ifCond .lt 43, 3) := by decide +kernel
theorem dX9_copy_55 : decode cX9_copy 55 = .ok (.iload 4, 2) := by decide +kernel
theorem dX9_copy_57 : decode cX9_copy 57 = .ok (.ifCond .lt 38, 3) := by decide +kernel
theorem dX9_copy_60 : decode cX9_copy 60 = .ok (.iload_n 2, 1) := by decide +kernel
theorem dX9_copy_61 : decode cX9_copy 61 = .ok (.i2l, 1) := by decide +kernel
theorem dX9_copy_62 : decode cX9_copy 62 = .ok (.iload 5, 2) := by decide +kernel
theorem dX9_copy_64 : decode cX9_copy 64 = .ok (.i2l, 1) := by decide +kernel
theorem dX9_copy_65 : decode cX9_copy 65 = .ok (.ladd, 1) := by decide +kernel
theorem dX9_copy_66 : decode cX9_copy 66 = .ok (.aload_n 0, 1) := by decide +kernel
theorem dX9_copy_67 : decode cX9_copy 67 = .ok (.getfield 13, 3) := by decide +kernel
theorem dX9_copy_70 : decode cX9_copy 70 = .ok (.iload_n 1, 1) := by decide +kernel
theorem dX9_copy_71 : decode cX9_copy 71 = .ok (.iaload, 1) := by decide +kernel
theorem dX9_copy_72 : decode cX9_copy 72 = .ok (.i2l, 1) := by decide +kernel
theorem dX9_copy_73 : decode cX9_copy 73 = .ok (.lcmp, 1) := by decide +kernel
theorem dX9_copy_74 : decode cX9_copy 74 = .ok (.ifCond .gt 21, 3) := by decide +kernel
theorem dX9_copy_77 : decode cX9_copy 77 = .ok (.iload 4, 2) := by decide +kernel
theorem dX9_copy_79 : decode cX9_copy 79 = .ok (.i2l, 1) := by decide +kernel
theorem dX9_copy_80 : decode cX9_copy 80 = .ok (.iload 5, 2) := by decide +kernel
theorem dX9_copy_82 : decode cX9_copy 82 = .ok (.i2l, 1) := by decide +kernel
theorem dX9_copy_83 : decode cX9_copy 83 = .ok (.ladd, 1) := by decide +kernel
theorem dX9_copy_84 : decode cX9_copy 84 = .ok (.aload_n 0, 1) := by decide +kernel
theorem dX9_copy_85 : decode cX9_copy 85 = .ok (.getfield 13, 3) := by decide +kernel
theorem dX9_copy_88 : decode cX9_copy 88 = .ok (.iload_n 3, 1) := by decide +kernel
theorem dX9_copy_89 : decode cX9_copy 89 = .ok (.iaload, 1) := by decide +kernel
theorem dX9_copy_90 : decode cX9_copy 90 = .ok (.i2l, 1) := by decide +kernel
theorem dX9_copy_91 : decode cX9_copy 91 = .ok (.lcmp, 1) := by decide +kernel
theorem dX9_copy_92 : decode cX9_copy 92 = .ok (.ifCond .le 9, 3) := by decide +kernel
theorem dX9_copy_95 : decode cX9_copy 95 = .ok (.aload_n 0, 1) := by decide +kernel
theorem dX9_copy_96 : decode cX9_copy 96 = .ok (.iconst 2, 1) := by decide +kernel
theorem dX9_copy_97 : decode cX9_copy 97 = .ok (.invokevirtual 74, 3) := by decide +kernel
theorem dX9_copy_100 : decode cX9_copy 100 = .ok (.ireturn, 1) := by decide +kernel
theorem dX9_copy_101 : decode cX9_copy 101 = .ok (.iconst 0, 1) := by decide +kernel
theorem dX9_copy_102 : decode cX9_copy 102 = .ok (.istore 6, 2) := by decide +kernel
theorem dX9_copy_104 : decode cX9_copy 104 = .ok (.iload 6, 2) := by decide +kernel
theorem dX9_copy_106 : decode cX9_copy 106 = .ok (.iload 5, 2) := by decide +kernel
theorem dX9_copy_108 : decode cX9_copy 108 = .ok (.if_icmp .ge 30, 3) := by decide +kernel
theorem dX9_copy_111 : decode cX9_copy 111 = .ok (.aload_n 0, 1) := by decide +kernel
theorem dX9_copy_112 : decode cX9_copy 112 = .ok (.getfield 32, 3) := by decide +kernel
theorem dX9_copy_115 : decode cX9_copy 115 = .ok (.iload 6, 2) := by decide +kernel
theorem dX9_copy_117 : decode cX9_copy 117 = .ok (.aload_n 0, 1) := by decide +kernel
theorem dX9_copy_118 : decode cX9_copy 118 = .ok (.getfield 16, 3) := by decide +kernel
theorem dX9_copy_121 : decode cX9_copy 121 = .ok (.bipush 40, 2) := by decide +kernel
theorem dX9_copy_123 : decode cX9_copy 123 = .ok (.iload_n 1, 1) := by decide +kernel
theorem dX9_copy_124 : decode cX9_copy 124 = .ok (.imul, 1) := by decide +kernel
theorem dX9_copy_125 : decode cX9_copy 125 = .ok (.iload_n 2, 1) := by decide +kernel
theorem dX9_copy_126 : decode cX9_copy 126 = .ok (.iadd, 1) := by decide +kernel
theorem dX9_copy_127 : decode cX9_copy 127 = .ok (.iload 6, 2) := by decide +kernel
theorem dX9_copy_129 : decode cX9_copy 129 = .ok (.iadd, 1) := by decide +kernel
theorem dX9_copy_130 : decode cX9_copy 130 = .ok (.iaload, 1) := by decide +kernel
theorem dX9_copy_131 : decode cX9_copy 131 = .ok (.iastore, 1) := by decide +kernel
theorem dX9_copy_132 : decode cX9_copy 132 = .ok (.iinc 6 1, 3) := by decide +kernel
theorem dX9_copy_135 : decode cX9_copy 135 = .ok (.goto (-31), 3) := by decide +kernel
theorem dX9_copy_138 : decode cX9_copy 138 = .ok (.iconst 0, 1) := by decide +kernel
theorem dX9_copy_139 : decode cX9_copy 139 = .ok (.istore 6, 2) := by decide +kernel
theorem dX9_copy_141 : decode cX9_copy 141 = .ok (.iload 6, 2) := by decide +kernel
theorem dX9_copy_143 : decode cX9_copy 143 = .ok (.iload 5, 2) := by decide +kernel
theorem dX9_copy_145 : decode cX9_copy 145 = .ok (.if_icmp .ge 31, 3) := by decide +kernel
theorem dX9_copy_148 : decode cX9_copy 148 = .ok (.aload_n 0, 1) := by decide +kernel
theorem dX9_copy_149 : decode cX9_copy 149 = .ok (.getfield 16, 3) := by decide +kernel
theorem dX9_copy_152 : decode cX9_copy 152 = .ok (.bipush 40, 2) := by decide +kernel
theorem dX9_copy_154 : decode cX9_copy 154 = .ok (.iload_n 3, 1) := by decide +kernel
theorem dX9_copy_155 : decode cX9_copy 155 = .ok (.imul, 1) := by decide +kernel
theorem dX9_copy_156 : decode cX9_copy 156 = .ok (.iload 4, 2) := by decide +kernel
theorem dX9_copy_158 : decode cX9_copy 158 = .ok (.iadd, 1) := by decide +kernel
theorem dX9_copy_159 : decode cX9_copy 159 = .ok (.iload 6, 2) := by decide +kernel
theorem dX9_copy_161 : decode cX9_copy 161 = .ok (.iadd, 1) := by decide +kernel
theorem dX9_copy_162 : decode cX9_copy 162 = .ok (.aload_n 0, 1) := by decide +kernel
theorem dX9_copy_163 : decode cX9_copy 163 = .ok (.getfield 32, 3) := by decide +kernel
theorem dX9_copy_166 : decode cX9_copy 166 = .ok (.iload 6, 2) := by decide +kernel
theorem dX9_copy_168 : decode cX9_copy 168 = .ok (.iaload, 1) := by decide +kernel
theorem dX9_copy_169 : decode cX9_copy 169 = .ok (.iastore, 1) := by decide +kernel
theorem dX9_copy_170 : decode cX9_copy 170 = .ok (.iinc 6 1, 3) := by decide +kernel
theorem dX9_copy_173 : decode cX9_copy 173 = .ok (.goto (-32), 3) := by decide +kernel
theorem dX9_copy_176 : decode cX9_copy 176 = .ok (.iconst 1, 1) := by decide +kernel
theorem dX9_copy_177 : decode cX9_copy 177 = .ok (.ireturn, 1) := by decide +kernel
theorem dX9_mean_0 : decode cX9_mean 0 = .ok (.iload_n 1, 1) := by decide +kernel
theorem dX9_mean_1 : decode cX9_mean 1 = .ok (.invokestatic 70, 3) := by decide +kernel
theorem dX9_mean_4 : decode cX9_mean 4 = .ok (.ifCond .ne 5, 3) := by decide +kernel
theorem dX9_mean_7 : decode cX9_mean 7 = .ok (.iconst (-1), 1) := by decide +kernel
theorem dX9_mean_8 : decode cX9_mean 8 = .ok (.ireturn, 1) := by decide +kernel
theorem dX9_mean_9 : decode cX9_mean 9 = .ok (.aload_n 0, 1) := by decide +kernel
theorem dX9_mean_10 : decode cX9_mean 10 = .ok (.getfield 13, 3) := by decide +kernel
theorem dX9_mean_13 : decode cX9_mean 13 = .ok (.iload_n 1, 1) := by decide +kernel
theorem dX9_mean_14 : decode cX9_mean 14 = .ok (.iaload, 1) := by decide +kernel
theorem dX9_mean_15 : decode cX9_mean 15 = .ok (.ifCond .ge 9, 3) := by decide +kernel
theorem dX9_mean_18 : decode cX9_mean 18 = .ok (.aload_n 0, 1) := by decide +kernel
theorem dX9_mean_19 : decode cX9_mean 19 = .ok (.iconst 1, 1) := by decide +kernel
theorem dX9_mean_20 : decode cX9_mean 20 = .ok (.invokevirtual 74, 3) := by decide +kernel
theorem dX9_mean_23 : decode cX9_mean 23 = .ok (.ireturn, 1) := by decide +kernel
theorem dX9_mean_24 : decode cX9_mean 24 = .ok (.aload_n 0, 1) := by decide +kernel
theorem dX9_mean_25 : decode cX9_mean 25 = .ok (.getfield 13, 3) := by decide +kernel
theorem dX9_mean_28 : decode cX9_mean 28 = .ok (.iload_n 1, 1) := by decide +kernel
theorem dX9_mean_29 : decode cX9_mean 29 = .ok (.iaload, 1) := by decide +kernel
theorem dX9_mean_30 : decode cX9_mean 30 = .ok (.ifCond .ne 9, 3) := by decide +kernel
theorem dX9_mean_33 : decode cX9_mean 33 = .ok (.aload_n 0, 1) := by decide +kernel
theorem dX9_mean_34 : decode cX9_mean 34 = .ok (.iconst 4, 1) := by decide +kernel
theorem dX9_mean_35 : decode cX9_mean 35 = .ok (.invokevirtual 74, 3) := by decide +kernel
theorem dX9_mean_38 : decode cX9_mean 38 = .ok (.ireturn, 1) := by decide +kernel
theorem dX9_mean_39 : decode cX9_mean 39 = .ok (.lconst 0, 1) := by decide +kernel
theorem dX9_mean_40 : decode cX9_mean 40 = .ok (.lstore_n 2, 1) := by decide +kernel
theorem dX9_mean_41 : decode cX9_mean 41 = .ok (.iconst 0, 1) := by decide +kernel
theorem dX9_mean_42 : decode cX9_mean 42 = .ok (.istore 4, 2) := by decide +kernel
theorem dX9_mean_44 : decode cX9_mean 44 = .ok (.iload 4, 2) := by decide +kernel
theorem dX9_mean_46 : decode cX9_mean 46 = .ok (.aload_n 0, 1) := by decide +kernel
theorem dX9_mean_47 : decode cX9_mean 47 = .ok (.getfield 13, 3) := by decide +kernel
theorem dX9_mean_50 : decode cX9_mean 50 = .ok (.iload_n 1, 1) := by decide +kernel
theorem dX9_mean_51 : decode cX9_mean 51 = .ok (.iaload, 1) := by decide +kernel
theorem dX9_mean_52 : decode cX9_mean 52 = .ok (.if_icmp .ge 25, 3) := by decide +kernel
theorem dX9_mean_55 : decode cX9_mean 55 = .ok (.lload_n 2, 1) := by decide +kernel
theorem dX9_mean_56 : decode cX9_mean 56 = .ok (.aload_n 0, 1) := by decide +kernel
theorem dX9_mean_57 : decode cX9_mean 57 = .ok (.getfield 16, 3) := by decide +kernel
theorem dX9_mean_60 : decode cX9_mean 60 = .ok (.bipush 40, 2) := by decide +kernel
theorem dX9_mean_62 : decode cX9_mean 62 = .ok (.iload_n 1, 1) := by decide +kernel
theorem dX9_mean_63 : decode cX9_mean 63 = .ok (.imul, 1) := by decide +kernel
theorem dX9_mean_64 : decode cX9_mean 64 = .ok (.iload 4, 2) := by decide +kernel
theorem dX9_mean_66 : decode cX9_mean 66 = .ok (.iadd, 1) := by decide +kernel
theorem dX9_mean_67 : decode cX9_mean 67 = .ok (.iaload, 1) := by decide +kernel
theorem dX9_mean_68 : decode cX9_mean 68 = .ok (.i2l, 1) := by decide +kernel
theorem dX9_mean_69 : decode cX9_mean 69 = .ok (.ladd, 1) := by decide +kernel
theorem dX9_mean_70 : decode cX9_mean 70 = .ok (.lstore_n 2, 1) := by decide +kernel
theorem dX9_mean_71 : decode cX9_mean 71 = .ok (.iinc 4 1, 3) := by decide +kernel
theorem dX9_mean_74 : decode cX9_mean 74 = .ok (.goto (-30), 3) := by decide +kernel
theorem dX9_mean_77 : decode cX9_mean 77 = .ok (.aload_n 0, 1) := by decide +kernel
theorem dX9_mean_78 : decode cX9_mean 78 = .ok (.lload_n 2, 1) := by decide +kernel
theorem dX9_mean_79 : decode cX9_mean 79 = .ok (.aload_n 0, 1) := by decide +kernel
theorem dX9_mean_80 : decode cX9_mean 80 = .ok (.getfield 13, 3) := by decide +kernel
theorem dX9_mean_83 : decode cX9_mean 83 = .ok (.iload_n 1, 1) := by decide +kernel
theorem dX9_mean_84 : decode cX9_mean 84 = .ok (.iaload, 1) := by decide +kernel
theorem dX9_mean_85 : decode cX9_mean 85 = .ok (.i2l, 1) := by decide +kernel
theorem dX9_mean_86 : decode cX9_mean 86 = .ok (.ldiv, 1) := by decide +kernel
theorem dX9_mean_87 : decode cX9_mean 87 = .ok (.l2i, 1) := by decide +kernel
theorem dX9_mean_88 : decode cX9_mean 88 = .ok (.invokevirtual 77, 3) := by decide +kernel
theorem dX9_mean_91 : decode cX9_mean 91 = .ok (.ireturn, 1) := by decide +kernel
theorem dX9_text_0 : decode cX9_text 0 = .ok (.iload_n 1, 1) := by decide +kernel
theorem dX9_text_1 : decode cX9_text 1 = .ok (.invokestatic 80, 3) := by decide +kernel
theorem dX9_text_4 : decode cX9_text 4 = .ok (.ifCond .eq 9, 3) := by decide +kernel
theorem dX9_text_7 : decode cX9_text 7 = .ok (.iload_n 2, 1) := by decide +kernel
theorem dX9_text_8 : decode cX9_text 8 = .ok (.bipush 60, 2) := by decide +kernel
theorem dX9_text_10 : decode cX9_text 10 = .ok (.if_icmp .le 5, 3) := by decide +kernel
theorem dX9_text_13 : decode cX9_text 13 = .ok (.iconst (-1), 1) := by decide +kernel
theorem dX9_text_14 : decode cX9_text 14 = .ok (.ireturn, 1) := by decide +kernel
theorem dX9_text_15 : decode cX9_text 15 = .ok (.iload_n 2, 1) := by decide +kernel
theorem dX9_text_16 : decode cX9_text 16 = .ok (.ifCond .ge 9, 3) := by decide +kernel
theorem dX9_text_19 : decode cX9_text 19 = .ok (.aload_n 0, 1) := by decide +kernel
theorem dX9_text_20 : decode cX9_text 20 = .ok (.iconst 5, 1) := by decide +kernel
theorem dX9_text_21 : decode cX9_text 21 = .ok (.invokevirtual 74, 3) := by decide +kernel
theorem dX9_text_24 : decode cX9_text 24 = .ok (.ireturn, 1) := by decide +kernel
theorem dX9_text_25 : decode cX9_text 25 = .ok (.aload_n 0, 1) := by decide +kernel
theorem dX9_text_26 : decode cX9_text 26 = .ok (.getfield 19, 3) := by decide +kernel
theorem dX9_text_29 : decode cX9_text 29 = .ok (.iload_n 1, 1) := by decide +kernel
theorem dX9_text_30 : decode cX9_text 30 = .ok (.iload_n 2, 1) := by decide +kernel
theorem dX9_text_31 : decode cX9_text 31 = .ok (.iastore, 1) := by decide +kernel
theorem dX9_text_32 : decode cX9_text 32 = .ok (.iconst 0, 1) := by decide +kernel
theorem dX9_text_33 : decode cX9_text 33 = .ok (.istore_n 3, 1) := by decide +kernel
theorem dX9_text_34 : decode cX9_text 34 = .ok (.iload_n 3, 1) := by decide +kernel
theorem dX9_text_35 : decode cX9_text 35 = .ok (.bipush 60, 2) := by decide +kernel
theorem dX9_text_37 : decode cX9_text 37 = .ok (.if_icmp .ge 22, 3) := by decide +kernel
theorem dX9_text_40 : decode cX9_text 40 = .ok (.aload_n 0, 1) := by decide +kernel
theorem dX9_text_41 : decode cX9_text 41 = .ok (.getfield 22, 3) := by decide +kernel
theorem dX9_text_44 : decode cX9_text 44 = .ok (.bipush 60, 2) := by decide +kernel
theorem dX9_text_46 : decode cX9_text 46 = .ok (.iload_n 1, 1) := by decide +kernel
theorem dX9_text_47 : decode cX9_text 47 = .ok (.imul, 1) := by decide +kernel
theorem dX9_text_48 : decode cX9_text 48 = .ok (.iload_n 3, 1) := by decide +kernel
theorem dX9_text_49 : decode cX9_text 49 = .ok (.iadd, 1) := by decide +kernel
theorem dX9_text_50 : decode cX9_text 50 = .ok (.bipush 32, 2) := by decide +kernel
theorem dX9_text_52 : decode cX9_text 52 = .ok (.iastore, 1) := by decide +kernel
theorem dX9_text_53 : decode cX9_text 53 = .ok (.iinc 3 1, 3) := by decide +kernel
theorem dX9_text_56 : decode cX9_text 56 = .ok (.goto (-22), 3) := by decide +kernel
theorem dX9_text_59 : decode cX9_text 59 = .ok (.iload_n 2, 1) := by decide +kernel
theorem dX9_text_60 : decode cX9_text 60 = .ok (.ireturn, 1) := by decide +kernel
theorem dX9_put_0 : decode cX9_put 0 = .ok (.iload_n 1, 1) := by decide +kernel
theorem dX9_put_1 : decode cX9_put 1 = .ok (.invokestatic 80, 3) := by decide +kernel
theorem dX9_put_4 : decode cX9_put 4 = .ok (.ifCond .ne 5, 3) := by decide +kernel
theorem dX9_put_7 : decode cX9_put 7 = .ok (.iconst (-1), 1) := by decide +kernel
theorem dX9_put_8 : decode cX9_put 8 = .ok (.ireturn, 1) := by decide +kernel
theorem dX9_put_9 : decode cX9_put 9 = .ok (.aload_n 0, 1) := by decide +kernel
theorem dX9_put_10 : decode cX9_put 10 = .ok (.getfield 19, 3) := by decide +kernel
theorem dX9_put_13 : decode cX9_put 13 = .ok (.iload_n 1, 1) := by decide +kernel
theorem dX9_put_14 : decode cX9_put 14 = .ok (.iaload, 1) := by decide +kernel
theorem dX9_put_15 : decode cX9_put 15 = .ok (.ifCond .ge 9, 3) := by decide +kernel
theorem dX9_put_18 : decode cX9_put 18 = .ok (.aload_n 0, 1) := by decide +kernel
theorem dX9_put_19 : decode cX9_put 19 = .ok (.iconst 1, 1) := by decide +kernel
theorem dX9_put_20 : decode cX9_put 20 = .ok (.invokevirtual 74, 3) := by decide +kernel
theorem dX9_put_23 : decode cX9_put 23 = .ok (.ireturn, 1) := by decide +kernel
theorem dX9_put_24 : decode cX9_put 24 = .ok (.iload_n 2, 1) := by decide +kernel
theorem dX9_put_25 : decode cX9_put 25 = .ok (.i2l, 1) := by decide +kernel
theorem dX9_put_26 : decode cX9_put 26 = .ok (.lconst 0, 1) := by decide +kernel
theorem dX9_put_27 : decode cX9_put 27 = .ok (.aload_n 0, 1) := by decide +kernel
theorem dX9_put_28 : decode cX9_put 28 = .ok (.getfield 19, 3) := by decide +kernel
theorem dX9_put_31 : decode cX9_put 31 = .ok (.iload_n 1, 1) := by decide +kernel
theorem dX9_put_32 : decode cX9_put 32 = .ok (.iaload, 1) := by decide +kernel
theorem dX9_put_33 : decode cX9_put 33 = .ok (.iconst 1, 1) := by decide +kernel
theorem dX9_put_34 : decode cX9_put 34 = .ok (.isub, 1) := by decide +kernel
theorem dX9_put_35 : decode cX9_put 35 = .ok (.i2l, 1) := by decide +kernel
theorem dX9_put_36 : decode cX9_put 36 = .ok (.invokestatic 62, 3) := by decide +kernel
theorem dX9_put_39 : decode cX9_put 39 = .ok (.ifCond .ne 9, 3) := by decide +kernel
theorem dX9_put_42 : decode cX9_put 42 = .ok (.aload_n 0, 1) := by decide +kernel
theorem dX9_put_43 : decode cX9_put 43 = .ok (.iconst 2, 1) := by decide +kernel
theorem dX9_put_44 : decode cX9_put 44 = .ok (.invokevirtual 74, 3) := by decide +kernel
theorem dX9_put_47 : decode cX9_put 47 = .ok (.ireturn, 1) := by decide +kernel
theorem dX9_put_48 : decode cX9_put 48 = .ok (.aload_n 0, 1) := by decide +kernel
theorem dX9_put_49 : decode cX9_put 49 = .ok (.getfield 22, 3) := by decide +kernel
theorem dX9_put_52 : decode cX9_put 52 = .ok (.bipush 60, 2) := by decide +kernel
theorem dX9_put_54 : decode cX9_put 54 = .ok (.iload_n 1, 1) := by decide +kernel
theorem dX9_put_55 : decode cX9_put 55 = .ok (.imul, 1) := by decide +kernel
theorem dX9_put_56 : decode cX9_put 56 = .ok (.iload_n 2, 1) := by decide +kernel
theorem dX9_put_57 : decode cX9_put 57 = .ok (.iadd, 1) := by decide +kernel
theorem dX9_put_58 : decode cX9_put 58 = .ok (.iaload, 1) := by decide +kernel
theorem dX9_put_59 : decode cX9_put 59 = .ok (.istore 4, 2) := by decide +kernel
theorem dX9_put_61 : decode cX9_put 61 = .ok (.aload_n 0, 1) := by decide +kernel
theorem dX9_put_62 : decode cX9_put 62 = .ok (.getfield 22, 3) := by decide +kernel
theorem dX9_put_65 : decode cX9_put 65 = .ok (.bipush 60, 2) := by decide +kernel
theorem dX9_put_67 : decode cX9_put 67 = .ok (.iload_n 1, 1) := by decide +kernel
theorem dX9_put_68 : decode cX9_put 68 = .ok (.imul, 1) := by decide +kernel
theorem dX9_put_69 : decode cX9_put 69 = .ok (.iload_n 2, 1) := by decide +kernel
theorem dX9_put_70 : decode cX9_put 70 = .ok (.iadd, 1) := by decide +kernel
theorem dX9_put_71 : decode cX9_put 71 = .ok (.iload_n 3, 1) := by decide +kernel
theorem dX9_put_72 : decode cX9_put 72 = .ok (.i2b, 1) := by decide +kernel
theorem dX9_put_73 : decode cX9_put 73 = .ok (.iastore, 1) := by decide +kernel
theorem dX9_put_74 : decode cX9_put 74 = .ok (.iload 4, 2) := by decide +kernel
theorem dX9_put_76 : decode cX9_put 76 = .ok (.sipush 1000, 3) := by decide +kernel
theorem dX9_put_79 : decode cX9_put 79 = .ok (.iadd, 1) := by decide +kernel
theorem dX9_put_80 : decode cX9_put 80 = .ok (.ireturn, 1) := by decide +kernel
theorem dX9_here_0 : decode cX9_here 0 = .ok (.aload_n 0, 1) := by decide +kernel
theorem dX9_here_1 : decode cX9_here 1 = .ok (.getfield 83, 3) := by decide +kernel
theorem dX9_here_4 : decode cX9_here 4 = .ok (.aload_n 0, 1) := by decide +kernel
theorem dX9_here_5 : decode cX9_here 5 = .ok (.getfield 86, 3) := by decide +kernel
theorem dX9_here_8 : decode cX9_here 8 = .ok (.if_icmp .ge 20, 3) := by decide +kernel
theorem dX9_here_11 : decode cX9_here 11 = .ok (.aload_n 0, 1) := by decide +kernel
theorem dX9_here_12 : decode cX9_here 12 = .ok (.getfield 22, 3) := by decide +kernel
theorem dX9_here_15 : decode cX9_here 15 = .ok (.aload_n 0, 1) := by decide +kernel
theorem dX9_here_16 : decode cX9_here 16 = .ok (.getfield 89, 3) := by decide +kernel
theorem dX9_here_19 : decode cX9_here 19 = .ok (.aload_n 0, 1) := by decide +kernel
theorem dX9_here_20 : decode cX9_here 20 = .ok (.getfield 83, 3) := by decide +kernel
theorem dX9_here_23 : decode cX9_here 23 = .ok (.iadd, 1) := by decide +kernel
theorem dX9_here_24 : decode cX9_here 24 = .ok (.iaload, 1) := by decide +kernel
theorem dX9_here_25 : decode cX9_here 25 = .ok (.goto 6, 3) := by decide +kernel
theorem dX9_here_28 : decode cX9_here 28 = .ok (.sipush (-1000), 3) := by decide +kernel
theorem dX9_here_31 : decode cX9_here 31 = .ok (.ireturn, 1) := by decide +kernel
theorem dX9_kindOf_0 : decode cX9_kindOf 0 = .ok (.iload_n 0, 1) := by decide +kernel
theorem dX9_kindOf_1 : decode cX9_kindOf 1 = .ok (.bipush 108, 2) := by decide +kernel
theorem dX9_kindOf_3 : decode cX9_kindOf 3 = .ok (.if_icmp .ne 7, 3) := by decide +kernel
theorem dX9_kindOf_6 : decode cX9_kindOf 6 = .ok (.iconst 0, 1) := by decide +kernel
theorem dX9_kindOf_7 : decode cX9_kindOf 7 = .ok (.goto 54, 3) := by decide +kernel
theorem dX9_kindOf_10 : decode cX9_kindOf 10 = .ok (.iload_n 0, 1) := by decide +kernel
theorem dX9_kindOf_11 : decode cX9_kindOf 11 = .ok (.bipush 106, 2) := by decide +kernel
theorem dX9_kindOf_13 : decode cX9_kindOf 13 = .ok (.if_icmp .ne 7, 3) := by decide +kernel
theorem dX9_kindOf_16 : decode cX9_kindOf 16 = .ok (.iconst 1, 1) := by decide +kernel
theorem dX9_kindOf_17 : decode cX9_kindOf 17 = .ok (.goto 44, 3) := by decide +kernel
theorem dX9_kindOf_20 : decode cX9_kindOf 20 = .ok (.iload_n 0, 1) := by decide +kernel
theorem dX9_kindOf_21 : decode cX9_kindOf 21 = .ok (.bipush 100, 2) := by decide +kernel
theorem dX9_kindOf_23 : decode cX9_kindOf 23 = .ok (.if_icmp .ne 7, 3) := by decide +kernel
theorem dX9_kindOf_26 : decode cX9_kindOf 26 = .ok (.iconst 2, 1) := by decide +kernel
theorem dX9_kindOf_27 : decode cX9_kindOf 27 = .ok (.goto 34, 3) := by decide +kernel
theorem dX9_kindOf_30 : decode cX9_kindOf 30 = .ok (.iload_n 0, 1) := by decide +kernel
theorem dX9_kindOf_31 : decode cX9_kindOf 31 = .ok (.bipush 102, 2) := by decide +kernel
theorem dX9_kindOf_33 : decode cX9_kindOf 33 = .ok (.if_icmp .ne 7, 3) := by decide +kernel
theorem dX9_kindOf_36 : decode cX9_kindOf 36 = .ok (.iconst 3, 1) := by decide +kernel
theorem dX9_kindOf_37 : decode cX9_kindOf 37 = .ok (.goto 24, 3) := by decide +kernel
theorem dX9_kindOf_40 : decode cX9_kindOf 40 = .ok (.iload_n 0, 1) := by decide +kernel
theorem dX9_kindOf_41 : decode cX9_kindOf 41 = .ok (.bipush 111, 2) := by decide +kernel
theorem dX9_kindOf_43 : decode cX9_kindOf 43 = .ok (.if_icmp .ne 7, 3) := by decide +kernel
theorem dX9_kindOf_46 : decode cX9_kindOf 46 = .ok (.iconst 4, 1) := by decide +kernel
theorem dX9_kindOf_47 : decode cX9_kindOf 47 = .ok (.goto 14, 3) := by decide +kernel
theorem dX9_kindOf_50 : decode cX9_kindOf 50 = .ok (.iload_n 0, 1) := by decide +kernel
theorem dX9_kindOf_51 : decode cX9_kindOf 51 = .ok (.bipush 109, 2) := by decide +kernel
theorem dX9_kindOf_53 : decode cX9_kindOf 53 = .ok (.if_icmp .ne 7, 3) := by decide +kernel
theorem dX9_kindOf_56 : decode cX9_kindOf 56 = .ok (.iconst 5, 1) := by decide +kernel
theorem dX9_kindOf_57 : decode cX9_kindOf 57 = .ok (.goto 4, 3) := by decide +kernel
theorem dX9_kindOf_60 : decode cX9_kindOf 60 = .ok (.iconst (-1), 1) := by decide +kernel
theorem dX9_kindOf_61 : decode cX9_kindOf 61 = .ok (.ireturn, 1) := by decide +kernel
theorem dX9_takes_0 : decode cX9_takes 0 = .ok (.aload_n 0, 1) := by decide +kernel
theorem dX9_takes_1 : decode cX9_takes 1 = .ok (.invokevirtual 92, 3) := by decide +kernel
theorem dX9_takes_4 : decode cX9_takes 4 = .ok (.bipush 48, 2) := by decide +kernel
theorem dX9_takes_6 : decode cX9_takes 6 = .ok (.isub, 1) := by decide +kernel
theorem dX9_takes_7 : decode cX9_takes 7 = .ok (.istore_n 3, 1) := by decide +kernel
theorem dX9_takes_8 : decode cX9_takes 8 = .ok (.iload_n 3, 1) := by decide +kernel
theorem dX9_takes_9 : decode cX9_takes 9 = .ok (.i2l, 1) := by decide +kernel
theorem dX9_takes_10 : decode cX9_takes 10 = .ok (.lconst 0, 1) := by decide +kernel
theorem dX9_takes_11 : decode cX9_takes 11 = .ok (.iload_n 1, 1) := by decide +kernel
theorem dX9_takes_12 : decode cX9_takes 12 = .ok (.i2l, 1) := by decide +kernel
theorem dX9_takes_13 : decode cX9_takes 13 = .ok (.invokestatic 62, 3) := by decide +kernel
theorem dX9_takes_16 : decode cX9_takes 16 = .ok (.ifCond .eq 8, 3) := by decide +kernel
theorem dX9_takes_19 : decode cX9_takes 19 = .ok (.iload_n 3, 1) := by decide +kernel
theorem dX9_takes_20 : decode cX9_takes 20 = .ok (.iload_n 2, 1) := by decide +kernel
theorem dX9_takes_21 : decode cX9_takes 21 = .ok (.if_icmp .ne 5, 3) := by decide +kernel
theorem dX9_takes_24 : decode cX9_takes 24 = .ok (.iconst 0, 1) := by decide +kernel
theorem dX9_takes_25 : decode cX9_takes 25 = .ok (.ireturn, 1) := by decide +kernel
theorem dX9_takes_26 : decode cX9_takes 26 = .ok (.aload_n 0, 1) := by decide +kernel
theorem dX9_takes_27 : decode cX9_takes 27 = .ok (.iload_n 3, 1) := by decide +kernel
theorem dX9_takes_28 : decode cX9_takes 28 = .ok (.putfield 96, 3) := by decide +kernel
theorem dX9_takes_31 : decode cX9_takes 31 = .ok (.aload_n 0, 1) := by decide +kernel
theorem dX9_takes_32 : decode cX9_takes 32 = .ok (.dup, 1) := by decide +kernel
theorem dX9_takes_33 : decode cX9_takes 33 = .ok (.getfield 83, 3) := by decide +kernel
theorem dX9_takes_36 : decode cX9_takes 36 = .ok (.iconst 1, 1) := by decide +kernel
theorem dX9_takes_37 : decode cX9_takes 37 = .ok (.iadd, 1) := by decide +kernel
theorem dX9_takes_38 : decode cX9_takes 38 = .ok (.putfield 83, 3) := by decide +kernel
theorem dX9_takes_41 : decode cX9_takes 41 = .ok (.iconst 1, 1) := by decide +kernel
theorem dX9_takes_42 : decode cX9_takes 42 = .ok (.ireturn, 1) := by decide +kernel
theorem dX9_takesLight_0 : decode cX9_takesLight 0 = .ok (.aload_n 0, 1) := by decide +kernel
theorem dX9_takesLight_1 : decode cX9_takesLight 1 = .ok (.invokevirtual 92, 3) := by decide +kernel
theorem dX9_takesLight_4 : decode cX9_takesLight 4 = .ok (.invokestatic 99, 3) := by decide +kernel
theorem dX9_takesLight_7 : decode cX9_takesLight 7 = .ok (.istore_n 1, 1) := by decide +kernel
theorem dX9_takesLight_8 : decode cX9_takesLight 8 = .ok (.iload_n 1, 1) := by decide +kernel
theorem dX9_takesLight_9 : decode cX9_takesLight 9 = .ok (.ifCond .lt 12, 3) := by decide +kernel
theorem dX9_takesLight_12 : decode cX9_takesLight 12 = .ok (.aload_n 0, 1) := by decide +kernel
theorem dX9_takesLight_13 : decode cX9_takesLight 13 = .ok (.getfield 102, 3) := by decide +kernel
theorem dX9_takesLight_16 : decode cX9_takesLight 16 = .ok (.bipush 8, 2) := by decide +kernel
theorem dX9_takesLight_18 : decode cX9_takesLight 18 = .ok (.if_icmp .ne 5, 3) := by decide +kernel
theorem dX9_takesLight_21 : decode cX9_takesLight 21 = .ok (.iconst 0, 1) := by decide +kernel
theorem dX9_takesLight_22 : decode cX9_takesLight 22 = .ok (.ireturn, 1) := by decide +kernel
theorem dX9_takesLight_23 : decode cX9_takesLight 23 = .ok (.aload_n 0, 1) := by decide +kernel
theorem dX9_takesLight_24 : decode cX9_takesLight 24 = .ok (.dup, 1) := by decide +kernel
theorem dX9_takesLight_25 : decode cX9_takesLight 25 = .ok (.getfield 83, 3) := by decide +kernel
theorem dX9_takesLight_28 : decode cX9_takesLight 28 = .ok (.iconst 1, 1) := by decide +kernel
theorem dX9_takesLight_29 : decode cX9_takesLight 29 = .ok (.iadd, 1) := by decide +kernel
theorem dX9_takesLight_30 : decode cX9_takesLight 30 = .ok (.putfield 83, 3) := by decide +kernel
theorem dX9_takesLight_33 : decode cX9_takesLight 33 = .ok (.iconst 5, 1) := by decide +kernel
theorem dX9_takesLight_34 : decode cX9_takesLight 34 = .ok (.aload_n 0, 1) := by decide +kernel
theorem dX9_takesLight_35 : decode cX9_takesLight 35 = .ok (.getfield 102, 3) := by decide +kernel
theorem dX9_takesLight_38 : decode cX9_takesLight 38 = .ok (.imul, 1) := by decide +kernel
theorem dX9_takesLight_39 : decode cX9_takesLight 39 = .ok (.istore_n 2, 1) := by decide +kernel
theorem dX9_takesLight_40 : decode cX9_takesLight 40 = .ok (.aload_n 0, 1) := by decide +kernel
theorem dX9_takesLight_41 : decode cX9_takesLight 41 = .ok (.getfield 35, 3) := by decide +kernel
theorem dX9_takesLight_44 : decode cX9_takesLight 44 = .ok (.iload_n 2, 1) := by decide +kernel
theorem dX9_takesLight_45 : decode cX9_takesLight 45 = .ok (.iload_n 1, 1) := by decide +kernel
theorem dX9_takesLight_46 : decode cX9_takesLight 46 = .ok (.iastore, 1) := by decide +kernel
theorem dX9_takesLight_47 : decode cX9_takesLight 47 = .ok (.iconst 1, 1) := by decide +kernel
theorem dX9_takesLight_48 : decode cX9_takesLight 48 = .ok (.istore_n 3, 1) := by decide +kernel
theorem dX9_takesLight_49 : decode cX9_takesLight 49 = .ok (.iload_n 3, 1) := by decide +kernel
theorem dX9_takesLight_50 : decode cX9_takesLight 50 = .ok (.iconst 5, 1) := by decide +kernel
theorem dX9_takesLight_51 : decode cX9_takesLight 51 = .ok (.if_icmp .ge 58, 3) := by decide +kernel
theorem dX9_takesLight_54 : decode cX9_takesLight 54 = .ok (.aload_n 0, 1) := by decide +kernel
theorem dX9_takesLight_55 : decode cX9_takesLight 55 = .ok (.iload_n 3, 1) := by decide +kernel
theorem dX9_takesLight_56 : decode cX9_takesLight 56 = .ok (.iconst 3, 1) := by decide +kernel
theorem dX9_takesLight_57 : decode cX9_takesLight 57 = .ok (.if_icmp .ge 7, 3) := by decide +kernel
theorem dX9_takesLight_60 : decode cX9_takesLight 60 = .ok (.iconst 5, 1) := by decide +kernel
theorem dX9_takesLight_61 : decode cX9_takesLight 61 = .ok (.goto 5, 3) := by decide +kernel
theorem dX9_takesLight_64 : decode cX9_takesLight 64 = .ok (.bipush 9, 2) := by decide +kernel
theorem dX9_takesLight_66 : decode cX9_takesLight 66 = .ok (.iload_n 3, 1) := by decide +kernel
theorem dX9_takesLight_67 : decode cX9_takesLight 67 = .ok (.iconst 2, 1) := by decide +kernel
theorem dX9_takesLight_68 : decode cX9_takesLight 68 = .ok (.if_icmp .ne 14, 3) := by decide +kernel
theorem dX9_takesLight_71 : decode cX9_takesLight 71 = .ok (.aload_n 0, 1) := by decide +kernel
theorem dX9_takesLight_72 : decode cX9_takesLight 72 = .ok (.getfield 35, 3) := by decide +kernel
theorem dX9_takesLight_75 : decode cX9_takesLight 75 = .ok (.iload_n 2, 1) := by decide +kernel
theorem dX9_takesLight_76 : decode cX9_takesLight 76 = .ok (.iconst 1, 1) := by decide +kernel
theorem dX9_takesLight_77 : decode cX9_takesLight 77 = .ok (.iadd, 1) := by decide +kernel
theorem dX9_takesLight_78 : decode cX9_takesLight 78 = .ok (.iaload, 1) := by decide +kernel
theorem dX9_takesLight_79 : decode cX9_takesLight 79 = .ok (.goto 4, 3) := by decide +kernel
theorem dX9_takesLight_82 : decode cX9_takesLight 82 = .ok (.iconst (-1), 1) := by decide +kernel
theorem dX9_takesLight_83 : decode cX9_takesLight 83 = .ok (.invokevirtual 105, 3) := by decide +kernel
theorem dX9_takesLight_86 : decode cX9_takesLight 86 = .ok (.ifCond .ne 5, 3) := by decide +kernel
theorem dX9_takesLight_89 : decode cX9_takesLight 89 = .ok (.iconst 0, 1) := by decide +kernel
theorem dX9_takesLight_90 : decode cX9_takesLight 90 = .ok (.ireturn, 1) := by decide +kernel
theorem dX9_takesLight_91 : decode cX9_takesLight 91 = .ok (.aload_n 0, 1) := by decide +kernel
theorem dX9_takesLight_92 : decode cX9_takesLight 92 = .ok (.getfield 35, 3) := by decide +kernel
theorem dX9_takesLight_95 : decode cX9_takesLight 95 = .ok (.iload_n 2, 1) := by decide +kernel
theorem dX9_takesLight_96 : decode cX9_takesLight 96 = .ok (.iload_n 3, 1) := by decide +kernel
theorem dX9_takesLight_97 : decode cX9_takesLight 97 = .ok (.iadd, 1) := by decide +kernel
theorem dX9_takesLight_98 : decode cX9_takesLight 98 = .ok (.aload_n 0, 1) := by decide +kernel
theorem dX9_takesLight_99 : decode cX9_takesLight 99 = .ok (.getfield 96, 3) := by decide +kernel
theorem dX9_takesLight_102 : decode cX9_takesLight 102 = .ok (.iastore, 1) := by decide +kernel
theorem dX9_takesLight_103 : decode cX9_takesLight 103 = .ok (.iinc 3 1, 3) := by decide +kernel
theorem dX9_takesLight_106 : decode cX9_takesLight 106 = .ok (.goto (-57), 3) := by decide +kernel
theorem dX9_takesLight_109 : decode cX9_takesLight 109 = .ok (.aload_n 0, 1) := by decide +kernel
theorem dX9_takesLight_110 : decode cX9_takesLight 110 = .ok (.dup, 1) := by decide +kernel
theorem dX9_takesLight_111 : decode cX9_takesLight 111 = .ok (.getfield 102, 3) := by decide +kernel
theorem dX9_takesLight_114 : decode cX9_takesLight 114 = .ok (.iconst 1, 1) := by decide +kernel
theorem dX9_takesLight_115 : decode cX9_takesLight 115 = .ok (.iadd, 1) := by decide +kernel
theorem dX9_takesLight_116 : decode cX9_takesLight 116 = .ok (.putfield 102, 3) := by decide +kernel
theorem dX9_takesLight_119 : decode cX9_takesLight 119 = .ok (.iconst 1, 1) := by decide +kernel
theorem dX9_takesLight_120 : decode cX9_takesLight 120 = .ok (.ireturn, 1) := by decide +kernel
theorem dX9_faultOf_0 : decode cX9_faultOf 0 = .ok (.aload_n 0, 1) := by decide +kernel
theorem dX9_faultOf_1 : decode cX9_faultOf 1 = .ok (.bipush 60, 2) := by decide +kernel
theorem dX9_faultOf_3 : decode cX9_faultOf 3 = .ok (.iload_n 1, 1) := by decide +kernel
theorem dX9_faultOf_4 : decode cX9_faultOf 4 = .ok (.imul, 1) := by decide +kernel
theorem dX9_faultOf_5 : decode cX9_faultOf 5 = .ok (.putfield 89, 3) := by decide +kernel
theorem dX9_faultOf_8 : decode cX9_faultOf 8 = .ok (.aload_n 0, 1) := by decide +kernel
theorem dX9_faultOf_9 : decode cX9_faultOf 9 = .ok (.iconst 0, 1) := by decide +kernel
theorem dX9_faultOf_10 : decode cX9_faultOf 10 = .ok (.putfield 83, 3) := by decide +kernel
theorem dX9_faultOf_13 : decode cX9_faultOf 13 = .ok (.aload_n 0, 1) := by decide +kernel
theorem dX9_faultOf_14 : decode cX9_faultOf 14 = .ok (.aload_n 0, 1) := by decide +kernel
theorem dX9_faultOf_15 : decode cX9_faultOf 15 = .ok (.getfield 19, 3) := by decide +kernel
theorem dX9_faultOf_18 : decode cX9_faultOf 18 = .ok (.iload_n 1, 1) := by decide +kernel
theorem dX9_faultOf_19 : decode cX9_faultOf 19 = .ok (.iaload, 1) := by decide +kernel
theorem dX9_faultOf_20 : decode cX9_faultOf 20 = .ok (.putfield 86, 3) := by decide +kernel
theorem dX9_faultOf_23 : decode cX9_faultOf 23 = .ok (.aload_n 0, 1) := by decide +kernel
theorem dX9_faultOf_24 : decode cX9_faultOf 24 = .ok (.iconst 0, 1) := by decide +kernel
theorem dX9_faultOf_25 : decode cX9_faultOf 25 = .ok (.putfield 102, 3) := by decide +kernel
theorem dX9_faultOf_28 : decode cX9_faultOf 28 = .ok (.iconst 1, 1) := by decide +kernel
theorem dX9_faultOf_29 : decode cX9_faultOf 29 = .ok (.istore_n 2, 1) := by decide +kernel
theorem dX9_faultOf_30 : decode cX9_faultOf 30 = .ok (.iload_n 2, 1) := by decide +kernel
theorem dX9_faultOf_31 : decode cX9_faultOf 31 = .ok (.ifCond .eq 65, 3) := by decide +kernel
theorem dX9_faultOf_34 : decode cX9_faultOf 34 = .ok (.aload_n 0, 1) := by decide +kernel
theorem dX9_faultOf_35 : decode cX9_faultOf 35 = .ok (.invokevirtual 92, 3) := by decide +kernel
theorem dX9_faultOf_38 : decode cX9_faultOf 38 = .ok (.bipush 32, 2) := by decide +kernel
theorem dX9_faultOf_40 : decode cX9_faultOf 40 = .ok (.if_icmp .ne 16, 3) := by decide +kernel
theorem dX9_faultOf_43 : decode cX9_faultOf 43 = .ok (.aload_n 0, 1) := by decide +kernel
theorem dX9_faultOf_44 : decode cX9_faultOf 44 = .ok (.dup, 1) := by decide +kernel
theorem dX9_faultOf_45 : decode cX9_faultOf 45 = .ok (.getfield 83, 3) := by decide +kernel
theorem dX9_faultOf_48 : decode cX9_faultOf 48 = .ok (.iconst 1, 1) := by decide +kernel
theorem dX9_faultOf_49 : decode cX9_faultOf 49 = .ok (.iadd, 1) := by decide +kernel
theorem dX9_faultOf_50 : decode cX9_faultOf 50 = .ok (.putfield 83, 3) := by decide +kernel
theorem dX9_faultOf_53 : decode cX9_faultOf 53 = .ok (.goto (-19), 3) := by decide +kernel
theorem dX9_faultOf_56 : decode cX9_faultOf 56 = .ok (.aload_n 0, 1) := by decide +kernel
theorem dX9_faultOf_57 : decode cX9_faultOf 57 = .ok (.getfield 83, 3) := by decide +kernel
theorem dX9_faultOf_60 : decode cX9_faultOf 60 = .ok (.aload_n 0, 1) := by decide +kernel
theorem dX9_faultOf_61 : decode cX9_faultOf 61 = .ok (.getfield 86, 3) := by decide +kernel
theorem dX9_faultOf_64 : decode cX9_faultOf 64 = .ok (.if_icmp .lt 10, 3) := by decide +kernel
theorem dX9_faultOf_67 : decode cX9_faultOf 67 = .ok (.aload_n 0, 1) := by decide +kernel
theorem dX9_faultOf_68 : decode cX9_faultOf 68 = .ok (.getfield 102, 3) := by decide +kernel
theorem dX9_faultOf_71 : decode cX9_faultOf 71 = .ok (.ifCond .ne 7, 3) := by decide +kernel
theorem dX9_faultOf_74 : decode cX9_faultOf 74 = .ok (.iconst 1, 1) := by decide +kernel
theorem dX9_faultOf_75 : decode cX9_faultOf 75 = .ok (.goto 4, 3) := by decide +kernel
theorem dX9_faultOf_78 : decode cX9_faultOf 78 = .ok (.iconst 0, 1) := by decide +kernel
theorem dX9_faultOf_79 : decode cX9_faultOf 79 = .ok (.istore_n 2, 1) := by decide +kernel
theorem dX9_faultOf_80 : decode cX9_faultOf 80 = .ok (.iload_n 2, 1) := by decide +kernel
theorem dX9_faultOf_81 : decode cX9_faultOf 81 = .ok (.ifCond .eq (-51), 3) := by decide +kernel
theorem dX9_faultOf_84 : decode cX9_faultOf 84 = .ok (.aload_n 0, 1) := by decide +kernel
theorem dX9_faultOf_85 : decode cX9_faultOf 85 = .ok (.invokevirtual 109, 3) := by decide +kernel
theorem dX9_faultOf_88 : decode cX9_faultOf 88 = .ok (.ifCond .ne (-58), 3) := by decide +kernel
theorem dX9_faultOf_91 : decode cX9_faultOf 91 = .ok (.aload_n 0, 1) := by decide +kernel
theorem dX9_faultOf_92 : decode cX9_faultOf 92 = .ok (.getfield 83, 3) := by decide +kernel
theorem dX9_faultOf_95 : decode cX9_faultOf 95 = .ok (.ireturn, 1) := by decide +kernel
theorem dX9_faultOf_96 : decode cX9_faultOf 96 = .ok (.bipush (-9), 2) := by decide +kernel
theorem dX9_faultOf_98 : decode cX9_faultOf 98 = .ok (.ireturn, 1) := by decide +kernel
theorem dX9_fault_0 : decode cX9_fault 0 = .ok (.iload_n 1, 1) := by decide +kernel
theorem dX9_fault_1 : decode cX9_fault 1 = .ok (.invokestatic 80, 3) := by decide +kernel
theorem dX9_fault_4 : decode cX9_fault 4 = .ok (.ifCond .ne 5, 3) := by decide +kernel
theorem dX9_fault_7 : decode cX9_fault 7 = .ok (.iconst (-1), 1) := by decide +kernel
theorem dX9_fault_8 : decode cX9_fault 8 = .ok (.ireturn, 1) := by decide +kernel
theorem dX9_fault_9 : decode cX9_fault 9 = .ok (.aload_n 0, 1) := by decide +kernel
theorem dX9_fault_10 : decode cX9_fault 10 = .ok (.getfield 19, 3) := by decide +kernel
theorem dX9_fault_13 : decode cX9_fault 13 = .ok (.iload_n 1, 1) := by decide +kernel
theorem dX9_fault_14 : decode cX9_fault 14 = .ok (.iaload, 1) := by decide +kernel
theorem dX9_fault_15 : decode cX9_fault 15 = .ok (.ifCond .ge 11, 3) := by decide +kernel
theorem dX9_fault_18 : decode cX9_fault 18 = .ok (.aload_n 0, 1) := by decide +kernel
theorem dX9_fault_19 : decode cX9_fault 19 = .ok (.iconst 1, 1) := by decide +kernel
theorem dX9_fault_20 : decode cX9_fault 20 = .ok (.invokevirtual 74, 3) := by decide +kernel
theorem dX9_fault_23 : decode cX9_fault 23 = .ok (.goto 8, 3) := by decide +kernel
theorem dX9_fault_26 : decode cX9_fault 26 = .ok (.aload_n 0, 1) := by decide +kernel
theorem dX9_fault_27 : decode cX9_fault 27 = .ok (.iload_n 1, 1) := by decide +kernel
theorem dX9_fault_28 : decode cX9_fault 28 = .ok (.invokevirtual 113, 3) := by decide +kernel
theorem dX9_fault_31 : decode cX9_fault 31 = .ok (.ireturn, 1) := by decide +kernel
theorem dX9_bank_0 : decode cX9_bank 0 = .ok (.iload_n 1, 1) := by decide +kernel
theorem dX9_bank_1 : decode cX9_bank 1 = .ok (.invokestatic 80, 3) := by decide +kernel
theorem dX9_bank_4 : decode cX9_bank 4 = .ok (.ifCond .ne 5, 3) := by decide +kernel
theorem dX9_bank_7 : decode cX9_bank 7 = .ok (.iconst (-1), 1) := by decide +kernel
theorem dX9_bank_8 : decode cX9_bank 8 = .ok (.ireturn, 1) := by decide +kernel
theorem dX9_bank_9 : decode cX9_bank 9 = .ok (.aload_n 0, 1) := by decide +kernel
theorem dX9_bank_10 : decode cX9_bank 10 = .ok (.getfield 19, 3) := by decide +kernel
theorem dX9_bank_13 : decode cX9_bank 13 = .ok (.iload_n 1, 1) := by decide +kernel
theorem dX9_bank_14 : decode cX9_bank 14 = .ok (.iaload, 1) := by decide +kernel
theorem dX9_bank_15 : decode cX9_bank 15 = .ok (.ifCond .ge 9, 3) := by decide +kernel
theorem dX9_bank_18 : decode cX9_bank 18 = .ok (.aload_n 0, 1) := by decide +kernel
theorem dX9_bank_19 : decode cX9_bank 19 = .ok (.iconst 1, 1) := by decide +kernel
theorem dX9_bank_20 : decode cX9_bank 20 = .ok (.invokevirtual 74, 3) := by decide +kernel
theorem dX9_bank_23 : decode cX9_bank 23 = .ok (.ireturn, 1) := by decide +kernel
theorem dX9_bank_24 : decode cX9_bank 24 = .ok (.aload_n 0, 1) := by decide +kernel
theorem dX9_bank_25 : decode cX9_bank 25 = .ok (.iload_n 1, 1) := by decide +kernel
theorem dX9_bank_26 : decode cX9_bank 26 = .ok (.invokevirtual 113, 3) := by decide +kernel
theorem dX9_bank_29 : decode cX9_bank 29 = .ok (.bipush (-9), 2) := by decide +kernel
theorem dX9_bank_31 : decode cX9_bank 31 = .ok (.if_icmp .eq 6, 3) := by decide +kernel
theorem dX9_bank_34 : decode cX9_bank 34 = .ok (.bipush (-4), 2) := by decide +kernel
theorem dX9_bank_36 : decode cX9_bank 36 = .ok (.ireturn, 1) := by decide +kernel
theorem dX9_bank_37 : decode cX9_bank 37 = .ok (.iconst 0, 1) := by decide +kernel
theorem dX9_bank_38 : decode cX9_bank 38 = .ok (.istore_n 2, 1) := by decide +kernel
theorem dX9_bank_39 : decode cX9_bank 39 = .ok (.iload_n 2, 1) := by decide +kernel
theorem dX9_bank_40 : decode cX9_bank 40 = .ok (.sipush 1776, 3) := by decide +kernel
theorem dX9_bank_43 : decode cX9_bank 43 = .ok (.if_icmp .ge 16, 3) := by decide +kernel
theorem dX9_bank_46 : decode cX9_bank 46 = .ok (.aload_n 0, 1) := by decide +kernel
theorem dX9_bank_47 : decode cX9_bank 47 = .ok (.getfield 7, 3) := by decide +kernel
theorem dX9_bank_50 : decode cX9_bank 50 = .ok (.iload_n 2, 1) := by decide +kernel
theorem dX9_bank_51 : decode cX9_bank 51 = .ok (.iconst 0, 1) := by decide +kernel
theorem dX9_bank_52 : decode cX9_bank 52 = .ok (.iastore, 1) := by decide +kernel
theorem dX9_bank_53 : decode cX9_bank 53 = .ok (.iinc 2 1, 3) := by decide +kernel
theorem dX9_bank_56 : decode cX9_bank 56 = .ok (.goto (-17), 3) := by decide +kernel
theorem dX9_bank_59 : decode cX9_bank 59 = .ok (.aload_n 0, 1) := by decide +kernel
theorem dX9_bank_60 : decode cX9_bank 60 = .ok (.getfield 7, 3) := by decide +kernel
theorem dX9_bank_63 : decode cX9_bank 63 = .ok (.iconst 0, 1) := by decide +kernel
theorem dX9_bank_64 : decode cX9_bank 64 = .ok (.aload_n 0, 1) := by decide +kernel
theorem dX9_bank_65 : decode cX9_bank 65 = .ok (.getfield 102, 3) := by decide +kernel
theorem dX9_bank_68 : decode cX9_bank 68 = .ok (.iastore, 1) := by decide +kernel
theorem dX9_bank_69 : decode cX9_bank 69 = .ok (.aload_n 0, 1) := by decide +kernel
theorem dX9_bank_70 : decode cX9_bank 70 = .ok (.getfield 7, 3) := by decide +kernel
theorem dX9_bank_73 : decode cX9_bank 73 = .ok (.iconst 2, 1) := by decide +kernel
theorem dX9_bank_74 : decode cX9_bank 74 = .ok (.iconst 1, 1) := by decide +kernel
theorem dX9_bank_75 : decode cX9_bank 75 = .ok (.aload_n 0, 1) := by decide +kernel
theorem dX9_bank_76 : decode cX9_bank 76 = .ok (.getfield 102, 3) := by decide +kernel
theorem dX9_bank_79 : decode cX9_bank 79 = .ok (.ishl, 1) := by decide +kernel
theorem dX9_bank_80 : decode cX9_bank 80 = .ok (.iconst 1, 1) := by decide +kernel
theorem dX9_bank_81 : decode cX9_bank 81 = .ok (.isub, 1) := by decide +kernel
theorem dX9_bank_82 : decode cX9_bank 82 = .ok (.iastore, 1) := by decide +kernel
theorem dX9_bank_83 : decode cX9_bank 83 = .ok (.iconst 0, 1) := by decide +kernel
theorem dX9_bank_84 : decode cX9_bank 84 = .ok (.istore_n 2, 1) := by decide +kernel
theorem dX9_bank_85 : decode cX9_bank 85 = .ok (.iload_n 2, 1) := by decide +kernel
theorem dX9_bank_86 : decode cX9_bank 86 = .ok (.aload_n 0, 1) := by decide +kernel
theorem dX9_bank_87 : decode cX9_bank 87 = .ok (.getfield 102, 3) := by decide +kernel
theorem dX9_bank_90 : decode cX9_bank 90 = .ok (.if_icmp .ge 101, 3) := by decide +kernel
theorem dX9_bank_93 : decode cX9_bank 93 = .ok (.aload_n 0, 1) := by decide +kernel
theorem dX9_bank_94 : decode cX9_bank 94 = .ok (.getfield 7, 3) := by decide +kernel
theorem dX9_bank_97 : decode cX9_bank 97 = .ok (.bipush 11, 2) := by decide +kernel
theorem dX9_bank_99 : decode cX9_bank 99 = .ok (.iload_n 2, 1) := by decide +kernel
theorem dX9_bank_100 : decode cX9_bank 100 = .ok (.iadd, 1) := by decide +kernel
theorem dX9_bank_101 : decode cX9_bank 101 = .ok (.aload_n 0, 1) := by decide +kernel
theorem dX9_bank_102 : decode cX9_bank 102 = .ok (.getfield 35, 3) := by decide +kernel
theorem dX9_bank_105 : decode cX9_bank 105 = .ok (.iconst 5, 1) := by decide +kernel
theorem dX9_bank_106 : decode cX9_bank 106 = .ok (.iload_n 2, 1) := by decide +kernel
theorem dX9_bank_107 : decode cX9_bank 107 = .ok (.imul, 1) := by decide +kernel
theorem dX9_bank_108 : decode cX9_bank 108 = .ok (.iaload, 1) := by decide +kernel
theorem dX9_bank_109 : decode cX9_bank 109 = .ok (.iastore, 1) := by decide +kernel
theorem dX9_bank_110 : decode cX9_bank 110 = .ok (.aload_n 0, 1) := by decide +kernel
theorem dX9_bank_111 : decode cX9_bank 111 = .ok (.getfield 7, 3) := by decide +kernel
theorem dX9_bank_114 : decode cX9_bank 114 = .ok (.bipush 19, 2) := by decide +kernel
theorem dX9_bank_116 : decode cX9_bank 116 = .ok (.iload_n 2, 1) := by decide +kernel
theorem dX9_bank_117 : decode cX9_bank 117 = .ok (.iadd, 1) := by decide +kernel
theorem dX9_bank_118 : decode cX9_bank 118 = .ok (.aload_n 0, 1) := by decide +kernel
theorem dX9_bank_119 : decode cX9_bank 119 = .ok (.getfield 35, 3) := by decide +kernel
theorem dX9_bank_122 : decode cX9_bank 122 = .ok (.iconst 5, 1) := by decide +kernel
theorem dX9_bank_123 : decode cX9_bank 123 = .ok (.iload_n 2, 1) := by decide +kernel
theorem dX9_bank_124 : decode cX9_bank 124 = .ok (.imul, 1) := by decide +kernel
theorem dX9_bank_125 : decode cX9_bank 125 = .ok (.iconst 1, 1) := by decide +kernel
theorem dX9_bank_126 : decode cX9_bank 126 = .ok (.iadd, 1) := by decide +kernel
theorem dX9_bank_127 : decode cX9_bank 127 = .ok (.iaload, 1) := by decide +kernel
theorem dX9_bank_128 : decode cX9_bank 128 = .ok (.iastore, 1) := by decide +kernel
theorem dX9_bank_129 : decode cX9_bank 129 = .ok (.aload_n 0, 1) := by decide +kernel
theorem dX9_bank_130 : decode cX9_bank 130 = .ok (.getfield 7, 3) := by decide +kernel
theorem dX9_bank_133 : decode cX9_bank 133 = .ok (.bipush 27, 2) := by decide +kernel
theorem dX9_bank_135 : decode cX9_bank 135 = .ok (.iload_n 2, 1) := by decide +kernel
theorem dX9_bank_136 : decode cX9_bank 136 = .ok (.iadd, 1) := by decide +kernel
theorem dX9_bank_137 : decode cX9_bank 137 = .ok (.aload_n 0, 1) := by decide +kernel
theorem dX9_bank_138 : decode cX9_bank 138 = .ok (.getfield 35, 3) := by decide +kernel
theorem dX9_bank_141 : decode cX9_bank 141 = .ok (.iconst 5, 1) := by decide +kernel
theorem dX9_bank_142 : decode cX9_bank 142 = .ok (.iload_n 2, 1) := by decide +kernel
theorem dX9_bank_143 : decode cX9_bank 143 = .ok (.imul, 1) := by decide +kernel
theorem dX9_bank_144 : decode cX9_bank 144 = .ok (.iconst 2, 1) := by decide +kernel
theorem dX9_bank_145 : decode cX9_bank 145 = .ok (.iadd, 1) := by decide +kernel
theorem dX9_bank_146 : decode cX9_bank 146 = .ok (.iaload, 1) := by decide +kernel
theorem dX9_bank_147 : decode cX9_bank 147 = .ok (.iastore, 1) := by decide +kernel
theorem dX9_bank_148 : decode cX9_bank 148 = .ok (.aload_n 0, 1) := by decide +kernel
theorem dX9_bank_149 : decode cX9_bank 149 = .ok (.getfield 7, 3) := by decide +kernel
theorem dX9_bank_152 : decode cX9_bank 152 = .ok (.iconst 3, 1) := by decide +kernel
theorem dX9_bank_153 : decode cX9_bank 153 = .ok (.iload_n 2, 1) := by decide +kernel
theorem dX9_bank_154 : decode cX9_bank 154 = .ok (.iadd, 1) := by decide +kernel
theorem dX9_bank_155 : decode cX9_bank 155 = .ok (.aload_n 0, 1) := by decide +kernel
theorem dX9_bank_156 : decode cX9_bank 156 = .ok (.getfield 35, 3) := by decide +kernel
theorem dX9_bank_159 : decode cX9_bank 159 = .ok (.iconst 5, 1) := by decide +kernel
theorem dX9_bank_160 : decode cX9_bank 160 = .ok (.iload_n 2, 1) := by decide +kernel
theorem dX9_bank_161 : decode cX9_bank 161 = .ok (.imul, 1) := by decide +kernel
theorem dX9_bank_162 : decode cX9_bank 162 = .ok (.iconst 3, 1) := by decide +kernel
theorem dX9_bank_163 : decode cX9_bank 163 = .ok (.iadd, 1) := by decide +kernel
theorem dX9_bank_164 : decode cX9_bank 164 = .ok (.iaload, 1) := by decide +kernel
theorem dX9_bank_165 : decode cX9_bank 165 = .ok (.iastore, 1) := by decide +kernel
theorem dX9_bank_166 : decode cX9_bank 166 = .ok (.aload_n 0, 1) := by decide +kernel
theorem dX9_bank_167 : decode cX9_bank 167 = .ok (.getfield 7, 3) := by decide +kernel
theorem dX9_bank_170 : decode cX9_bank 170 = .ok (.bipush 35, 2) := by decide +kernel
theorem dX9_bank_172 : decode cX9_bank 172 = .ok (.iload_n 2, 1) := by decide +kernel
theorem dX9_bank_173 : decode cX9_bank 173 = .ok (.iadd, 1) := by decide +kernel
theorem dX9_bank_174 : decode cX9_bank 174 = .ok (.aload_n 0, 1) := by decide +kernel
theorem dX9_bank_175 : decode cX9_bank 175 = .ok (.getfield 35, 3) := by decide +kernel
theorem dX9_bank_178 : decode cX9_bank 178 = .ok (.iconst 5, 1) := by decide +kernel
theorem dX9_bank_179 : decode cX9_bank 179 = .ok (.iload_n 2, 1) := by decide +kernel
theorem dX9_bank_180 : decode cX9_bank 180 = .ok (.imul, 1) := by decide +kernel
theorem dX9_bank_181 : decode cX9_bank 181 = .ok (.iconst 4, 1) := by decide +kernel
theorem dX9_bank_182 : decode cX9_bank 182 = .ok (.iadd, 1) := by decide +kernel
theorem dX9_bank_183 : decode cX9_bank 183 = .ok (.iaload, 1) := by decide +kernel
theorem dX9_bank_184 : decode cX9_bank 184 = .ok (.iastore, 1) := by decide +kernel
theorem dX9_bank_185 : decode cX9_bank 185 = .ok (.iinc 2 1, 3) := by decide +kernel
theorem dX9_bank_188 : decode cX9_bank 188 = .ok (.goto (-103), 3) := by decide +kernel
theorem dX9_bank_191 : decode cX9_bank 191 = .ok (.aload_n 0, 1) := by decide +kernel
theorem dX9_bank_192 : decode cX9_bank 192 = .ok (.getfield 102, 3) := by decide +kernel
theorem dX9_bank_195 : decode cX9_bank 195 = .ok (.ireturn, 1) := by decide +kernel
theorem dX9_dew_0 : decode cX9_dew 0 = .ok (.iload_n 0, 1) := by decide +kernel
theorem dX9_dew_1 : decode cX9_dew 1 = .ok (.iload_n 1, 1) := by decide +kernel
theorem dX9_dew_2 : decode cX9_dew 2 = .ok (.iadd, 1) := by decide +kernel
theorem dX9_dew_3 : decode cX9_dew 3 = .ok (.bipush 20, 2) := by decide +kernel
theorem dX9_dew_5 : decode cX9_dew 5 = .ok (.if_icmp .le 8, 3) := by decide +kernel
theorem dX9_dew_8 : decode cX9_dew 8 = .ok (.bipush 20, 2) := by decide +kernel
theorem dX9_dew_10 : decode cX9_dew 10 = .ok (.goto 6, 3) := by decide +kernel
theorem dX9_dew_13 : decode cX9_dew 13 = .ok (.iload_n 0, 1) := by decide +kernel
theorem dX9_dew_14 : decode cX9_dew 14 = .ok (.iload_n 1, 1) := by decide +kernel
theorem dX9_dew_15 : decode cX9_dew 15 = .ok (.iadd, 1) := by decide +kernel
theorem dX9_dew_16 : decode cX9_dew 16 = .ok (.ireturn, 1) := by decide +kernel
theorem dX9_forged_0 : decode cX9_forged 0 = .ok (.bipush 9, 2) := by decide +kernel
theorem dX9_forged_2 : decode cX9_forged 2 = .ok (.iload_n 0, 1) := by decide +kernel
theorem dX9_forged_3 : decode cX9_forged 3 = .ok (.isub, 1) := by decide +kernel
theorem dX9_forged_4 : decode cX9_forged 4 = .ok (.iload_n 1, 1) := by decide +kernel
theorem dX9_forged_5 : decode cX9_forged 5 = .ok (.iconst 2, 1) := by decide +kernel
theorem dX9_forged_6 : decode cX9_forged 6 = .ok (.irem, 1) := by decide +kernel
theorem dX9_forged_7 : decode cX9_forged 7 = .ok (.iadd, 1) := by decide +kernel
theorem dX9_forged_8 : decode cX9_forged 8 = .ok (.ireturn, 1) := by decide +kernel
theorem dX9_glowBy_0 : decode cX9_glowBy 0 = .ok (.iload_n 0, 1) := by decide +kernel
theorem dX9_glowBy_1 : decode cX9_glowBy 1 = .ok (.tableswitch 93 1 5 #[35, 41, 47, 53, 74], 35) := by decide +kernel
theorem dX9_glowBy_36 : decode cX9_glowBy 36 = .ok (.iload_n 1, 1) := by decide +kernel
theorem dX9_glowBy_37 : decode cX9_glowBy 37 = .ok (.iconst 1, 1) := by decide +kernel
theorem dX9_glowBy_38 : decode cX9_glowBy 38 = .ok (.iadd, 1) := by decide +kernel
theorem dX9_glowBy_39 : decode cX9_glowBy 39 = .ok (.iconst 2, 1) := by decide +kernel
theorem dX9_glowBy_40 : decode cX9_glowBy 40 = .ok (.idiv, 1) := by decide +kernel
theorem dX9_glowBy_41 : decode cX9_glowBy 41 = .ok (.ireturn, 1) := by decide +kernel
theorem dX9_glowBy_42 : decode cX9_glowBy 42 = .ok (.iload_n 1, 1) := by decide +kernel
theorem dX9_glowBy_43 : decode cX9_glowBy 43 = .ok (.iload_n 2, 1) := by decide +kernel
theorem dX9_glowBy_44 : decode cX9_glowBy 44 = .ok (.invokestatic 116, 3) := by decide +kernel
theorem dX9_glowBy_47 : decode cX9_glowBy 47 = .ok (.ireturn, 1) := by decide +kernel
theorem dX9_glowBy_48 : decode cX9_glowBy 48 = .ok (.iload_n 1, 1) := by decide +kernel
theorem dX9_glowBy_49 : decode cX9_glowBy 49 = .ok (.iload_n 2, 1) := by decide +kernel
theorem dX9_glowBy_50 : decode cX9_glowBy 50 = .ok (.invokestatic 120, 3) := by decide +kernel
theorem dX9_glowBy_53 : decode cX9_glowBy 53 = .ok (.ireturn, 1) := by decide +kernel
theorem dX9_glowBy_54 : decode cX9_glowBy 54 = .ok (.iload_n 2, 1) := by decide +kernel
theorem dX9_glowBy_55 : decode cX9_glowBy 55 = .ok (.iconst 5, 1) := by decide +kernel
theorem dX9_glowBy_56 : decode cX9_glowBy 56 = .ok (.if_icmp .lt 13, 3) := by decide +kernel
theorem dX9_glowBy_59 : decode cX9_glowBy 59 = .ok (.iload_n 1, 1) := by decide +kernel
theorem dX9_glowBy_60 : decode cX9_glowBy 60 = .ok (.iload_n 2, 1) := by decide +kernel
theorem dX9_glowBy_61 : decode cX9_glowBy 61 = .ok (.invokestatic 116, 3) := by decide +kernel
theorem dX9_glowBy_64 : decode cX9_glowBy 64 = .ok (.iconst 2, 1) := by decide +kernel
theorem dX9_glowBy_65 : decode cX9_glowBy 65 = .ok (.idiv, 1) := by decide +kernel
theorem dX9_glowBy_66 : decode cX9_glowBy 66 = .ok (.goto 8, 3) := by decide +kernel
theorem dX9_glowBy_69 : decode cX9_glowBy 69 = .ok (.iload_n 1, 1) := by decide +kernel
theorem dX9_glowBy_70 : decode cX9_glowBy 70 = .ok (.iload_n 2, 1) := by decide +kernel
theorem dX9_glowBy_71 : decode cX9_glowBy 71 = .ok (.invokestatic 116, 3) := by decide +kernel
theorem dX9_glowBy_74 : decode cX9_glowBy 74 = .ok (.ireturn, 1) := by decide +kernel
theorem dX9_glowBy_75 : decode cX9_glowBy 75 = .ok (.iload_n 1, 1) := by decide +kernel
theorem dX9_glowBy_76 : decode cX9_glowBy 76 = .ok (.iload_n 2, 1) := by decide +kernel
theorem dX9_glowBy_77 : decode cX9_glowBy 77 = .ok (.invokestatic 120, 3) := by decide +kernel
theorem dX9_glowBy_80 : decode cX9_glowBy 80 = .ok (.iconst 5, 1) := by decide +kernel
theorem dX9_glowBy_81 : decode cX9_glowBy 81 = .ok (.if_icmp .ge 7, 3) := by decide +kernel
theorem dX9_glowBy_84 : decode cX9_glowBy 84 = .ok (.iconst 5, 1) := by decide +kernel
theorem dX9_glowBy_85 : decode cX9_glowBy 85 = .ok (.goto 8, 3) := by decide +kernel
theorem dX9_glowBy_88 : decode cX9_glowBy 88 = .ok (.iload_n 1, 1) := by decide +kernel
theorem dX9_glowBy_89 : decode cX9_glowBy 89 = .ok (.iload_n 2, 1) := by decide +kernel
theorem dX9_glowBy_90 : decode cX9_glowBy 90 = .ok (.invokestatic 120, 3) := by decide +kernel
theorem dX9_glowBy_93 : decode cX9_glowBy 93 = .ok (.ireturn, 1) := by decide +kernel
theorem dX9_glowBy_94 : decode cX9_glowBy 94 = .ok (.iload_n 1, 1) := by decide +kernel
theorem dX9_glowBy_95 : decode cX9_glowBy 95 = .ok (.ireturn, 1) := by decide +kernel
theorem dX9_glowOf_0 : decode cX9_glowOf 0 = .ok (.aload_n 0, 1) := by decide +kernel
theorem dX9_glowOf_1 : decode cX9_glowOf 1 = .ok (.getfield 7, 3) := by decide +kernel
theorem dX9_glowOf_4 : decode cX9_glowOf 4 = .ok (.bipush 11, 2) := by decide +kernel
theorem dX9_glowOf_6 : decode cX9_glowOf 6 = .ok (.iload_n 1, 1) := by decide +kernel
theorem dX9_glowOf_7 : decode cX9_glowOf 7 = .ok (.iadd, 1) := by decide +kernel
theorem dX9_glowOf_8 : decode cX9_glowOf 8 = .ok (.iaload, 1) := by decide +kernel
theorem dX9_glowOf_9 : decode cX9_glowOf 9 = .ok (.aload_n 0, 1) := by decide +kernel
theorem dX9_glowOf_10 : decode cX9_glowOf 10 = .ok (.getfield 7, 3) := by decide +kernel
theorem dX9_glowOf_13 : decode cX9_glowOf 13 = .ok (.bipush 35, 2) := by decide +kernel
theorem dX9_glowOf_15 : decode cX9_glowOf 15 = .ok (.iload_n 1, 1) := by decide +kernel
theorem dX9_glowOf_16 : decode cX9_glowOf 16 = .ok (.iadd, 1) := by decide +kernel
theorem dX9_glowOf_17 : decode cX9_glowOf 17 = .ok (.iaload, 1) := by decide +kernel
theorem dX9_glowOf_18 : decode cX9_glowOf 18 = .ok (.iload_n 2, 1) := by decide +kernel
theorem dX9_glowOf_19 : decode cX9_glowOf 19 = .ok (.invokestatic 123, 3) := by decide +kernel
theorem dX9_glowOf_22 : decode cX9_glowOf 22 = .ok (.ireturn, 1) := by decide +kernel
theorem dX9_light_0 : decode cX9_light 0 = .ok (.aload_n 0, 1) := by decide +kernel
theorem dX9_light_1 : decode cX9_light 1 = .ok (.iload_n 1, 1) := by decide +kernel
theorem dX9_light_2 : decode cX9_light 2 = .ok (.invokevirtual 127, 3) := by decide +kernel
theorem dX9_light_5 : decode cX9_light 5 = .ok (.ifCond .eq 15, 3) := by decide +kernel
theorem dX9_light_8 : decode cX9_light 8 = .ok (.iload_n 2, 1) := by decide +kernel
theorem dX9_light_9 : decode cX9_light 9 = .ok (.i2l, 1) := by decide +kernel
theorem dX9_light_10 : decode cX9_light 10 = .ok (.lconst 0, 1) := by decide +kernel
theorem dX9_light_11 : decode cX9_light 11 = .ok (.ldc2_w 130, 3) := by decide +kernel
theorem dX9_light_14 : decode cX9_light 14 = .ok (.invokestatic 62, 3) := by decide +kernel
theorem dX9_light_17 : decode cX9_light 17 = .ok (.ifCond .ne 5, 3) := by decide +kernel
theorem dX9_light_20 : decode cX9_light 20 = .ok (.iconst (-1), 1) := by decide +kernel
theorem dX9_light_21 : decode cX9_light 21 = .ok (.ireturn, 1) := by decide +kernel
theorem dX9_light_22 : decode cX9_light 22 = .ok (.aload_n 0, 1) := by decide +kernel
theorem dX9_light_23 : decode cX9_light 23 = .ok (.aload_n 0, 1) := by decide +kernel
theorem dX9_light_24 : decode cX9_light 24 = .ok (.iload_n 1, 1) := by decide +kernel
theorem dX9_light_25 : decode cX9_light 25 = .ok (.iload_n 2, 1) := by decide +kernel
theorem dX9_light_26 : decode cX9_light 26 = .ok (.invokevirtual 132, 3) := by decide +kernel
theorem dX9_light_29 : decode cX9_light 29 = .ok (.invokevirtual 77, 3) := by decide +kernel
theorem dX9_light_32 : decode cX9_light 32 = .ok (.ireturn, 1) := by decide +kernel
theorem dX9_lightOf_0 : decode cX9_lightOf 0 = .ok (.iload_n 2, 1) := by decide +kernel
theorem dX9_lightOf_1 : decode cX9_lightOf 1 = .ok (.tableswitch 99 0 5 #[39, 49, 59, 69, 78, 88], 39) := by decide +kernel
theorem dX9_lightOf_40 : decode cX9_lightOf 40 = .ok (.aload_n 0, 1) := by decide +kernel
theorem dX9_lightOf_41 : decode cX9_lightOf 41 = .ok (.getfield 7, 3) := by decide +kernel
theorem dX9_lightOf_44 : decode cX9_lightOf 44 = .ok (.bipush 11, 2) := by decide +kernel
theorem dX9_lightOf_46 : decode cX9_lightOf 46 = .ok (.iload_n 1, 1) := by decide +kernel
theorem dX9_lightOf_47 : decode cX9_lightOf 47 = .ok (.iadd, 1) := by decide +kernel
theorem dX9_lightOf_48 : decode cX9_lightOf 48 = .ok (.iaload, 1) := by decide +kernel
theorem dX9_lightOf_49 : decode cX9_lightOf 49 = .ok (.ireturn, 1) := by decide +kernel
theorem dX9_lightOf_50 : decode cX9_lightOf 50 = .ok (.aload_n 0, 1) := by decide +kernel
theorem dX9_lightOf_51 : decode cX9_lightOf 51 = .ok (.getfield 7, 3) := by decide +kernel
theorem dX9_lightOf_54 : decode cX9_lightOf 54 = .ok (.bipush 19, 2) := by decide +kernel
theorem dX9_lightOf_56 : decode cX9_lightOf 56 = .ok (.iload_n 1, 1) := by decide +kernel
theorem dX9_lightOf_57 : decode cX9_lightOf 57 = .ok (.iadd, 1) := by decide +kernel
theorem dX9_lightOf_58 : decode cX9_lightOf 58 = .ok (.iaload, 1) := by decide +kernel
theorem dX9_lightOf_59 : decode cX9_lightOf 59 = .ok (.ireturn, 1) := by decide +kernel
theorem dX9_lightOf_60 : decode cX9_lightOf 60 = .ok (.aload_n 0, 1) := by decide +kernel
theorem dX9_lightOf_61 : decode cX9_lightOf 61 = .ok (.getfield 7, 3) := by decide +kernel
theorem dX9_lightOf_64 : decode cX9_lightOf 64 = .ok (.bipush 27, 2) := by decide +kernel
theorem dX9_lightOf_66 : decode cX9_lightOf 66 = .ok (.iload_n 1, 1) := by decide +kernel
theorem dX9_lightOf_67 : decode cX9_lightOf 67 = .ok (.iadd, 1) := by decide +kernel
theorem dX9_lightOf_68 : decode cX9_lightOf 68 = .ok (.iaload, 1) := by decide +kernel
theorem dX9_lightOf_69 : decode cX9_lightOf 69 = .ok (.ireturn, 1) := by decide +kernel
theorem dX9_lightOf_70 : decode cX9_lightOf 70 = .ok (.aload_n 0, 1) := by decide +kernel
theorem dX9_lightOf_71 : decode cX9_lightOf 71 = .ok (.getfield 7, 3) := by decide +kernel
theorem dX9_lightOf_74 : decode cX9_lightOf 74 = .ok (.iconst 3, 1) := by decide +kernel
theorem dX9_lightOf_75 : decode cX9_lightOf 75 = .ok (.iload_n 1, 1) := by decide +kernel
theorem dX9_lightOf_76 : decode cX9_lightOf 76 = .ok (.iadd, 1) := by decide +kernel
theorem dX9_lightOf_77 : decode cX9_lightOf 77 = .ok (.iaload, 1) := by decide +kernel
theorem dX9_lightOf_78 : decode cX9_lightOf 78 = .ok (.ireturn, 1) := by decide +kernel
theorem dX9_lightOf_79 : decode cX9_lightOf 79 = .ok (.aload_n 0, 1) := by decide +kernel
theorem dX9_lightOf_80 : decode cX9_lightOf 80 = .ok (.getfield 7, 3) := by decide +kernel
theorem dX9_lightOf_83 : decode cX9_lightOf 83 = .ok (.bipush 35, 2) := by decide +kernel
theorem dX9_lightOf_85 : decode cX9_lightOf 85 = .ok (.iload_n 1, 1) := by decide +kernel
theorem dX9_lightOf_86 : decode cX9_lightOf 86 = .ok (.iadd, 1) := by decide +kernel
theorem dX9_lightOf_87 : decode cX9_lightOf 87 = .ok (.iaload, 1) := by decide +kernel
theorem dX9_lightOf_88 : decode cX9_lightOf 88 = .ok (.ireturn, 1) := by decide +kernel
theorem dX9_lightOf_89 : decode cX9_lightOf 89 = .ok (.aload_n 0, 1) := by decide +kernel
theorem dX9_lightOf_90 : decode cX9_lightOf 90 = .ok (.getfield 7, 3) := by decide +kernel
theorem dX9_lightOf_93 : decode cX9_lightOf 93 = .ok (.iconst 2, 1) := by decide +kernel
theorem dX9_lightOf_94 : decode cX9_lightOf 94 = .ok (.iaload, 1) := by decide +kernel
theorem dX9_lightOf_95 : decode cX9_lightOf 95 = .ok (.iload_n 1, 1) := by decide +kernel
theorem dX9_lightOf_96 : decode cX9_lightOf 96 = .ok (.ishr, 1) := by decide +kernel
theorem dX9_lightOf_97 : decode cX9_lightOf 97 = .ok (.iconst 1, 1) := by decide +kernel
theorem dX9_lightOf_98 : decode cX9_lightOf 98 = .ok (.iand, 1) := by decide +kernel
theorem dX9_lightOf_99 : decode cX9_lightOf 99 = .ok (.ireturn, 1) := by decide +kernel
theorem dX9_lightOf_100 : decode cX9_lightOf 100 = .ok (.aload_n 0, 1) := by decide +kernel
theorem dX9_lightOf_101 : decode cX9_lightOf 101 = .ok (.iload_n 1, 1) := by decide +kernel
theorem dX9_lightOf_102 : decode cX9_lightOf 102 = .ok (.aload_n 0, 1) := by decide +kernel
theorem dX9_lightOf_103 : decode cX9_lightOf 103 = .ok (.getfield 7, 3) := by decide +kernel
theorem dX9_lightOf_106 : decode cX9_lightOf 106 = .ok (.iconst 1, 1) := by decide +kernel
theorem dX9_lightOf_107 : decode cX9_lightOf 107 = .ok (.iaload, 1) := by decide +kernel
theorem dX9_lightOf_108 : decode cX9_lightOf 108 = .ok (.invokevirtual 135, 3) := by decide +kernel
theorem dX9_lightOf_111 : decode cX9_lightOf 111 = .ok (.ireturn, 1) := by decide +kernel
theorem dX9_isA_0 : decode cX9_isA 0 = .ok (.iload_n 0, 1) := by decide +kernel
theorem dX9_isA_1 : decode cX9_isA 1 = .ok (.iload_n 1, 1) := by decide +kernel
theorem dX9_isA_2 : decode cX9_isA 2 = .ok (.if_icmp .eq 23, 3) := by decide +kernel
theorem dX9_isA_5 : decode cX9_isA 5 = .ok (.iload_n 1, 1) := by decide +kernel
theorem dX9_isA_6 : decode cX9_isA 6 = .ok (.iconst 2, 1) := by decide +kernel
theorem dX9_isA_7 : decode cX9_isA 7 = .ok (.if_icmp .ne 8, 3) := by decide +kernel
theorem dX9_isA_10 : decode cX9_isA 10 = .ok (.iload_n 0, 1) := by decide +kernel
theorem dX9_isA_11 : decode cX9_isA 11 = .ok (.iconst 4, 1) := by decide +kernel
theorem dX9_isA_12 : decode cX9_isA 12 = .ok (.if_icmp .eq 13, 3) := by decide +kernel
theorem dX9_isA_15 : decode cX9_isA 15 = .ok (.iload_n 1, 1) := by decide +kernel
theorem dX9_isA_16 : decode cX9_isA 16 = .ok (.iconst 3, 1) := by decide +kernel
theorem dX9_isA_17 : decode cX9_isA 17 = .ok (.if_icmp .ne 12, 3) := by decide +kernel
theorem dX9_isA_20 : decode cX9_isA 20 = .ok (.iload_n 0, 1) := by decide +kernel
theorem dX9_isA_21 : decode cX9_isA 21 = .ok (.iconst 5, 1) := by decide +kernel
theorem dX9_isA_22 : decode cX9_isA 22 = .ok (.if_icmp .ne 7, 3) := by decide +kernel
theorem dX9_isA_25 : decode cX9_isA 25 = .ok (.iconst 1, 1) := by decide +kernel
theorem dX9_isA_26 : decode cX9_isA 26 = .ok (.goto 4, 3) := by decide +kernel
theorem dX9_isA_29 : decode cX9_isA 29 = .ok (.iconst 0, 1) := by decide +kernel
theorem dX9_isA_30 : decode cX9_isA 30 = .ok (.ireturn, 1) := by decide +kernel
theorem dX9_mark_0 : decode cX9_mark 0 = .ok (.aload_n 0, 1) := by decide +kernel
theorem dX9_mark_1 : decode cX9_mark 1 = .ok (.iload_n 1, 1) := by decide +kernel
theorem dX9_mark_2 : decode cX9_mark 2 = .ok (.invokevirtual 127, 3) := by decide +kernel
theorem dX9_mark_5 : decode cX9_mark 5 = .ok (.ifCond .eq 15, 3) := by decide +kernel
theorem dX9_mark_8 : decode cX9_mark 8 = .ok (.iload_n 2, 1) := by decide +kernel
theorem dX9_mark_9 : decode cX9_mark 9 = .ok (.i2l, 1) := by decide +kernel
theorem dX9_mark_10 : decode cX9_mark 10 = .ok (.lconst 1, 1) := by decide +kernel
theorem dX9_mark_11 : decode cX9_mark 11 = .ok (.ldc2_w 60, 3) := by decide +kernel
theorem dX9_mark_14 : decode cX9_mark 14 = .ok (.invokestatic 62, 3) := by decide +kernel
theorem dX9_mark_17 : decode cX9_mark 17 = .ok (.ifCond .ne 5, 3) := by decide +kernel
theorem dX9_mark_20 : decode cX9_mark 20 = .ok (.iconst (-1), 1) := by decide +kernel
theorem dX9_mark_21 : decode cX9_mark 21 = .ok (.ireturn, 1) := by decide +kernel
theorem dX9_mark_22 : decode cX9_mark 22 = .ok (.aload_n 0, 1) := by decide +kernel
theorem dX9_mark_23 : decode cX9_mark 23 = .ok (.getfield 7, 3) := by decide +kernel
theorem dX9_mark_26 : decode cX9_mark 26 = .ok (.bipush 11, 2) := by decide +kernel
theorem dX9_mark_28 : decode cX9_mark 28 = .ok (.iload_n 1, 1) := by decide +kernel
theorem dX9_mark_29 : decode cX9_mark 29 = .ok (.iadd, 1) := by decide +kernel
theorem dX9_mark_30 : decode cX9_mark 30 = .ok (.iaload, 1) := by decide +kernel
theorem dX9_mark_31 : decode cX9_mark 31 = .ok (.iload_n 2, 1) := by decide +kernel
theorem dX9_mark_32 : decode cX9_mark 32 = .ok (.invokestatic 138, 3) := by decide +kernel
theorem dX9_mark_35 : decode cX9_mark 35 = .ok (.ifCond .ne 9, 3) := by decide +kernel
theorem dX9_mark_38 : decode cX9_mark 38 = .ok (.aload_n 0, 1) := by decide +kernel
theorem dX9_mark_39 : decode cX9_mark 39 = .ok (.iconst 3, 1) := by decide +kernel
theorem dX9_mark_40 : decode cX9_mark 40 = .ok (.invokevirtual 74, 3) := by decide +kernel
theorem dX9_mark_43 : decode cX9_mark 43 = .ok (.ireturn, 1) := by decide +kernel
theorem dX9_mark_44 : decode cX9_mark 44 = .ok (.aload_n 0, 1) := by decide +kernel
theorem dX9_mark_45 : decode cX9_mark 45 = .ok (.getfield 7, 3) := by decide +kernel
theorem dX9_mark_48 : decode cX9_mark 48 = .ok (.bipush 35, 2) := by decide +kernel
theorem dX9_mark_50 : decode cX9_mark 50 = .ok (.iload_n 1, 1) := by decide +kernel
theorem dX9_mark_51 : decode cX9_mark 51 = .ok (.iadd, 1) := by decide +kernel
theorem dX9_mark_52 : decode cX9_mark 52 = .ok (.iaload, 1) := by decide +kernel
theorem dX9_mark_53 : decode cX9_mark 53 = .ok (.istore_n 3, 1) := by decide +kernel
theorem dX9_mark_54 : decode cX9_mark 54 = .ok (.aload_n 0, 1) := by decide +kernel
theorem dX9_mark_55 : decode cX9_mark 55 = .ok (.iload_n 1, 1) := by decide +kernel
theorem dX9_mark_56 : decode cX9_mark 56 = .ok (.aload_n 0, 1) := by decide +kernel
theorem dX9_mark_57 : decode cX9_mark 57 = .ok (.getfield 7, 3) := by decide +kernel
theorem dX9_mark_60 : decode cX9_mark 60 = .ok (.iconst 1, 1) := by decide +kernel
theorem dX9_mark_61 : decode cX9_mark 61 = .ok (.iaload, 1) := by decide +kernel
theorem dX9_mark_62 : decode cX9_mark 62 = .ok (.invokevirtual 135, 3) := by decide +kernel
theorem dX9_mark_65 : decode cX9_mark 65 = .ok (.istore 4, 2) := by decide +kernel
theorem dX9_mark_67 : decode cX9_mark 67 = .ok (.iload_n 2, 1) := by decide +kernel
theorem dX9_mark_68 : decode cX9_mark 68 = .ok (.tableswitch 67 1 4 #[32, 37, 45, 53], 32) := by decide +kernel
theorem dX9_mark_100 : decode cX9_mark 100 = .ok (.iload_n 3, 1) := by decide +kernel
theorem dX9_mark_101 : decode cX9_mark 101 = .ok (.iload 4, 2) := by decide +kernel
theorem dX9_mark_103 : decode cX9_mark 103 = .ok (.isub, 1) := by decide +kernel
theorem dX9_mark_104 : decode cX9_mark 104 = .ok (.ireturn, 1) := by decide +kernel
theorem dX9_mark_105 : decode cX9_mark 105 = .ok (.bipush 100, 2) := by decide +kernel
theorem dX9_mark_107 : decode cX9_mark 107 = .ok (.iload 4, 2) := by decide +kernel
theorem dX9_mark_109 : decode cX9_mark 109 = .ok (.iadd, 1) := by decide +kernel
theorem dX9_mark_110 : decode cX9_mark 110 = .ok (.iload_n 3, 1) := by decide +kernel
theorem dX9_mark_111 : decode cX9_mark 111 = .ok (.isub, 1) := by decide +kernel
theorem dX9_mark_112 : decode cX9_mark 112 = .ok (.ireturn, 1) := by decide +kernel
theorem dX9_mark_113 : decode cX9_mark 113 = .ok (.bipush 100, 2) := by decide +kernel
theorem dX9_mark_115 : decode cX9_mark 115 = .ok (.iload_n 3, 1) := by decide +kernel
theorem dX9_mark_116 : decode cX9_mark 116 = .ok (.iadd, 1) := by decide +kernel
theorem dX9_mark_117 : decode cX9_mark 117 = .ok (.iload 4, 2) := by decide +kernel
theorem dX9_mark_119 : decode cX9_mark 119 = .ok (.isub, 1) := by decide +kernel
theorem dX9_mark_120 : decode cX9_mark 120 = .ok (.ireturn, 1) := by decide +kernel
theorem dX9_mark_121 : decode cX9_mark 121 = .ok (.iload_n 3, 1) := by decide +kernel
theorem dX9_mark_122 : decode cX9_mark 122 = .ok (.aload_n 0, 1) := by decide +kernel
theorem dX9_mark_123 : decode cX9_mark 123 = .ok (.getfield 7, 3) := by decide +kernel
theorem dX9_mark_126 : decode cX9_mark 126 = .ok (.iconst 1, 1) := by decide +kernel
theorem dX9_mark_127 : decode cX9_mark 127 = .ok (.iaload, 1) := by decide +kernel
theorem dX9_mark_128 : decode cX9_mark 128 = .ok (.invokestatic 116, 3) := by decide +kernel
theorem dX9_mark_131 : decode cX9_mark 131 = .ok (.iload 4, 2) := by decide +kernel
theorem dX9_mark_133 : decode cX9_mark 133 = .ok (.isub, 1) := by decide +kernel
theorem dX9_mark_134 : decode cX9_mark 134 = .ok (.ireturn, 1) := by decide +kernel
theorem dX9_mark_135 : decode cX9_mark 135 = .ok (.iload 4, 2) := by decide +kernel
theorem dX9_mark_137 : decode cX9_mark 137 = .ok (.iload_n 3, 1) := by decide +kernel
theorem dX9_mark_138 : decode cX9_mark 138 = .ok (.aload_n 0, 1) := by decide +kernel
theorem dX9_mark_139 : decode cX9_mark 139 = .ok (.getfield 7, 3) := by decide +kernel
theorem dX9_mark_142 : decode cX9_mark 142 = .ok (.iconst 1, 1) := by decide +kernel
theorem dX9_mark_143 : decode cX9_mark 143 = .ok (.iaload, 1) := by decide +kernel
theorem dX9_mark_144 : decode cX9_mark 144 = .ok (.invokestatic 120, 3) := by decide +kernel
theorem dX9_mark_147 : decode cX9_mark 147 = .ok (.isub, 1) := by decide +kernel
theorem dX9_mark_148 : decode cX9_mark 148 = .ok (.ireturn, 1) := by decide +kernel
theorem dX9_glows_0 : decode cX9_glows 0 = .ok (.aload_n 0, 1) := by decide +kernel
theorem dX9_glows_1 : decode cX9_glows 1 = .ok (.iload_n 1, 1) := by decide +kernel
theorem dX9_glows_2 : decode cX9_glows 2 = .ok (.invokevirtual 127, 3) := by decide +kernel
theorem dX9_glows_5 : decode cX9_glows 5 = .ok (.ifCond .eq 24, 3) := by decide +kernel
theorem dX9_glows_8 : decode cX9_glows 8 = .ok (.iload_n 2, 1) := by decide +kernel
theorem dX9_glows_9 : decode cX9_glows 9 = .ok (.i2l, 1) := by decide +kernel
theorem dX9_glows_10 : decode cX9_glows 10 = .ok (.lconst 0, 1) := by decide +kernel
theorem dX9_glows_11 : decode cX9_glows 11 = .ok (.ldc2_w 141, 3) := by decide +kernel
theorem dX9_glows_14 : decode cX9_glows 14 = .ok (.invokestatic 62, 3) := by decide +kernel
theorem dX9_glows_17 : decode cX9_glows 17 = .ok (.ifCond .eq 12, 3) := by decide +kernel
theorem dX9_glows_20 : decode cX9_glows 20 = .ok (.aload_n 0, 1) := by decide +kernel
theorem dX9_glows_21 : decode cX9_glows 21 = .ok (.iload_n 1, 1) := by decide +kernel
theorem dX9_glows_22 : decode cX9_glows 22 = .ok (.iload_n 2, 1) := by decide +kernel
theorem dX9_glows_23 : decode cX9_glows 23 = .ok (.invokevirtual 135, 3) := by decide +kernel
theorem dX9_glows_26 : decode cX9_glows 26 = .ok (.goto 4, 3) := by decide +kernel
theorem dX9_glows_29 : decode cX9_glows 29 = .ok (.iconst (-1), 1) := by decide +kernel
theorem dX9_glows_30 : decode cX9_glows 30 = .ok (.ireturn, 1) := by decide +kernel
theorem dX9_minds_0 : decode cX9_minds 0 = .ok (.bipush 44, 2) := by decide +kernel
theorem dX9_minds_2 : decode cX9_minds 2 = .ok (.bipush 10, 2) := by decide +kernel
theorem dX9_minds_4 : decode cX9_minds 4 = .ok (.aload_n 0, 1) := by decide +kernel
theorem dX9_minds_5 : decode cX9_minds 5 = .ok (.getfield 7, 3) := by decide +kernel
theorem dX9_minds_8 : decode cX9_minds 8 = .ok (.bipush 43, 2) := by decide +kernel
theorem dX9_minds_10 : decode cX9_minds 10 = .ok (.iaload, 1) := by decide +kernel
theorem dX9_minds_11 : decode cX9_minds 11 = .ok (.imul, 1) := by decide +kernel
theorem dX9_minds_12 : decode cX9_minds 12 = .ok (.iadd, 1) := by decide +kernel
theorem dX9_minds_13 : decode cX9_minds 13 = .ok (.istore_n 1, 1) := by decide +kernel
theorem dX9_minds_14 : decode cX9_minds 14 = .ok (.aload_n 0, 1) := by decide +kernel
theorem dX9_minds_15 : decode cX9_minds 15 = .ok (.getfield 7, 3) := by decide +kernel
theorem dX9_minds_18 : decode cX9_minds 18 = .ok (.iload_n 1, 1) := by decide +kernel
theorem dX9_minds_19 : decode cX9_minds 19 = .ok (.aload_n 0, 1) := by decide +kernel
theorem dX9_minds_20 : decode cX9_minds 20 = .ok (.getfield 7, 3) := by decide +kernel
theorem dX9_minds_23 : decode cX9_minds 23 = .ok (.iconst 1, 1) := by decide +kernel
theorem dX9_minds_24 : decode cX9_minds 24 = .ok (.iaload, 1) := by decide +kernel
theorem dX9_minds_25 : decode cX9_minds 25 = .ok (.iastore, 1) := by decide +kernel
theorem dX9_minds_26 : decode cX9_minds 26 = .ok (.aload_n 0, 1) := by decide +kernel
theorem dX9_minds_27 : decode cX9_minds 27 = .ok (.getfield 7, 3) := by decide +kernel
theorem dX9_minds_30 : decode cX9_minds 30 = .ok (.iload_n 1, 1) := by decide +kernel
theorem dX9_minds_31 : decode cX9_minds 31 = .ok (.iconst 1, 1) := by decide +kernel
theorem dX9_minds_32 : decode cX9_minds 32 = .ok (.iadd, 1) := by decide +kernel
theorem dX9_minds_33 : decode cX9_minds 33 = .ok (.aload_n 0, 1) := by decide +kernel
theorem dX9_minds_34 : decode cX9_minds 34 = .ok (.getfield 7, 3) := by decide +kernel
theorem dX9_minds_37 : decode cX9_minds 37 = .ok (.iconst 2, 1) := by decide +kernel
theorem dX9_minds_38 : decode cX9_minds 38 = .ok (.iaload, 1) := by decide +kernel
theorem dX9_minds_39 : decode cX9_minds 39 = .ok (.iastore, 1) := by decide +kernel
theorem dX9_minds_40 : decode cX9_minds 40 = .ok (.iconst 0, 1) := by decide +kernel
theorem dX9_minds_41 : decode cX9_minds 41 = .ok (.istore_n 2, 1) := by decide +kernel
theorem dX9_minds_42 : decode cX9_minds 42 = .ok (.iload_n 2, 1) := by decide +kernel
theorem dX9_minds_43 : decode cX9_minds 43 = .ok (.bipush 8, 2) := by decide +kernel
theorem dX9_minds_45 : decode cX9_minds 45 = .ok (.if_icmp .ge 27, 3) := by decide +kernel
theorem dX9_minds_48 : decode cX9_minds 48 = .ok (.aload_n 0, 1) := by decide +kernel
theorem dX9_minds_49 : decode cX9_minds 49 = .ok (.getfield 7, 3) := by decide +kernel
theorem dX9_minds_52 : decode cX9_minds 52 = .ok (.iload_n 1, 1) := by decide +kernel
theorem dX9_minds_53 : decode cX9_minds 53 = .ok (.iconst 2, 1) := by decide +kernel
theorem dX9_minds_54 : decode cX9_minds 54 = .ok (.iadd, 1) := by decide +kernel
theorem dX9_minds_55 : decode cX9_minds 55 = .ok (.iload_n 2, 1) := by decide +kernel
theorem dX9_minds_56 : decode cX9_minds 56 = .ok (.iadd, 1) := by decide +kernel
theorem dX9_minds_57 : decode cX9_minds 57 = .ok (.aload_n 0, 1) := by decide +kernel
theorem dX9_minds_58 : decode cX9_minds 58 = .ok (.getfield 7, 3) := by decide +kernel
theorem dX9_minds_61 : decode cX9_minds 61 = .ok (.iconst 3, 1) := by decide +kernel
theorem dX9_minds_62 : decode cX9_minds 62 = .ok (.iload_n 2, 1) := by decide +kernel
theorem dX9_minds_63 : decode cX9_minds 63 = .ok (.iadd, 1) := by decide +kernel
theorem dX9_minds_64 : decode cX9_minds 64 = .ok (.iaload, 1) := by decide +kernel
theorem dX9_minds_65 : decode cX9_minds 65 = .ok (.iastore, 1) := by decide +kernel
theorem dX9_minds_66 : decode cX9_minds 66 = .ok (.iinc 2 1, 3) := by decide +kernel
theorem dX9_minds_69 : decode cX9_minds 69 = .ok (.goto (-27), 3) := by decide +kernel
theorem dX9_minds_72 : decode cX9_minds 72 = .ok (.aload_n 0, 1) := by decide +kernel
theorem dX9_minds_73 : decode cX9_minds 73 = .ok (.getfield 7, 3) := by decide +kernel
theorem dX9_minds_76 : decode cX9_minds 76 = .ok (.bipush 43, 2) := by decide +kernel
theorem dX9_minds_78 : decode cX9_minds 78 = .ok (.dup2, 1) := by decide +kernel
theorem dX9_minds_79 : decode cX9_minds 79 = .ok (.iaload, 1) := by decide +kernel
theorem dX9_minds_80 : decode cX9_minds 80 = .ok (.iconst 1, 1) := by decide +kernel
theorem dX9_minds_81 : decode cX9_minds 81 = .ok (.iadd, 1) := by decide +kernel
theorem dX9_minds_82 : decode cX9_minds 82 = .ok (.iastore, 1) := by decide +kernel
theorem dX9_minds_83 : decode cX9_minds 83 = .ok (.return_, 1) := by decide +kernel
theorem dX9_glowAll_0 : decode cX9_glowAll 0 = .ok (.iconst 0, 1) := by decide +kernel
theorem dX9_glowAll_1 : decode cX9_glowAll 1 = .ok (.istore_n 1, 1) := by decide +kernel
theorem dX9_glowAll_2 : decode cX9_glowAll 2 = .ok (.iconst 0, 1) := by decide +kernel
theorem dX9_glowAll_3 : decode cX9_glowAll 3 = .ok (.istore_n 2, 1) := by decide +kernel
theorem dX9_glowAll_4 : decode cX9_glowAll 4 = .ok (.iload_n 2, 1) := by decide +kernel
theorem dX9_glowAll_5 : decode cX9_glowAll 5 = .ok (.aload_n 0, 1) := by decide +kernel
theorem dX9_glowAll_6 : decode cX9_glowAll 6 = .ok (.getfield 7, 3) := by decide +kernel
theorem dX9_glowAll_9 : decode cX9_glowAll 9 = .ok (.iconst 0, 1) := by decide +kernel
theorem dX9_glowAll_10 : decode cX9_glowAll 10 = .ok (.iaload, 1) := by decide +kernel
theorem dX9_glowAll_11 : decode cX9_glowAll 11 = .ok (.if_icmp .ge 40, 3) := by decide +kernel
theorem dX9_glowAll_14 : decode cX9_glowAll 14 = .ok (.iload_n 1, 1) := by decide +kernel
theorem dX9_glowAll_15 : decode cX9_glowAll 15 = .ok (.aload_n 0, 1) := by decide +kernel
theorem dX9_glowAll_16 : decode cX9_glowAll 16 = .ok (.getfield 7, 3) := by decide +kernel
theorem dX9_glowAll_19 : decode cX9_glowAll 19 = .ok (.iconst 2, 1) := by decide +kernel
theorem dX9_glowAll_20 : decode cX9_glowAll 20 = .ok (.iaload, 1) := by decide +kernel
theorem dX9_glowAll_21 : decode cX9_glowAll 21 = .ok (.iload_n 2, 1) := by decide +kernel
theorem dX9_glowAll_22 : decode cX9_glowAll 22 = .ok (.invokestatic 143, 3) := by decide +kernel
theorem dX9_glowAll_25 : decode cX9_glowAll 25 = .ok (.ifCond .eq 17, 3) := by decide +kernel
theorem dX9_glowAll_28 : decode cX9_glowAll 28 = .ok (.aload_n 0, 1) := by decide +kernel
theorem dX9_glowAll_29 : decode cX9_glowAll 29 = .ok (.iload_n 2, 1) := by decide +kernel
theorem dX9_glowAll_30 : decode cX9_glowAll 30 = .ok (.aload_n 0, 1) := by decide +kernel
theorem dX9_glowAll_31 : decode cX9_glowAll 31 = .ok (.getfield 7, 3) := by decide +kernel
theorem dX9_glowAll_34 : decode cX9_glowAll 34 = .ok (.iconst 1, 1) := by decide +kernel
theorem dX9_glowAll_35 : decode cX9_glowAll 35 = .ok (.iaload, 1) := by decide +kernel
theorem dX9_glowAll_36 : decode cX9_glowAll 36 = .ok (.invokevirtual 135, 3) := by decide +kernel
theorem dX9_glowAll_39 : decode cX9_glowAll 39 = .ok (.goto 4, 3) := by decide +kernel
theorem dX9_glowAll_42 : decode cX9_glowAll 42 = .ok (.iconst 0, 1) := by decide +kernel
theorem dX9_glowAll_43 : decode cX9_glowAll 43 = .ok (.iadd, 1) := by decide +kernel
theorem dX9_glowAll_44 : decode cX9_glowAll 44 = .ok (.istore_n 1, 1) := by decide +kernel
theorem dX9_glowAll_45 : decode cX9_glowAll 45 = .ok (.iinc 2 1, 3) := by decide +kernel
theorem dX9_glowAll_48 : decode cX9_glowAll 48 = .ok (.goto (-44), 3) := by decide +kernel
theorem dX9_glowAll_51 : decode cX9_glowAll 51 = .ok (.iload_n 1, 1) := by decide +kernel
theorem dX9_glowAll_52 : decode cX9_glowAll 52 = .ok (.ireturn, 1) := by decide +kernel
theorem dX9_night_0 : decode cX9_night 0 = .ok (.aload_n 0, 1) := by decide +kernel
theorem dX9_night_1 : decode cX9_night 1 = .ok (.getfield 7, 3) := by decide +kernel
theorem dX9_night_4 : decode cX9_night 4 = .ok (.iconst 0, 1) := by decide +kernel
theorem dX9_night_5 : decode cX9_night 5 = .ok (.iaload, 1) := by decide +kernel
theorem dX9_night_6 : decode cX9_night 6 = .ok (.ifCond .eq 14, 3) := by decide +kernel
theorem dX9_night_9 : decode cX9_night 9 = .ok (.aload_n 0, 1) := by decide +kernel
theorem dX9_night_10 : decode cX9_night 10 = .ok (.getfield 7, 3) := by decide +kernel
theorem dX9_night_13 : decode cX9_night 13 = .ok (.iconst 1, 1) := by decide +kernel
theorem dX9_night_14 : decode cX9_night 14 = .ok (.iaload, 1) := by decide +kernel
theorem dX9_night_15 : decode cX9_night 15 = .ok (.bipush 40, 2) := by decide +kernel
theorem dX9_night_17 : decode cX9_night 17 = .ok (.if_icmp .ne 6, 3) := by decide +kernel
theorem dX9_night_20 : decode cX9_night 20 = .ok (.bipush (-4), 2) := by decide +kernel
theorem dX9_night_22 : decode cX9_night 22 = .ok (.ireturn, 1) := by decide +kernel
theorem dX9_night_23 : decode cX9_night 23 = .ok (.aload_n 0, 1) := by decide +kernel
theorem dX9_night_24 : decode cX9_night 24 = .ok (.getfield 7, 3) := by decide +kernel
theorem dX9_night_27 : decode cX9_night 27 = .ok (.bipush 43, 2) := by decide +kernel
theorem dX9_night_29 : decode cX9_night 29 = .ok (.iaload, 1) := by decide +kernel
theorem dX9_night_30 : decode cX9_night 30 = .ok (.bipush 40, 2) := by decide +kernel
theorem dX9_night_32 : decode cX9_night 32 = .ok (.if_icmp .ne 6, 3) := by decide +kernel
theorem dX9_night_35 : decode cX9_night 35 = .ok (.bipush (-2), 2) := by decide +kernel
theorem dX9_night_37 : decode cX9_night 37 = .ok (.ireturn, 1) := by decide +kernel
theorem dX9_night_38 : decode cX9_night 38 = .ok (.aload_n 0, 1) := by decide +kernel
theorem dX9_night_39 : decode cX9_night 39 = .ok (.invokevirtual 146, 3) := by decide +kernel
theorem dX9_night_42 : decode cX9_night 42 = .ok (.aload_n 0, 1) := by decide +kernel
theorem dX9_night_43 : decode cX9_night 43 = .ok (.getfield 7, 3) := by decide +kernel
theorem dX9_night_46 : decode cX9_night 46 = .ok (.iconst 1, 1) := by decide +kernel
theorem dX9_night_47 : decode cX9_night 47 = .ok (.dup2, 1) := by decide +kernel
theorem dX9_night_48 : decode cX9_night 48 = .ok (.iaload, 1) := by decide +kernel
theorem dX9_night_49 : decode cX9_night 49 = .ok (.iconst 1, 1) := by decide +kernel
theorem dX9_night_50 : decode cX9_night 50 = .ok (.iadd, 1) := by decide +kernel
theorem dX9_night_51 : decode cX9_night 51 = .ok (.iastore, 1) := by decide +kernel
theorem dX9_night_52 : decode cX9_night 52 = .ok (.aload_n 0, 1) := by decide +kernel
theorem dX9_night_53 : decode cX9_night 53 = .ok (.invokevirtual 149, 3) := by decide +kernel
theorem dX9_night_56 : decode cX9_night 56 = .ok (.ireturn, 1) := by decide +kernel
theorem dX9_lights_0 : decode cX9_lights 0 = .ok (.aload_n 0, 1) := by decide +kernel
theorem dX9_lights_1 : decode cX9_lights 1 = .ok (.iload_n 1, 1) := by decide +kernel
theorem dX9_lights_2 : decode cX9_lights 2 = .ok (.invokevirtual 127, 3) := by decide +kernel
theorem dX9_lights_5 : decode cX9_lights 5 = .ok (.ifCond .ne 5, 3) := by decide +kernel
theorem dX9_lights_8 : decode cX9_lights 8 = .ok (.iconst (-1), 1) := by decide +kernel
theorem dX9_lights_9 : decode cX9_lights 9 = .ok (.ireturn, 1) := by decide +kernel
theorem dX9_lights_10 : decode cX9_lights 10 = .ok (.aload_n 0, 1) := by decide +kernel
theorem dX9_lights_11 : decode cX9_lights 11 = .ok (.getfield 7, 3) := by decide +kernel
theorem dX9_lights_14 : decode cX9_lights 14 = .ok (.iconst 2, 1) := by decide +kernel
theorem dX9_lights_15 : decode cX9_lights 15 = .ok (.iaload, 1) := by decide +kernel
theorem dX9_lights_16 : decode cX9_lights 16 = .ok (.iload_n 1, 1) := by decide +kernel
theorem dX9_lights_17 : decode cX9_lights 17 = .ok (.invokestatic 143, 3) := by decide +kernel
theorem dX9_lights_20 : decode cX9_lights 20 = .ok (.iload_n 2, 1) := by decide +kernel
theorem dX9_lights_21 : decode cX9_lights 21 = .ok (.if_icmp .ne 6, 3) := by decide +kernel
theorem dX9_lights_24 : decode cX9_lights 24 = .ok (.bipush (-4), 2) := by decide +kernel
theorem dX9_lights_26 : decode cX9_lights 26 = .ok (.ireturn, 1) := by decide +kernel
theorem dX9_lights_27 : decode cX9_lights 27 = .ok (.aload_n 0, 1) := by decide +kernel
theorem dX9_lights_28 : decode cX9_lights 28 = .ok (.getfield 7, 3) := by decide +kernel
theorem dX9_lights_31 : decode cX9_lights 31 = .ok (.bipush 43, 2) := by decide +kernel
theorem dX9_lights_33 : decode cX9_lights 33 = .ok (.iaload, 1) := by decide +kernel
theorem dX9_lights_34 : decode cX9_lights 34 = .ok (.bipush 40, 2) := by decide +kernel
theorem dX9_lights_36 : decode cX9_lights 36 = .ok (.if_icmp .ne 6, 3) := by decide +kernel
theorem dX9_lights_39 : decode cX9_lights 39 = .ok (.bipush (-2), 2) := by decide +kernel
theorem dX9_lights_41 : decode cX9_lights 41 = .ok (.ireturn, 1) := by decide +kernel
theorem dX9_lights_42 : decode cX9_lights 42 = .ok (.aload_n 0, 1) := by decide +kernel
theorem dX9_lights_43 : decode cX9_lights 43 = .ok (.invokevirtual 146, 3) := by decide +kernel
theorem dX9_lights_46 : decode cX9_lights 46 = .ok (.aload_n 0, 1) := by decide +kernel
theorem dX9_lights_47 : decode cX9_lights 47 = .ok (.getfield 7, 3) := by decide +kernel
theorem dX9_lights_50 : decode cX9_lights 50 = .ok (.iconst 2, 1) := by decide +kernel
theorem dX9_lights_51 : decode cX9_lights 51 = .ok (.dup2, 1) := by decide +kernel
theorem dX9_lights_52 : decode cX9_lights 52 = .ok (.iaload, 1) := by decide +kernel
theorem dX9_lights_53 : decode cX9_lights 53 = .ok (.iconst 1, 1) := by decide +kernel
theorem dX9_lights_54 : decode cX9_lights 54 = .ok (.iload_n 1, 1) := by decide +kernel
theorem dX9_lights_55 : decode cX9_lights 55 = .ok (.ishl, 1) := by decide +kernel
theorem dX9_lights_56 : decode cX9_lights 56 = .ok (.ixor, 1) := by decide +kernel
theorem dX9_lights_57 : decode cX9_lights 57 = .ok (.iastore, 1) := by decide +kernel
theorem dX9_lights_58 : decode cX9_lights 58 = .ok (.aload_n 0, 1) := by decide +kernel
theorem dX9_lights_59 : decode cX9_lights 59 = .ok (.iload_n 1, 1) := by decide +kernel
theorem dX9_lights_60 : decode cX9_lights 60 = .ok (.aload_n 0, 1) := by decide +kernel
theorem dX9_lights_61 : decode cX9_lights 61 = .ok (.getfield 7, 3) := by decide +kernel
theorem dX9_lights_64 : decode cX9_lights 64 = .ok (.iconst 1, 1) := by decide +kernel
theorem dX9_lights_65 : decode cX9_lights 65 = .ok (.iaload, 1) := by decide +kernel
theorem dX9_lights_66 : decode cX9_lights 66 = .ok (.invokevirtual 135, 3) := by decide +kernel
theorem dX9_lights_69 : decode cX9_lights 69 = .ok (.ireturn, 1) := by decide +kernel
theorem dX9_answer_0 : decode cX9_answer 0 = .ok (.aload_n 0, 1) := by decide +kernel
theorem dX9_answer_1 : decode cX9_answer 1 = .ok (.iload_n 1, 1) := by decide +kernel
theorem dX9_answer_2 : decode cX9_answer 2 = .ok (.iconst 0, 1) := by decide +kernel
theorem dX9_answer_3 : decode cX9_answer 3 = .ok (.invokevirtual 152, 3) := by decide +kernel
theorem dX9_answer_6 : decode cX9_answer 6 = .ok (.ireturn, 1) := by decide +kernel
theorem dX9_relight_0 : decode cX9_relight 0 = .ok (.aload_n 0, 1) := by decide +kernel
theorem dX9_relight_1 : decode cX9_relight 1 = .ok (.iload_n 1, 1) := by decide +kernel
theorem dX9_relight_2 : decode cX9_relight 2 = .ok (.iconst 1, 1) := by decide +kernel
theorem dX9_relight_3 : decode cX9_relight 3 = .ok (.invokevirtual 152, 3) := by decide +kernel
theorem dX9_relight_6 : decode cX9_relight 6 = .ok (.ireturn, 1) := by decide +kernel
theorem dX9_carry_0 : decode cX9_carry 0 = .ok (.aload_n 0, 1) := by decide +kernel
theorem dX9_carry_1 : decode cX9_carry 1 = .ok (.iload_n 1, 1) := by decide +kernel
theorem dX9_carry_2 : decode cX9_carry 2 = .ok (.invokevirtual 127, 3) := by decide +kernel
theorem dX9_carry_5 : decode cX9_carry 5 = .ok (.ifCond .eq 10, 3) := by decide +kernel
theorem dX9_carry_8 : decode cX9_carry 8 = .ok (.iload_n 2, 1) := by decide +kernel
theorem dX9_carry_9 : decode cX9_carry 9 = .ok (.invokestatic 156, 3) := by decide +kernel
theorem dX9_carry_12 : decode cX9_carry 12 = .ok (.ifCond .ne 5, 3) := by decide +kernel
theorem dX9_carry_15 : decode cX9_carry 15 = .ok (.iconst (-1), 1) := by decide +kernel
theorem dX9_carry_16 : decode cX9_carry 16 = .ok (.ireturn, 1) := by decide +kernel
theorem dX9_carry_17 : decode cX9_carry 17 = .ok (.aload_n 0, 1) := by decide +kernel
theorem dX9_carry_18 : decode cX9_carry 18 = .ok (.getfield 7, 3) := by decide +kernel
theorem dX9_carry_21 : decode cX9_carry 21 = .ok (.iconst 3, 1) := by decide +kernel
theorem dX9_carry_22 : decode cX9_carry 22 = .ok (.iload_n 1, 1) := by decide +kernel
theorem dX9_carry_23 : decode cX9_carry 23 = .ok (.iadd, 1) := by decide +kernel
theorem dX9_carry_24 : decode cX9_carry 24 = .ok (.iaload, 1) := by decide +kernel
theorem dX9_carry_25 : decode cX9_carry 25 = .ok (.istore_n 3, 1) := by decide +kernel
theorem dX9_carry_26 : decode cX9_carry 26 = .ok (.iload_n 3, 1) := by decide +kernel
theorem dX9_carry_27 : decode cX9_carry 27 = .ok (.iload_n 2, 1) := by decide +kernel
theorem dX9_carry_28 : decode cX9_carry 28 = .ok (.if_icmp .ne 6, 3) := by decide +kernel
theorem dX9_carry_31 : decode cX9_carry 31 = .ok (.bipush (-4), 2) := by decide +kernel
theorem dX9_carry_33 : decode cX9_carry 33 = .ok (.ireturn, 1) := by decide +kernel
theorem dX9_carry_34 : decode cX9_carry 34 = .ok (.aload_n 0, 1) := by decide +kernel
theorem dX9_carry_35 : decode cX9_carry 35 = .ok (.getfield 7, 3) := by decide +kernel
theorem dX9_carry_38 : decode cX9_carry 38 = .ok (.bipush 43, 2) := by decide +kernel
theorem dX9_carry_40 : decode cX9_carry 40 = .ok (.iaload, 1) := by decide +kernel
theorem dX9_carry_41 : decode cX9_carry 41 = .ok (.bipush 40, 2) := by decide +kernel
theorem dX9_carry_43 : decode cX9_carry 43 = .ok (.if_icmp .ne 6, 3) := by decide +kernel
theorem dX9_carry_46 : decode cX9_carry 46 = .ok (.bipush (-2), 2) := by decide +kernel
theorem dX9_carry_48 : decode cX9_carry 48 = .ok (.ireturn, 1) := by decide +kernel
theorem dX9_carry_49 : decode cX9_carry 49 = .ok (.aload_n 0, 1) := by decide +kernel
theorem dX9_carry_50 : decode cX9_carry 50 = .ok (.invokevirtual 146, 3) := by decide +kernel
theorem dX9_carry_53 : decode cX9_carry 53 = .ok (.aload_n 0, 1) := by decide +kernel
theorem dX9_carry_54 : decode cX9_carry 54 = .ok (.getfield 7, 3) := by decide +kernel
theorem dX9_carry_57 : decode cX9_carry 57 = .ok (.iconst 3, 1) := by decide +kernel
theorem dX9_carry_58 : decode cX9_carry 58 = .ok (.iload_n 1, 1) := by decide +kernel
theorem dX9_carry_59 : decode cX9_carry 59 = .ok (.iadd, 1) := by decide +kernel
theorem dX9_carry_60 : decode cX9_carry 60 = .ok (.iload_n 2, 1) := by decide +kernel
theorem dX9_carry_61 : decode cX9_carry 61 = .ok (.iastore, 1) := by decide +kernel
theorem dX9_carry_62 : decode cX9_carry 62 = .ok (.iload_n 3, 1) := by decide +kernel
theorem dX9_carry_63 : decode cX9_carry 63 = .ok (.ireturn, 1) := by decide +kernel
theorem dX9_undo_0 : decode cX9_undo 0 = .ok (.iload_n 1, 1) := by decide +kernel
theorem dX9_undo_1 : decode cX9_undo 1 = .ok (.i2l, 1) := by decide +kernel
theorem dX9_undo_2 : decode cX9_undo 2 = .ok (.lconst 0, 1) := by decide +kernel
theorem dX9_undo_3 : decode cX9_undo 3 = .ok (.aload_n 0, 1) := by decide +kernel
theorem dX9_undo_4 : decode cX9_undo 4 = .ok (.getfield 7, 3) := by decide +kernel
theorem dX9_undo_7 : decode cX9_undo 7 = .ok (.bipush 43, 2) := by decide +kernel
theorem dX9_undo_9 : decode cX9_undo 9 = .ok (.iaload, 1) := by decide +kernel
theorem dX9_undo_10 : decode cX9_undo 10 = .ok (.i2l, 1) := by decide +kernel
theorem dX9_undo_11 : decode cX9_undo 11 = .ok (.invokestatic 62, 3) := by decide +kernel
theorem dX9_undo_14 : decode cX9_undo 14 = .ok (.ifCond .ne 5, 3) := by decide +kernel
theorem dX9_undo_17 : decode cX9_undo 17 = .ok (.iconst (-1), 1) := by decide +kernel
theorem dX9_undo_18 : decode cX9_undo 18 = .ok (.ireturn, 1) := by decide +kernel
theorem dX9_undo_19 : decode cX9_undo 19 = .ok (.aload_n 0, 1) := by decide +kernel
theorem dX9_undo_20 : decode cX9_undo 20 = .ok (.getfield 7, 3) := by decide +kernel
theorem dX9_undo_23 : decode cX9_undo 23 = .ok (.bipush 43, 2) := by decide +kernel
theorem dX9_undo_25 : decode cX9_undo 25 = .ok (.iaload, 1) := by decide +kernel
theorem dX9_undo_26 : decode cX9_undo 26 = .ok (.iload_n 1, 1) := by decide +kernel
theorem dX9_undo_27 : decode cX9_undo 27 = .ok (.isub, 1) := by decide +kernel
theorem dX9_undo_28 : decode cX9_undo 28 = .ok (.istore_n 2, 1) := by decide +kernel
theorem dX9_undo_29 : decode cX9_undo 29 = .ok (.iload_n 2, 1) := by decide +kernel
theorem dX9_undo_30 : decode cX9_undo 30 = .ok (.ifCond .le 81, 3) := by decide +kernel
theorem dX9_undo_33 : decode cX9_undo 33 = .ok (.bipush 44, 2) := by decide +kernel
theorem dX9_undo_35 : decode cX9_undo 35 = .ok (.bipush 10, 2) := by decide +kernel
theorem dX9_undo_37 : decode cX9_undo 37 = .ok (.iload_n 1, 1) := by decide +kernel
theorem dX9_undo_38 : decode cX9_undo 38 = .ok (.imul, 1) := by decide +kernel
theorem dX9_undo_39 : decode cX9_undo 39 = .ok (.iadd, 1) := by decide +kernel
theorem dX9_undo_40 : decode cX9_undo 40 = .ok (.istore_n 3, 1) := by decide +kernel
theorem dX9_undo_41 : decode cX9_undo 41 = .ok (.aload_n 0, 1) := by decide +kernel
theorem dX9_undo_42 : decode cX9_undo 42 = .ok (.getfield 7, 3) := by decide +kernel
theorem dX9_undo_45 : decode cX9_undo 45 = .ok (.iconst 1, 1) := by decide +kernel
theorem dX9_undo_46 : decode cX9_undo 46 = .ok (.aload_n 0, 1) := by decide +kernel
theorem dX9_undo_47 : decode cX9_undo 47 = .ok (.getfield 7, 3) := by decide +kernel
theorem dX9_undo_50 : decode cX9_undo 50 = .ok (.iload_n 3, 1) := by decide +kernel
theorem dX9_undo_51 : decode cX9_undo 51 = .ok (.iaload, 1) := by decide +kernel
theorem dX9_undo_52 : decode cX9_undo 52 = .ok (.iastore, 1) := by decide +kernel
theorem dX9_undo_53 : decode cX9_undo 53 = .ok (.aload_n 0, 1) := by decide +kernel
theorem dX9_undo_54 : decode cX9_undo 54 = .ok (.getfield 7, 3) := by decide +kernel
theorem dX9_undo_57 : decode cX9_undo 57 = .ok (.iconst 2, 1) := by decide +kernel
theorem dX9_undo_58 : decode cX9_undo 58 = .ok (.aload_n 0, 1) := by decide +kernel
theorem dX9_undo_59 : decode cX9_undo 59 = .ok (.getfield 7, 3) := by decide +kernel
theorem dX9_undo_62 : decode cX9_undo 62 = .ok (.iload_n 3, 1) := by decide +kernel
theorem dX9_undo_63 : decode cX9_undo 63 = .ok (.iconst 1, 1) := by decide +kernel
theorem dX9_undo_64 : decode cX9_undo 64 = .ok (.iadd, 1) := by decide +kernel
theorem dX9_undo_65 : decode cX9_undo 65 = .ok (.iaload, 1) := by decide +kernel
theorem dX9_undo_66 : decode cX9_undo 66 = .ok (.iastore, 1) := by decide +kernel
theorem dX9_undo_67 : decode cX9_undo 67 = .ok (.iconst 0, 1) := by decide +kernel
theorem dX9_undo_68 : decode cX9_undo 68 = .ok (.istore 4, 2) := by decide +kernel
theorem dX9_undo_70 : decode cX9_undo 70 = .ok (.iload 4, 2) := by decide +kernel
theorem dX9_undo_72 : decode cX9_undo 72 = .ok (.bipush 8, 2) := by decide +kernel
theorem dX9_undo_74 : decode cX9_undo 74 = .ok (.if_icmp .ge 29, 3) := by decide +kernel
theorem dX9_undo_77 : decode cX9_undo 77 = .ok (.aload_n 0, 1) := by decide +kernel
theorem dX9_undo_78 : decode cX9_undo 78 = .ok (.getfield 7, 3) := by decide +kernel
theorem dX9_undo_81 : decode cX9_undo 81 = .ok (.iconst 3, 1) := by decide +kernel
theorem dX9_undo_82 : decode cX9_undo 82 = .ok (.iload 4, 2) := by decide +kernel
theorem dX9_undo_84 : decode cX9_undo 84 = .ok (.iadd, 1) := by decide +kernel
theorem dX9_undo_85 : decode cX9_undo 85 = .ok (.aload_n 0, 1) := by decide +kernel
theorem dX9_undo_86 : decode cX9_undo 86 = .ok (.getfield 7, 3) := by decide +kernel
theorem dX9_undo_89 : decode cX9_undo 89 = .ok (.iload_n 3, 1) := by decide +kernel
theorem dX9_undo_90 : decode cX9_undo 90 = .ok (.iconst 2, 1) := by decide +kernel
theorem dX9_undo_91 : decode cX9_undo 91 = .ok (.iadd, 1) := by decide +kernel
theorem dX9_undo_92 : decode cX9_undo 92 = .ok (.iload 4, 2) := by decide +kernel
theorem dX9_undo_94 : decode cX9_undo 94 = .ok (.iadd, 1) := by decide +kernel
theorem dX9_undo_95 : decode cX9_undo 95 = .ok (.iaload, 1) := by decide +kernel
theorem dX9_undo_96 : decode cX9_undo 96 = .ok (.iastore, 1) := by decide +kernel
theorem dX9_undo_97 : decode cX9_undo 97 = .ok (.iinc 4 1, 3) := by decide +kernel
theorem dX9_undo_100 : decode cX9_undo 100 = .ok (.goto (-30), 3) := by decide +kernel
theorem dX9_undo_103 : decode cX9_undo 103 = .ok (.aload_n 0, 1) := by decide +kernel
theorem dX9_undo_104 : decode cX9_undo 104 = .ok (.getfield 7, 3) := by decide +kernel
theorem dX9_undo_107 : decode cX9_undo 107 = .ok (.bipush 43, 2) := by decide +kernel
theorem dX9_undo_109 : decode cX9_undo 109 = .ok (.iload_n 1, 1) := by decide +kernel
theorem dX9_undo_110 : decode cX9_undo 110 = .ok (.iastore, 1) := by decide +kernel
theorem dX9_undo_111 : decode cX9_undo 111 = .ok (.iload_n 2, 1) := by decide +kernel
theorem dX9_undo_112 : decode cX9_undo 112 = .ok (.ireturn, 1) := by decide +kernel
theorem dX9_keep_0 : decode cX9_keep 0 = .ok (.iload_n 1, 1) := by decide +kernel
theorem dX9_keep_1 : decode cX9_keep 1 = .ok (.i2l, 1) := by decide +kernel
theorem dX9_keep_2 : decode cX9_keep 2 = .ok (.lconst 0, 1) := by decide +kernel
theorem dX9_keep_3 : decode cX9_keep 3 = .ok (.ldc2_w 159, 3) := by decide +kernel
theorem dX9_keep_6 : decode cX9_keep 6 = .ok (.invokestatic 62, 3) := by decide +kernel
theorem dX9_keep_9 : decode cX9_keep 9 = .ok (.ifCond .ne 5, 3) := by decide +kernel
theorem dX9_keep_12 : decode cX9_keep 12 = .ok (.iconst (-1), 1) := by decide +kernel
theorem dX9_keep_13 : decode cX9_keep 13 = .ok (.ireturn, 1) := by decide +kernel
theorem dX9_keep_14 : decode cX9_keep 14 = .ok (.aload_n 0, 1) := by decide +kernel
theorem dX9_keep_15 : decode cX9_keep 15 = .ok (.getfield 7, 3) := by decide +kernel
theorem dX9_keep_18 : decode cX9_keep 18 = .ok (.iconst 0, 1) := by decide +kernel
theorem dX9_keep_19 : decode cX9_keep 19 = .ok (.iaload, 1) := by decide +kernel
theorem dX9_keep_20 : decode cX9_keep 20 = .ok (.ifCond .ne 6, 3) := by decide +kernel
theorem dX9_keep_23 : decode cX9_keep 23 = .ok (.bipush (-4), 2) := by decide +kernel
theorem dX9_keep_25 : decode cX9_keep 25 = .ok (.ireturn, 1) := by decide +kernel
theorem dX9_keep_26 : decode cX9_keep 26 = .ok (.aload_n 0, 1) := by decide +kernel
theorem dX9_keep_27 : decode cX9_keep 27 = .ok (.iconst 0, 1) := by decide +kernel
theorem dX9_keep_28 : decode cX9_keep 28 = .ok (.sipush 444, 3) := by decide +kernel
theorem dX9_keep_31 : decode cX9_keep 31 = .ok (.sipush 444, 3) := by decide +kernel
theorem dX9_keep_34 : decode cX9_keep 34 = .ok (.iload_n 1, 1) := by decide +kernel
theorem dX9_keep_35 : decode cX9_keep 35 = .ok (.imul, 1) := by decide +kernel
theorem dX9_keep_36 : decode cX9_keep 36 = .ok (.iadd, 1) := by decide +kernel
theorem dX9_keep_37 : decode cX9_keep 37 = .ok (.invokevirtual 161, 3) := by decide +kernel
theorem dX9_keep_40 : decode cX9_keep 40 = .ok (.aload_n 0, 1) := by decide +kernel
theorem dX9_keep_41 : decode cX9_keep 41 = .ok (.getfield 7, 3) := by decide +kernel
theorem dX9_keep_44 : decode cX9_keep 44 = .ok (.bipush 43, 2) := by decide +kernel
theorem dX9_keep_46 : decode cX9_keep 46 = .ok (.iaload, 1) := by decide +kernel
theorem dX9_keep_47 : decode cX9_keep 47 = .ok (.ireturn, 1) := by decide +kernel
theorem dX9_on_0 : decode cX9_on 0 = .ok (.iload_n 1, 1) := by decide +kernel
theorem dX9_on_1 : decode cX9_on 1 = .ok (.i2l, 1) := by decide +kernel
theorem dX9_on_2 : decode cX9_on 2 = .ok (.lconst 0, 1) := by decide +kernel
theorem dX9_on_3 : decode cX9_on 3 = .ok (.ldc2_w 159, 3) := by decide +kernel
theorem dX9_on_6 : decode cX9_on 6 = .ok (.invokestatic 62, 3) := by decide +kernel
theorem dX9_on_9 : decode cX9_on 9 = .ok (.ifCond .ne 5, 3) := by decide +kernel
theorem dX9_on_12 : decode cX9_on 12 = .ok (.iconst (-1), 1) := by decide +kernel
theorem dX9_on_13 : decode cX9_on 13 = .ok (.ireturn, 1) := by decide +kernel
theorem dX9_on_14 : decode cX9_on 14 = .ok (.aload_n 0, 1) := by decide +kernel
theorem dX9_on_15 : decode cX9_on 15 = .ok (.getfield 7, 3) := by decide +kernel
theorem dX9_on_18 : decode cX9_on 18 = .ok (.sipush 444, 3) := by decide +kernel
theorem dX9_on_21 : decode cX9_on 21 = .ok (.sipush 444, 3) := by decide +kernel
theorem dX9_on_24 : decode cX9_on 24 = .ok (.iload_n 1, 1) := by decide +kernel
theorem dX9_on_25 : decode cX9_on 25 = .ok (.imul, 1) := by decide +kernel
theorem dX9_on_26 : decode cX9_on 26 = .ok (.iadd, 1) := by decide +kernel
theorem dX9_on_27 : decode cX9_on 27 = .ok (.iconst 0, 1) := by decide +kernel
theorem dX9_on_28 : decode cX9_on 28 = .ok (.iadd, 1) := by decide +kernel
theorem dX9_on_29 : decode cX9_on 29 = .ok (.iaload, 1) := by decide +kernel
theorem dX9_on_30 : decode cX9_on 30 = .ok (.ifCond .ne 9, 3) := by decide +kernel
theorem dX9_on_33 : decode cX9_on 33 = .ok (.aload_n 0, 1) := by decide +kernel
theorem dX9_on_34 : decode cX9_on 34 = .ok (.iconst 1, 1) := by decide +kernel
theorem dX9_on_35 : decode cX9_on 35 = .ok (.invokevirtual 74, 3) := by decide +kernel
theorem dX9_on_38 : decode cX9_on 38 = .ok (.ireturn, 1) := by decide +kernel
theorem dX9_on_39 : decode cX9_on 39 = .ok (.aload_n 0, 1) := by decide +kernel
theorem dX9_on_40 : decode cX9_on 40 = .ok (.sipush 444, 3) := by decide +kernel
theorem dX9_on_43 : decode cX9_on 43 = .ok (.sipush 444, 3) := by decide +kernel
theorem dX9_on_46 : decode cX9_on 46 = .ok (.iload_n 1, 1) := by decide +kernel
theorem dX9_on_47 : decode cX9_on 47 = .ok (.imul, 1) := by decide +kernel
theorem dX9_on_48 : decode cX9_on 48 = .ok (.iadd, 1) := by decide +kernel
theorem dX9_on_49 : decode cX9_on 49 = .ok (.iconst 0, 1) := by decide +kernel
theorem dX9_on_50 : decode cX9_on 50 = .ok (.invokevirtual 161, 3) := by decide +kernel
theorem dX9_on_53 : decode cX9_on 53 = .ok (.aload_n 0, 1) := by decide +kernel
theorem dX9_on_54 : decode cX9_on 54 = .ok (.getfield 7, 3) := by decide +kernel
theorem dX9_on_57 : decode cX9_on 57 = .ok (.bipush 43, 2) := by decide +kernel
theorem dX9_on_59 : decode cX9_on 59 = .ok (.iaload, 1) := by decide +kernel
theorem dX9_on_60 : decode cX9_on 60 = .ok (.ireturn, 1) := by decide +kernel
theorem dX9_size_0 : decode cX9_size 0 = .ok (.iload_n 0, 1) := by decide +kernel
theorem dX9_size_1 : decode cX9_size 1 = .ok (.ifCond .ge 8, 3) := by decide +kernel
theorem dX9_size_4 : decode cX9_size 4 = .ok (.iload_n 0, 1) := by decide +kernel
theorem dX9_size_5 : decode cX9_size 5 = .ok (.ineg, 1) := by decide +kernel
theorem dX9_size_6 : decode cX9_size 6 = .ok (.goto 4, 3) := by decide +kernel
theorem dX9_size_9 : decode cX9_size 9 = .ok (.iload_n 0, 1) := by decide +kernel
theorem dX9_size_10 : decode cX9_size 10 = .ok (.ireturn, 1) := by decide +kernel
theorem dX9_gives_0 : decode cX9_gives 0 = .ok (.aload_n 0, 1) := by decide +kernel
theorem dX9_gives_1 : decode cX9_gives 1 = .ok (.iload_n 1, 1) := by decide +kernel
theorem dX9_gives_2 : decode cX9_gives 2 = .ok (.iload 4, 2) := by decide +kernel
theorem dX9_gives_4 : decode cX9_gives 4 = .ok (.invokevirtual 135, 3) := by decide +kernel
theorem dX9_gives_7 : decode cX9_gives 7 = .ok (.iconst 2, 1) := by decide +kernel
theorem dX9_gives_8 : decode cX9_gives 8 = .ok (.iload_n 2, 1) := by decide +kernel
theorem dX9_gives_9 : decode cX9_gives 9 = .ok (.iload_n 3, 1) := by decide +kernel
theorem dX9_gives_10 : decode cX9_gives 10 = .ok (.isub, 1) := by decide +kernel
theorem dX9_gives_11 : decode cX9_gives 11 = .ok (.invokestatic 165, 3) := by decide +kernel
theorem dX9_gives_14 : decode cX9_gives 14 = .ok (.imul, 1) := by decide +kernel
theorem dX9_gives_15 : decode cX9_gives 15 = .ok (.isub, 1) := by decide +kernel
theorem dX9_gives_16 : decode cX9_gives 16 = .ok (.istore 5, 2) := by decide +kernel
theorem dX9_gives_18 : decode cX9_gives 18 = .ok (.iload 5, 2) := by decide +kernel
theorem dX9_gives_20 : decode cX9_gives 20 = .ok (.ifCond .ge 7, 3) := by decide +kernel
theorem dX9_gives_23 : decode cX9_gives 23 = .ok (.iconst 0, 1) := by decide +kernel
theorem dX9_gives_24 : decode cX9_gives 24 = .ok (.goto 5, 3) := by decide +kernel
theorem dX9_gives_27 : decode cX9_gives 27 = .ok (.iload 5, 2) := by decide +kernel
theorem dX9_gives_29 : decode cX9_gives 29 = .ok (.ireturn, 1) := by decide +kernel
theorem dX9_brightBy_0 : decode cX9_brightBy 0 = .ok (.iconst 0, 1) := by decide +kernel
theorem dX9_brightBy_1 : decode cX9_brightBy 1 = .ok (.istore 4, 2) := by decide +kernel
theorem dX9_brightBy_3 : decode cX9_brightBy 3 = .ok (.iconst 0, 1) := by decide +kernel
theorem dX9_brightBy_4 : decode cX9_brightBy 4 = .ok (.istore 5, 2) := by decide +kernel
theorem dX9_brightBy_6 : decode cX9_brightBy 6 = .ok (.iload 5, 2) := by decide +kernel
theorem dX9_brightBy_8 : decode cX9_brightBy 8 = .ok (.aload_n 0, 1) := by decide +kernel
theorem dX9_brightBy_9 : decode cX9_brightBy 9 = .ok (.getfield 7, 3) := by decide +kernel
theorem dX9_brightBy_12 : decode cX9_brightBy 12 = .ok (.iconst 0, 1) := by decide +kernel
theorem dX9_brightBy_13 : decode cX9_brightBy 13 = .ok (.iaload, 1) := by decide +kernel
theorem dX9_brightBy_14 : decode cX9_brightBy 14 = .ok (.if_icmp .ge 44, 3) := by decide +kernel
theorem dX9_brightBy_17 : decode cX9_brightBy 17 = .ok (.iload 4, 2) := by decide +kernel
theorem dX9_brightBy_19 : decode cX9_brightBy 19 = .ok (.iload_n 2, 1) := by decide +kernel
theorem dX9_brightBy_20 : decode cX9_brightBy 20 = .ok (.iload 5, 2) := by decide +kernel
theorem dX9_brightBy_22 : decode cX9_brightBy 22 = .ok (.invokestatic 143, 3) := by decide +kernel
theorem dX9_brightBy_25 : decode cX9_brightBy 25 = .ok (.ifCond .eq 23, 3) := by decide +kernel
theorem dX9_brightBy_28 : decode cX9_brightBy 28 = .ok (.aload_n 0, 1) := by decide +kernel
theorem dX9_brightBy_29 : decode cX9_brightBy 29 = .ok (.iload 5, 2) := by decide +kernel
theorem dX9_brightBy_31 : decode cX9_brightBy 31 = .ok (.aload_n 0, 1) := by decide +kernel
theorem dX9_brightBy_32 : decode cX9_brightBy 32 = .ok (.getfield 7, 3) := by decide +kernel
theorem dX9_brightBy_35 : decode cX9_brightBy 35 = .ok (.iconst 3, 1) := by decide +kernel
theorem dX9_brightBy_36 : decode cX9_brightBy 36 = .ok (.iload 5, 2) := by decide +kernel
theorem dX9_brightBy_38 : decode cX9_brightBy 38 = .ok (.iadd, 1) := by decide +kernel
theorem dX9_brightBy_39 : decode cX9_brightBy 39 = .ok (.iaload, 1) := by decide +kernel
theorem dX9_brightBy_40 : decode cX9_brightBy 40 = .ok (.iload_n 1, 1) := by decide +kernel
theorem dX9_brightBy_41 : decode cX9_brightBy 41 = .ok (.iload_n 3, 1) := by decide +kernel
theorem dX9_brightBy_42 : decode cX9_brightBy 42 = .ok (.invokevirtual 168, 3) := by decide +kernel
theorem dX9_brightBy_45 : decode cX9_brightBy 45 = .ok (.goto 4, 3) := by decide +kernel
theorem dX9_brightBy_48 : decode cX9_brightBy 48 = .ok (.iconst 0, 1) := by decide +kernel
theorem dX9_brightBy_49 : decode cX9_brightBy 49 = .ok (.iadd, 1) := by decide +kernel
theorem dX9_brightBy_50 : decode cX9_brightBy 50 = .ok (.istore 4, 2) := by decide +kernel
theorem dX9_brightBy_52 : decode cX9_brightBy 52 = .ok (.iinc 5 1, 3) := by decide +kernel
theorem dX9_brightBy_55 : decode cX9_brightBy 55 = .ok (.goto (-49), 3) := by decide +kernel
theorem dX9_brightBy_58 : decode cX9_brightBy 58 = .ok (.iload 4, 2) := by decide +kernel
theorem dX9_brightBy_60 : decode cX9_brightBy 60 = .ok (.ireturn, 1) := by decide +kernel
theorem dX9_brightNow_0 : decode cX9_brightNow 0 = .ok (.aload_n 0, 1) := by decide +kernel
theorem dX9_brightNow_1 : decode cX9_brightNow 1 = .ok (.iload_n 1, 1) := by decide +kernel
theorem dX9_brightNow_2 : decode cX9_brightNow 2 = .ok (.aload_n 0, 1) := by decide +kernel
theorem dX9_brightNow_3 : decode cX9_brightNow 3 = .ok (.getfield 7, 3) := by decide +kernel
theorem dX9_brightNow_6 : decode cX9_brightNow 6 = .ok (.iconst 2, 1) := by decide +kernel
theorem dX9_brightNow_7 : decode cX9_brightNow 7 = .ok (.iaload, 1) := by decide +kernel
theorem dX9_brightNow_8 : decode cX9_brightNow 8 = .ok (.aload_n 0, 1) := by decide +kernel
theorem dX9_brightNow_9 : decode cX9_brightNow 9 = .ok (.getfield 7, 3) := by decide +kernel
theorem dX9_brightNow_12 : decode cX9_brightNow 12 = .ok (.iconst 1, 1) := by decide +kernel
theorem dX9_brightNow_13 : decode cX9_brightNow 13 = .ok (.iaload, 1) := by decide +kernel
theorem dX9_brightNow_14 : decode cX9_brightNow 14 = .ok (.invokevirtual 172, 3) := by decide +kernel
theorem dX9_brightNow_17 : decode cX9_brightNow 17 = .ok (.ireturn, 1) := by decide +kernel
theorem dX9_alongNow_0 : decode cX9_alongNow 0 = .ok (.iconst 0, 1) := by decide +kernel
theorem dX9_alongNow_1 : decode cX9_alongNow 1 = .ok (.istore_n 3, 1) := by decide +kernel
theorem dX9_alongNow_2 : decode cX9_alongNow 2 = .ok (.iload_n 1, 1) := by decide +kernel
theorem dX9_alongNow_3 : decode cX9_alongNow 3 = .ok (.istore 4, 2) := by decide +kernel
theorem dX9_alongNow_5 : decode cX9_alongNow 5 = .ok (.iload 4, 2) := by decide +kernel
theorem dX9_alongNow_7 : decode cX9_alongNow 7 = .ok (.iload_n 2, 1) := by decide +kernel
theorem dX9_alongNow_8 : decode cX9_alongNow 8 = .ok (.if_icmp .gt 18, 3) := by decide +kernel
theorem dX9_alongNow_11 : decode cX9_alongNow 11 = .ok (.iload_n 3, 1) := by decide +kernel
theorem dX9_alongNow_12 : decode cX9_alongNow 12 = .ok (.aload_n 0, 1) := by decide +kernel
theorem dX9_alongNow_13 : decode cX9_alongNow 13 = .ok (.iload 4, 2) := by decide +kernel
theorem dX9_alongNow_15 : decode cX9_alongNow 15 = .ok (.invokevirtual 175, 3) := by decide +kernel
theorem dX9_alongNow_18 : decode cX9_alongNow 18 = .ok (.iadd, 1) := by decide +kernel
theorem dX9_alongNow_19 : decode cX9_alongNow 19 = .ok (.istore_n 3, 1) := by decide +kernel
theorem dX9_alongNow_20 : decode cX9_alongNow 20 = .ok (.iinc 4 1, 3) := by decide +kernel
theorem dX9_alongNow_23 : decode cX9_alongNow 23 = .ok (.goto (-18), 3) := by decide +kernel
theorem dX9_alongNow_26 : decode cX9_alongNow 26 = .ok (.iload_n 3, 1) := by decide +kernel
theorem dX9_alongNow_27 : decode cX9_alongNow 27 = .ok (.ireturn, 1) := by decide +kernel
theorem dX9_bright_0 : decode cX9_bright 0 = .ok (.iload_n 1, 1) := by decide +kernel
theorem dX9_bright_1 : decode cX9_bright 1 = .ok (.invokestatic 156, 3) := by decide +kernel
theorem dX9_bright_4 : decode cX9_bright 4 = .ok (.ifCond .eq 11, 3) := by decide +kernel
theorem dX9_bright_7 : decode cX9_bright 7 = .ok (.aload_n 0, 1) := by decide +kernel
theorem dX9_bright_8 : decode cX9_bright 8 = .ok (.iload_n 1, 1) := by decide +kernel
theorem dX9_bright_9 : decode cX9_bright 9 = .ok (.invokevirtual 175, 3) := by decide +kernel
theorem dX9_bright_12 : decode cX9_bright 12 = .ok (.goto 4, 3) := by decide +kernel
theorem dX9_bright_15 : decode cX9_bright 15 = .ok (.iconst (-1), 1) := by decide +kernel
theorem dX9_bright_16 : decode cX9_bright 16 = .ok (.ireturn, 1) := by decide +kernel
theorem dX9_along_0 : decode cX9_along 0 = .ok (.iload_n 1, 1) := by decide +kernel
theorem dX9_along_1 : decode cX9_along 1 = .ok (.invokestatic 156, 3) := by decide +kernel
theorem dX9_along_4 : decode cX9_along 4 = .ok (.ifCond .eq 25, 3) := by decide +kernel
theorem dX9_along_7 : decode cX9_along 7 = .ok (.iload_n 2, 1) := by decide +kernel
theorem dX9_along_8 : decode cX9_along 8 = .ok (.i2l, 1) := by decide +kernel
theorem dX9_along_9 : decode cX9_along 9 = .ok (.iload_n 1, 1) := by decide +kernel
theorem dX9_along_10 : decode cX9_along 10 = .ok (.i2l, 1) := by decide +kernel
theorem dX9_along_11 : decode cX9_along 11 = .ok (.ldc2_w 68, 3) := by decide +kernel
theorem dX9_along_14 : decode cX9_along 14 = .ok (.invokestatic 62, 3) := by decide +kernel
theorem dX9_along_17 : decode cX9_along 17 = .ok (.ifCond .eq 12, 3) := by decide +kernel
theorem dX9_along_20 : decode cX9_along 20 = .ok (.aload_n 0, 1) := by decide +kernel
theorem dX9_along_21 : decode cX9_along 21 = .ok (.iload_n 1, 1) := by decide +kernel
theorem dX9_along_22 : decode cX9_along 22 = .ok (.iload_n 2, 1) := by decide +kernel
theorem dX9_along_23 : decode cX9_along 23 = .ok (.invokevirtual 178, 3) := by decide +kernel
theorem dX9_along_26 : decode cX9_along 26 = .ok (.goto 4, 3) := by decide +kernel
theorem dX9_along_29 : decode cX9_along 29 = .ok (.iconst (-1), 1) := by decide +kernel
theorem dX9_along_30 : decode cX9_along 30 = .ok (.ireturn, 1) := by decide +kernel
theorem dX9_when_0 : decode cX9_when 0 = .ok (.iload_n 1, 1) := by decide +kernel
theorem dX9_when_1 : decode cX9_when 1 = .ok (.invokestatic 156, 3) := by decide +kernel
theorem dX9_when_4 : decode cX9_when 4 = .ok (.ifCond .eq 15, 3) := by decide +kernel
theorem dX9_when_7 : decode cX9_when 7 = .ok (.iload_n 2, 1) := by decide +kernel
theorem dX9_when_8 : decode cX9_when 8 = .ok (.i2l, 1) := by decide +kernel
theorem dX9_when_9 : decode cX9_when 9 = .ok (.lconst 0, 1) := by decide +kernel
theorem dX9_when_10 : decode cX9_when 10 = .ok (.ldc2_w 181, 3) := by decide +kernel
theorem dX9_when_13 : decode cX9_when 13 = .ok (.invokestatic 62, 3) := by decide +kernel
theorem dX9_when_16 : decode cX9_when 16 = .ok (.ifCond .ne 5, 3) := by decide +kernel
theorem dX9_when_19 : decode cX9_when 19 = .ok (.iconst (-1), 1) := by decide +kernel
theorem dX9_when_20 : decode cX9_when 20 = .ok (.ireturn, 1) := by decide +kernel
theorem dX9_when_21 : decode cX9_when 21 = .ok (.iconst 0, 1) := by decide +kernel
theorem dX9_when_22 : decode cX9_when 22 = .ok (.istore_n 3, 1) := by decide +kernel
theorem dX9_when_23 : decode cX9_when 23 = .ok (.iload_n 3, 1) := by decide +kernel
theorem dX9_when_24 : decode cX9_when 24 = .ok (.bipush 40, 2) := by decide +kernel
theorem dX9_when_26 : decode cX9_when 26 = .ok (.if_icmp .gt 44, 3) := by decide +kernel
theorem dX9_when_29 : decode cX9_when 29 = .ok (.aload_n 0, 1) := by decide +kernel
theorem dX9_when_30 : decode cX9_when 30 = .ok (.iload_n 1, 1) := by decide +kernel
theorem dX9_when_31 : decode cX9_when 31 = .ok (.aload_n 0, 1) := by decide +kernel
theorem dX9_when_32 : decode cX9_when 32 = .ok (.getfield 7, 3) := by decide +kernel
theorem dX9_when_35 : decode cX9_when 35 = .ok (.iconst 2, 1) := by decide +kernel
theorem dX9_when_36 : decode cX9_when 36 = .ok (.iaload, 1) := by decide +kernel
theorem dX9_when_37 : decode cX9_when 37 = .ok (.aload_n 0, 1) := by decide +kernel
theorem dX9_when_38 : decode cX9_when 38 = .ok (.getfield 7, 3) := by decide +kernel
theorem dX9_when_41 : decode cX9_when 41 = .ok (.iconst 1, 1) := by decide +kernel
theorem dX9_when_42 : decode cX9_when 42 = .ok (.iaload, 1) := by decide +kernel
theorem dX9_when_43 : decode cX9_when 43 = .ok (.iload_n 3, 1) := by decide +kernel
theorem dX9_when_44 : decode cX9_when 44 = .ok (.iadd, 1) := by decide +kernel
theorem dX9_when_45 : decode cX9_when 45 = .ok (.invokevirtual 172, 3) := by decide +kernel
theorem dX9_when_48 : decode cX9_when 48 = .ok (.istore 4, 2) := by decide +kernel
theorem dX9_when_50 : decode cX9_when 50 = .ok (.iload 4, 2) := by decide +kernel
theorem dX9_when_52 : decode cX9_when 52 = .ok (.iload_n 2, 1) := by decide +kernel
theorem dX9_when_53 : decode cX9_when 53 = .ok (.if_icmp .lt 11, 3) := by decide +kernel
theorem dX9_when_56 : decode cX9_when 56 = .ok (.aload_n 0, 1) := by decide +kernel
theorem dX9_when_57 : decode cX9_when 57 = .ok (.iload 4, 2) := by decide +kernel
theorem dX9_when_59 : decode cX9_when 59 = .ok (.putfield 57, 3) := by decide +kernel
theorem dX9_when_62 : decode cX9_when 62 = .ok (.iload_n 3, 1) := by decide +kernel
theorem dX9_when_63 : decode cX9_when 63 = .ok (.ireturn, 1) := by decide +kernel
theorem dX9_when_64 : decode cX9_when 64 = .ok (.iinc 3 1, 3) := by decide +kernel
theorem dX9_when_67 : decode cX9_when 67 = .ok (.goto (-44), 3) := by decide +kernel
theorem dX9_when_70 : decode cX9_when 70 = .ok (.bipush (-9), 2) := by decide +kernel
theorem dX9_when_72 : decode cX9_when 72 = .ok (.ireturn, 1) := by decide +kernel
theorem dX9_stow_0 : decode cX9_stow 0 = .ok (.aload_n 0, 1) := by decide +kernel
theorem dX9_stow_1 : decode cX9_stow 1 = .ok (.iload_n 1, 1) := by decide +kernel
theorem dX9_stow_2 : decode cX9_stow 2 = .ok (.invokevirtual 127, 3) := by decide +kernel
theorem dX9_stow_5 : decode cX9_stow 5 = .ok (.ifCond .eq 23, 3) := by decide +kernel
theorem dX9_stow_8 : decode cX9_stow 8 = .ok (.iload_n 2, 1) := by decide +kernel
theorem dX9_stow_9 : decode cX9_stow 9 = .ok (.invokestatic 156, 3) := by decide +kernel
theorem dX9_stow_12 : decode cX9_stow 12 = .ok (.ifCond .eq 16, 3) := by decide +kernel
theorem dX9_stow_15 : decode cX9_stow 15 = .ok (.iload_n 3, 1) := by decide +kernel
theorem dX9_stow_16 : decode cX9_stow 16 = .ok (.i2l, 1) := by decide +kernel
theorem dX9_stow_17 : decode cX9_stow 17 = .ok (.iload_n 2, 1) := by decide +kernel
theorem dX9_stow_18 : decode cX9_stow 18 = .ok (.i2l, 1) := by decide +kernel
theorem dX9_stow_19 : decode cX9_stow 19 = .ok (.ldc2_w 68, 3) := by decide +kernel
theorem dX9_stow_22 : decode cX9_stow 22 = .ok (.invokestatic 62, 3) := by decide +kernel
theorem dX9_stow_25 : decode cX9_stow 25 = .ok (.ifCond .ne 5, 3) := by decide +kernel
theorem dX9_stow_28 : decode cX9_stow 28 = .ok (.iconst (-1), 1) := by decide +kernel
theorem dX9_stow_29 : decode cX9_stow 29 = .ok (.ireturn, 1) := by decide +kernel
theorem dX9_stow_30 : decode cX9_stow 30 = .ok (.aload_n 0, 1) := by decide +kernel
theorem dX9_stow_31 : decode cX9_stow 31 = .ok (.getfield 7, 3) := by decide +kernel
theorem dX9_stow_34 : decode cX9_stow 34 = .ok (.iconst 3, 1) := by decide +kernel
theorem dX9_stow_35 : decode cX9_stow 35 = .ok (.iload_n 1, 1) := by decide +kernel
theorem dX9_stow_36 : decode cX9_stow 36 = .ok (.iadd, 1) := by decide +kernel
theorem dX9_stow_37 : decode cX9_stow 37 = .ok (.iaload, 1) := by decide +kernel
theorem dX9_stow_38 : decode cX9_stow 38 = .ok (.istore 4, 2) := by decide +kernel
theorem dX9_stow_40 : decode cX9_stow 40 = .ok (.iconst 0, 1) := by decide +kernel
theorem dX9_stow_41 : decode cX9_stow 41 = .ok (.istore 5, 2) := by decide +kernel
theorem dX9_stow_43 : decode cX9_stow 43 = .ok (.ldc 183, 2) := by decide +kernel
theorem dX9_stow_45 : decode cX9_stow 45 = .ok (.istore 6, 2) := by decide +kernel
theorem dX9_stow_47 : decode cX9_stow 47 = .ok (.iconst 0, 1) := by decide +kernel
theorem dX9_stow_48 : decode cX9_stow 48 = .ok (.istore 7, 2) := by decide +kernel
theorem dX9_stow_50 : decode cX9_stow 50 = .ok (.iload 7, 2) := by decide +kernel
theorem dX9_stow_52 : decode cX9_stow 52 = .ok (.bipush 10, 2) := by decide +kernel
theorem dX9_stow_54 : decode cX9_stow 54 = .ok (.if_icmp .ge 59, 3) := by decide +kernel
theorem dX9_stow_57 : decode cX9_stow 57 = .ok (.aload_n 0, 1) := by decide +kernel
theorem dX9_stow_58 : decode cX9_stow 58 = .ok (.getfield 7, 3) := by decide +kernel
theorem dX9_stow_61 : decode cX9_stow 61 = .ok (.iconst 3, 1) := by decide +kernel
theorem dX9_stow_62 : decode cX9_stow 62 = .ok (.iload_n 1, 1) := by decide +kernel
theorem dX9_stow_63 : decode cX9_stow 63 = .ok (.iadd, 1) := by decide +kernel
theorem dX9_stow_64 : decode cX9_stow 64 = .ok (.iload 7, 2) := by decide +kernel
theorem dX9_stow_66 : decode cX9_stow 66 = .ok (.iastore, 1) := by decide +kernel
theorem dX9_stow_67 : decode cX9_stow 67 = .ok (.aload_n 0, 1) := by decide +kernel
theorem dX9_stow_68 : decode cX9_stow 68 = .ok (.iload_n 2, 1) := by decide +kernel
theorem dX9_stow_69 : decode cX9_stow 69 = .ok (.iload_n 3, 1) := by decide +kernel
theorem dX9_stow_70 : decode cX9_stow 70 = .ok (.invokevirtual 178, 3) := by decide +kernel
theorem dX9_stow_73 : decode cX9_stow 73 = .ok (.istore 8, 2) := by decide +kernel
theorem dX9_stow_75 : decode cX9_stow 75 = .ok (.iload 8, 2) := by decide +kernel
theorem dX9_stow_77 : decode cX9_stow 77 = .ok (.iload 6, 2) := by decide +kernel
theorem dX9_stow_79 : decode cX9_stow 79 = .ok (.if_icmp .ge 8, 3) := by decide +kernel
theorem dX9_stow_82 : decode cX9_stow 82 = .ok (.iload 7, 2) := by decide +kernel
theorem dX9_stow_84 : decode cX9_stow 84 = .ok (.goto 5, 3) := by decide +kernel
theorem dX9_stow_87 : decode cX9_stow 87 = .ok (.iload 5, 2) := by decide +kernel
theorem dX9_stow_89 : decode cX9_stow 89 = .ok (.istore 5, 2) := by decide +kernel
theorem dX9_stow_91 : decode cX9_stow 91 = .ok (.iload 8, 2) := by decide +kernel
theorem dX9_stow_93 : decode cX9_stow 93 = .ok (.iload 6, 2) := by decide +kernel
theorem dX9_stow_95 : decode cX9_stow 95 = .ok (.if_icmp .ge 8, 3) := by decide +kernel
theorem dX9_stow_98 : decode cX9_stow 98 = .ok (.iload 8, 2) := by decide +kernel
theorem dX9_stow_100 : decode cX9_stow 100 = .ok (.goto 5, 3) := by decide +kernel
theorem dX9_stow_103 : decode cX9_stow 103 = .ok (.iload 6, 2) := by decide +kernel
theorem dX9_stow_105 : decode cX9_stow 105 = .ok (.istore 6, 2) := by decide +kernel
theorem dX9_stow_107 : decode cX9_stow 107 = .ok (.iinc 7 1, 3) := by decide +kernel
theorem dX9_stow_110 : decode cX9_stow 110 = .ok (.goto (-60), 3) := by decide +kernel
theorem dX9_stow_113 : decode cX9_stow 113 = .ok (.aload_n 0, 1) := by decide +kernel
theorem dX9_stow_114 : decode cX9_stow 114 = .ok (.getfield 7, 3) := by decide +kernel
theorem dX9_stow_117 : decode cX9_stow 117 = .ok (.iconst 3, 1) := by decide +kernel
theorem dX9_stow_118 : decode cX9_stow 118 = .ok (.iload_n 1, 1) := by decide +kernel
theorem dX9_stow_119 : decode cX9_stow 119 = .ok (.iadd, 1) := by decide +kernel
theorem dX9_stow_120 : decode cX9_stow 120 = .ok (.iload 4, 2) := by decide +kernel
theorem dX9_stow_122 : decode cX9_stow 122 = .ok (.iastore, 1) := by decide +kernel
theorem dX9_stow_123 : decode cX9_stow 123 = .ok (.aload_n 0, 1) := by decide +kernel
theorem dX9_stow_124 : decode cX9_stow 124 = .ok (.iload 6, 2) := by decide +kernel
theorem dX9_stow_126 : decode cX9_stow 126 = .ok (.putfield 57, 3) := by decide +kernel
theorem dX9_stow_129 : decode cX9_stow 129 = .ok (.iload 5, 2) := by decide +kernel
theorem dX9_stow_131 : decode cX9_stow 131 = .ok (.ireturn, 1) := by decide +kernel
theorem dX9_dark_0 : decode cX9_dark 0 = .ok (.iload_n 1, 1) := by decide +kernel
theorem dX9_dark_1 : decode cX9_dark 1 = .ok (.i2l, 1) := by decide +kernel
theorem dX9_dark_2 : decode cX9_dark 2 = .ok (.lconst 1, 1) := by decide +kernel
theorem dX9_dark_3 : decode cX9_dark 3 = .ok (.ldc2_w 184, 3) := by decide +kernel
theorem dX9_dark_6 : decode cX9_dark 6 = .ok (.invokestatic 62, 3) := by decide +kernel
theorem dX9_dark_9 : decode cX9_dark 9 = .ok (.ifCond .ne 5, 3) := by decide +kernel
theorem dX9_dark_12 : decode cX9_dark 12 = .ok (.iconst (-1), 1) := by decide +kernel
theorem dX9_dark_13 : decode cX9_dark 13 = .ok (.ireturn, 1) := by decide +kernel
theorem dX9_dark_14 : decode cX9_dark 14 = .ok (.aload_n 0, 1) := by decide +kernel
theorem dX9_dark_15 : decode cX9_dark 15 = .ok (.getfield 7, 3) := by decide +kernel
theorem dX9_dark_18 : decode cX9_dark 18 = .ok (.iconst 0, 1) := by decide +kernel
theorem dX9_dark_19 : decode cX9_dark 19 = .ok (.iaload, 1) := by decide +kernel
theorem dX9_dark_20 : decode cX9_dark 20 = .ok (.ifCond .ne 6, 3) := by decide +kernel
theorem dX9_dark_23 : decode cX9_dark 23 = .ok (.bipush (-4), 2) := by decide +kernel
theorem dX9_dark_25 : decode cX9_dark 25 = .ok (.ireturn, 1) := by decide +kernel
theorem dX9_dark_26 : decode cX9_dark 26 = .ok (.iconst 0, 1) := by decide +kernel
theorem dX9_dark_27 : decode cX9_dark 27 = .ok (.istore_n 2, 1) := by decide +kernel
theorem dX9_dark_28 : decode cX9_dark 28 = .ok (.ldc 183, 2) := by decide +kernel
theorem dX9_dark_30 : decode cX9_dark 30 = .ok (.istore_n 3, 1) := by decide +kernel
theorem dX9_dark_31 : decode cX9_dark 31 = .ok (.iconst 0, 1) := by decide +kernel
theorem dX9_dark_32 : decode cX9_dark 32 = .ok (.istore 4, 2) := by decide +kernel
theorem dX9_dark_34 : decode cX9_dark 34 = .ok (.iload 4, 2) := by decide +kernel
theorem dX9_dark_36 : decode cX9_dark 36 = .ok (.iload_n 1, 1) := by decide +kernel
theorem dX9_dark_37 : decode cX9_dark 37 = .ok (.iadd, 1) := by decide +kernel
theorem dX9_dark_38 : decode cX9_dark 38 = .ok (.bipush 10, 2) := by decide +kernel
theorem dX9_dark_40 : decode cX9_dark 40 = .ok (.if_icmp .gt 49, 3) := by decide +kernel
theorem dX9_dark_43 : decode cX9_dark 43 = .ok (.aload_n 0, 1) := by decide +kernel
theorem dX9_dark_44 : decode cX9_dark 44 = .ok (.iload 4, 2) := by decide +kernel
theorem dX9_dark_46 : decode cX9_dark 46 = .ok (.iload 4, 2) := by decide +kernel
theorem dX9_dark_48 : decode cX9_dark 48 = .ok (.iload_n 1, 1) := by decide +kernel
theorem dX9_dark_49 : decode cX9_dark 49 = .ok (.iadd, 1) := by decide +kernel
theorem dX9_dark_50 : decode cX9_dark 50 = .ok (.iconst 1, 1) := by decide +kernel
theorem dX9_dark_51 : decode cX9_dark 51 = .ok (.isub, 1) := by decide +kernel
theorem dX9_dark_52 : decode cX9_dark 52 = .ok (.invokevirtual 178, 3) := by decide +kernel
theorem dX9_dark_55 : decode cX9_dark 55 = .ok (.istore 5, 2) := by decide +kernel
theorem dX9_dark_57 : decode cX9_dark 57 = .ok (.iload 5, 2) := by decide +kernel
theorem dX9_dark_59 : decode cX9_dark 59 = .ok (.iload_n 3, 1) := by decide +kernel
theorem dX9_dark_60 : decode cX9_dark 60 = .ok (.if_icmp .ge 8, 3) := by decide +kernel
theorem dX9_dark_63 : decode cX9_dark 63 = .ok (.iload 4, 2) := by decide +kernel
theorem dX9_dark_65 : decode cX9_dark 65 = .ok (.goto 4, 3) := by decide +kernel
theorem dX9_dark_68 : decode cX9_dark 68 = .ok (.iload_n 2, 1) := by decide +kernel
theorem dX9_dark_69 : decode cX9_dark 69 = .ok (.istore_n 2, 1) := by decide +kernel
theorem dX9_dark_70 : decode cX9_dark 70 = .ok (.iload 5, 2) := by decide +kernel
theorem dX9_dark_72 : decode cX9_dark 72 = .ok (.iload_n 3, 1) := by decide +kernel
theorem dX9_dark_73 : decode cX9_dark 73 = .ok (.if_icmp .ge 8, 3) := by decide +kernel
theorem dX9_dark_76 : decode cX9_dark 76 = .ok (.iload 5, 2) := by decide +kernel
theorem dX9_dark_78 : decode cX9_dark 78 = .ok (.goto 4, 3) := by decide +kernel
theorem dX9_dark_81 : decode cX9_dark 81 = .ok (.iload_n 3, 1) := by decide +kernel
theorem dX9_dark_82 : decode cX9_dark 82 = .ok (.istore_n 3, 1) := by decide +kernel
theorem dX9_dark_83 : decode cX9_dark 83 = .ok (.iinc 4 1, 3) := by decide +kernel
theorem dX9_dark_86 : decode cX9_dark 86 = .ok (.goto (-52), 3) := by decide +kernel
theorem dX9_dark_89 : decode cX9_dark 89 = .ok (.aload_n 0, 1) := by decide +kernel
theorem dX9_dark_90 : decode cX9_dark 90 = .ok (.iload_n 3, 1) := by decide +kernel
theorem dX9_dark_91 : decode cX9_dark 91 = .ok (.putfield 57, 3) := by decide +kernel
theorem dX9_dark_94 : decode cX9_dark 94 = .ok (.iload_n 2, 1) := by decide +kernel
theorem dX9_dark_95 : decode cX9_dark 95 = .ok (.ireturn, 1) := by decide +kernel
theorem dX9_road_0 : decode cX9_road 0 = .ok (.aload_n 0, 1) := by decide +kernel
theorem dX9_road_1 : decode cX9_road 1 = .ok (.getfield 7, 3) := by decide +kernel
theorem dX9_road_4 : decode cX9_road 4 = .ok (.iconst 0, 1) := by decide +kernel
theorem dX9_road_5 : decode cX9_road 5 = .ok (.iaload, 1) := by decide +kernel
theorem dX9_road_6 : decode cX9_road 6 = .ok (.ifCond .ne 6, 3) := by decide +kernel
theorem dX9_road_9 : decode cX9_road 9 = .ok (.bipush (-4), 2) := by decide +kernel
theorem dX9_road_11 : decode cX9_road 11 = .ok (.ireturn, 1) := by decide +kernel
theorem dX9_road_12 : decode cX9_road 12 = .ok (.iconst 0, 1) := by decide +kernel
theorem dX9_road_13 : decode cX9_road 13 = .ok (.istore_n 1, 1) := by decide +kernel
theorem dX9_road_14 : decode cX9_road 14 = .ok (.iload_n 1, 1) := by decide +kernel
theorem dX9_road_15 : decode cX9_road 15 = .ok (.bipush 10, 2) := by decide +kernel
theorem dX9_road_17 : decode cX9_road 17 = .ok (.if_icmp .ge 20, 3) := by decide +kernel
theorem dX9_road_20 : decode cX9_road 20 = .ok (.aload_n 0, 1) := by decide +kernel
theorem dX9_road_21 : decode cX9_road 21 = .ok (.getfield 38, 3) := by decide +kernel
theorem dX9_road_24 : decode cX9_road 24 = .ok (.iload_n 1, 1) := by decide +kernel
theorem dX9_road_25 : decode cX9_road 25 = .ok (.aload_n 0, 1) := by decide +kernel
theorem dX9_road_26 : decode cX9_road 26 = .ok (.iload_n 1, 1) := by decide +kernel
theorem dX9_road_27 : decode cX9_road 27 = .ok (.invokevirtual 175, 3) := by decide +kernel
theorem dX9_road_30 : decode cX9_road 30 = .ok (.iastore, 1) := by decide +kernel
theorem dX9_road_31 : decode cX9_road 31 = .ok (.iinc 1 1, 3) := by decide +kernel
theorem dX9_road_34 : decode cX9_road 34 = .ok (.goto (-20), 3) := by decide +kernel
theorem dX9_road_37 : decode cX9_road 37 = .ok (.iconst 0, 1) := by decide +kernel
theorem dX9_road_38 : decode cX9_road 38 = .ok (.istore_n 1, 1) := by decide +kernel
theorem dX9_road_39 : decode cX9_road 39 = .ok (.ldc 183, 2) := by decide +kernel
theorem dX9_road_41 : decode cX9_road 41 = .ok (.istore_n 2, 1) := by decide +kernel
theorem dX9_road_42 : decode cX9_road 42 = .ok (.iconst 0, 1) := by decide +kernel
theorem dX9_road_43 : decode cX9_road 43 = .ok (.istore_n 3, 1) := by decide +kernel
theorem dX9_road_44 : decode cX9_road 44 = .ok (.iload_n 3, 1) := by decide +kernel
theorem dX9_road_45 : decode cX9_road 45 = .ok (.sipush 1024, 3) := by decide +kernel
theorem dX9_road_48 : decode cX9_road 48 = .ok (.if_icmp .ge 118, 3) := by decide +kernel
theorem dX9_road_51 : decode cX9_road 51 = .ok (.iconst 0, 1) := by decide +kernel
theorem dX9_road_52 : decode cX9_road 52 = .ok (.istore 4, 2) := by decide +kernel
theorem dX9_road_54 : decode cX9_road 54 = .ok (.iconst 0, 1) := by decide +kernel
theorem dX9_road_55 : decode cX9_road 55 = .ok (.istore 5, 2) := by decide +kernel
theorem dX9_road_57 : decode cX9_road 57 = .ok (.iload 5, 2) := by decide +kernel
theorem dX9_road_59 : decode cX9_road 59 = .ok (.bipush 10, 2) := by decide +kernel
theorem dX9_road_61 : decode cX9_road 61 = .ok (.if_icmp .ge 74, 3) := by decide +kernel
theorem dX9_road_64 : decode cX9_road 64 = .ok (.iload 4, 2) := by decide +kernel
theorem dX9_road_66 : decode cX9_road 66 = .ok (.iload_n 3, 1) := by decide +kernel
theorem dX9_road_67 : decode cX9_road 67 = .ok (.iload 5, 2) := by decide +kernel
theorem dX9_road_69 : decode cX9_road 69 = .ok (.invokestatic 143, 3) := by decide +kernel
theorem dX9_road_72 : decode cX9_road 72 = .ok (.ifCond .eq 15, 3) := by decide +kernel
theorem dX9_road_75 : decode cX9_road 75 = .ok (.aload_n 0, 1) := by decide +kernel
theorem dX9_road_76 : decode cX9_road 76 = .ok (.getfield 38, 3) := by decide +kernel
theorem dX9_road_79 : decode cX9_road 79 = .ok (.iload 5, 2) := by decide +kernel
theorem dX9_road_81 : decode cX9_road 81 = .ok (.iaload, 1) := by decide +kernel
theorem dX9_road_82 : decode cX9_road 82 = .ok (.iconst 2, 1) := by decide +kernel
theorem dX9_road_83 : decode cX9_road 83 = .ok (.idiv, 1) := by decide +kernel
theorem dX9_road_84 : decode cX9_road 84 = .ok (.goto 10, 3) := by decide +kernel
theorem dX9_road_87 : decode cX9_road 87 = .ok (.aload_n 0, 1) := by decide +kernel
theorem dX9_road_88 : decode cX9_road 88 = .ok (.getfield 38, 3) := by decide +kernel
theorem dX9_road_91 : decode cX9_road 91 = .ok (.iload 5, 2) := by decide +kernel
theorem dX9_road_93 : decode cX9_road 93 = .ok (.iaload, 1) := by decide +kernel
theorem dX9_road_94 : decode cX9_road 94 = .ok (.iadd, 1) := by decide +kernel
theorem dX9_road_95 : decode cX9_road 95 = .ok (.istore 4, 2) := by decide +kernel
theorem dX9_road_97 : decode cX9_road 97 = .ok (.iload 4, 2) := by decide +kernel
theorem dX9_road_99 : decode cX9_road 99 = .ok (.iload 5, 2) := by decide +kernel
theorem dX9_road_101 : decode cX9_road 101 = .ok (.ifCond .le 24, 3) := by decide +kernel
theorem dX9_road_104 : decode cX9_road 104 = .ok (.iload_n 3, 1) := by decide +kernel
theorem dX9_road_105 : decode cX9_road 105 = .ok (.iload 5, 2) := by decide +kernel
theorem dX9_road_107 : decode cX9_road 107 = .ok (.invokestatic 143, 3) := by decide +kernel
theorem dX9_road_110 : decode cX9_road 110 = .ok (.iload_n 3, 1) := by decide +kernel
theorem dX9_road_111 : decode cX9_road 111 = .ok (.iload 5, 2) := by decide +kernel
theorem dX9_road_113 : decode cX9_road 113 = .ok (.iconst 1, 1) := by decide +kernel
theorem dX9_road_114 : decode cX9_road 114 = .ok (.isub, 1) := by decide +kernel
theorem dX9_road_115 : decode cX9_road 115 = .ok (.invokestatic 143, 3) := by decide +kernel
theorem dX9_road_118 : decode cX9_road 118 = .ok (.if_icmp .eq 7, 3) := by decide +kernel
theorem dX9_road_121 : decode cX9_road 121 = .ok (.iconst 3, 1) := by decide +kernel
theorem dX9_road_122 : decode cX9_road 122 = .ok (.goto 4, 3) := by decide +kernel
theorem dX9_road_125 : decode cX9_road 125 = .ok (.iconst 0, 1) := by decide +kernel
theorem dX9_road_126 : decode cX9_road 126 = .ok (.iadd, 1) := by decide +kernel
theorem dX9_road_127 : decode cX9_road 127 = .ok (.istore 4, 2) := by decide +kernel
theorem dX9_road_129 : decode cX9_road 129 = .ok (.iinc 5 1, 3) := by decide +kernel
theorem dX9_road_132 : decode cX9_road 132 = .ok (.goto (-75), 3) := by decide +kernel
theorem dX9_road_135 : decode cX9_road 135 = .ok (.iload 4, 2) := by decide +kernel
theorem dX9_road_137 : decode cX9_road 137 = .ok (.iload_n 2, 1) := by decide +kernel
theorem dX9_road_138 : decode cX9_road 138 = .ok (.if_icmp .ge 7, 3) := by decide +kernel
theorem dX9_road_141 : decode cX9_road 141 = .ok (.iload_n 3, 1) := by decide +kernel
theorem dX9_road_142 : decode cX9_road 142 = .ok (.goto 4, 3) := by decide +kernel
theorem dX9_road_145 : decode cX9_road 145 = .ok (.iload_n 1, 1) := by decide +kernel
theorem dX9_road_146 : decode cX9_road 146 = .ok (.istore_n 1, 1) := by decide +kernel
theorem dX9_road_147 : decode cX9_road 147 = .ok (.iload 4, 2) := by decide +kernel
theorem dX9_road_149 : decode cX9_road 149 = .ok (.iload_n 2, 1) := by decide +kernel
theorem dX9_road_150 : decode cX9_road 150 = .ok (.if_icmp .ge 8, 3) := by decide +kernel
theorem dX9_road_153 : decode cX9_road 153 = .ok (.iload 4, 2) := by decide +kernel
theorem dX9_road_155 : decode cX9_road 155 = .ok (.goto 4, 3) := by decide +kernel
theorem dX9_road_158 : decode cX9_road 158 = .ok (.iload_n 2, 1) := by decide +kernel
theorem dX9_road_159 : decode cX9_road 159 = .ok (.istore_n 2, 1) := by decide +kernel
theorem dX9_road_160 : decode cX9_road 160 = .ok (.iinc 3 1, 3) := by decide +kernel
theorem dX9_road_163 : decode cX9_road 163 = .ok (.goto (-119), 3) := by decide +kernel
theorem dX9_road_166 : decode cX9_road 166 = .ok (.aload_n 0, 1) := by decide +kernel
theorem dX9_road_167 : decode cX9_road 167 = .ok (.iload_n 1, 1) := by decide +kernel
theorem dX9_road_168 : decode cX9_road 168 = .ok (.putfield 57, 3) := by decide +kernel
theorem dX9_road_171 : decode cX9_road 171 = .ok (.iload_n 2, 1) := by decide +kernel
theorem dX9_road_172 : decode cX9_road 172 = .ok (.ireturn, 1) := by decide +kernel
theorem dX9_isForged_0 : decode cX9_isForged 0 = .ok (.aload_n 0, 1) := by decide +kernel
theorem dX9_isForged_1 : decode cX9_isForged 1 = .ok (.getfield 7, 3) := by decide +kernel
theorem dX9_isForged_4 : decode cX9_isForged 4 = .ok (.bipush 11, 2) := by decide +kernel
theorem dX9_isForged_6 : decode cX9_isForged 6 = .ok (.iload_n 1, 1) := by decide +kernel
theorem dX9_isForged_7 : decode cX9_isForged 7 = .ok (.iadd, 1) := by decide +kernel
theorem dX9_isForged_8 : decode cX9_isForged 8 = .ok (.iaload, 1) := by decide +kernel
theorem dX9_isForged_9 : decode cX9_isForged 9 = .ok (.iconst 3, 1) := by decide +kernel
theorem dX9_isForged_10 : decode cX9_isForged 10 = .ok (.if_icmp .eq 16, 3) := by decide +kernel
theorem dX9_isForged_13 : decode cX9_isForged 13 = .ok (.aload_n 0, 1) := by decide +kernel
theorem dX9_isForged_14 : decode cX9_isForged 14 = .ok (.getfield 7, 3) := by decide +kernel
theorem dX9_isForged_17 : decode cX9_isForged 17 = .ok (.bipush 11, 2) := by decide +kernel
theorem dX9_isForged_19 : decode cX9_isForged 19 = .ok (.iload_n 1, 1) := by decide +kernel
theorem dX9_isForged_20 : decode cX9_isForged 20 = .ok (.iadd, 1) := by decide +kernel
theorem dX9_isForged_21 : decode cX9_isForged 21 = .ok (.iaload, 1) := by decide +kernel
theorem dX9_isForged_22 : decode cX9_isForged 22 = .ok (.iconst 5, 1) := by decide +kernel
theorem dX9_isForged_23 : decode cX9_isForged 23 = .ok (.if_icmp .ne 7, 3) := by decide +kernel
theorem dX9_isForged_26 : decode cX9_isForged 26 = .ok (.iconst 1, 1) := by decide +kernel
theorem dX9_isForged_27 : decode cX9_isForged 27 = .ok (.goto 4, 3) := by decide +kernel
theorem dX9_isForged_30 : decode cX9_isForged 30 = .ok (.iconst 0, 1) := by decide +kernel
theorem dX9_isForged_31 : decode cX9_isForged 31 = .ok (.ireturn, 1) := by decide +kernel
theorem dX9_debts_0 : decode cX9_debts 0 = .ok (.iconst 0, 1) := by decide +kernel
theorem dX9_debts_1 : decode cX9_debts 1 = .ok (.istore_n 1, 1) := by decide +kernel
theorem dX9_debts_2 : decode cX9_debts 2 = .ok (.iconst 0, 1) := by decide +kernel
theorem dX9_debts_3 : decode cX9_debts 3 = .ok (.istore_n 2, 1) := by decide +kernel
theorem dX9_debts_4 : decode cX9_debts 4 = .ok (.iload_n 2, 1) := by decide +kernel
theorem dX9_debts_5 : decode cX9_debts 5 = .ok (.aload_n 0, 1) := by decide +kernel
theorem dX9_debts_6 : decode cX9_debts 6 = .ok (.getfield 7, 3) := by decide +kernel
theorem dX9_debts_9 : decode cX9_debts 9 = .ok (.iconst 0, 1) := by decide +kernel
theorem dX9_debts_10 : decode cX9_debts 10 = .ok (.iaload, 1) := by decide +kernel
theorem dX9_debts_11 : decode cX9_debts 11 = .ok (.if_icmp .ge 40, 3) := by decide +kernel
theorem dX9_debts_14 : decode cX9_debts 14 = .ok (.iload_n 1, 1) := by decide +kernel
theorem dX9_debts_15 : decode cX9_debts 15 = .ok (.aload_n 0, 1) := by decide +kernel
theorem dX9_debts_16 : decode cX9_debts 16 = .ok (.getfield 7, 3) := by decide +kernel
theorem dX9_debts_19 : decode cX9_debts 19 = .ok (.iconst 2, 1) := by decide +kernel
theorem dX9_debts_20 : decode cX9_debts 20 = .ok (.iaload, 1) := by decide +kernel
theorem dX9_debts_21 : decode cX9_debts 21 = .ok (.iload_n 2, 1) := by decide +kernel
theorem dX9_debts_22 : decode cX9_debts 22 = .ok (.invokestatic 143, 3) := by decide +kernel
theorem dX9_debts_25 : decode cX9_debts 25 = .ok (.ifCond .eq 17, 3) := by decide +kernel
theorem dX9_debts_28 : decode cX9_debts 28 = .ok (.aload_n 0, 1) := by decide +kernel
theorem dX9_debts_29 : decode cX9_debts 29 = .ok (.iload_n 2, 1) := by decide +kernel
theorem dX9_debts_30 : decode cX9_debts 30 = .ok (.invokevirtual 186, 3) := by decide +kernel
theorem dX9_debts_33 : decode cX9_debts 33 = .ok (.ifCond .ne 9, 3) := by decide +kernel
theorem dX9_debts_36 : decode cX9_debts 36 = .ok (.iconst 1, 1) := by decide +kernel
theorem dX9_debts_37 : decode cX9_debts 37 = .ok (.iload_n 2, 1) := by decide +kernel
theorem dX9_debts_38 : decode cX9_debts 38 = .ok (.ishl, 1) := by decide +kernel
theorem dX9_debts_39 : decode cX9_debts 39 = .ok (.goto 4, 3) := by decide +kernel
theorem dX9_debts_42 : decode cX9_debts 42 = .ok (.iconst 0, 1) := by decide +kernel
theorem dX9_debts_43 : decode cX9_debts 43 = .ok (.ior, 1) := by decide +kernel
theorem dX9_debts_44 : decode cX9_debts 44 = .ok (.istore_n 1, 1) := by decide +kernel
theorem dX9_debts_45 : decode cX9_debts 45 = .ok (.iinc 2 1, 3) := by decide +kernel
theorem dX9_debts_48 : decode cX9_debts 48 = .ok (.goto (-44), 3) := by decide +kernel
theorem dX9_debts_51 : decode cX9_debts 51 = .ok (.iload_n 1, 1) := by decide +kernel
theorem dX9_debts_52 : decode cX9_debts 52 = .ok (.ireturn, 1) := by decide +kernel
theorem dX9_owesBy_0 : decode cX9_owesBy 0 = .ok (.iconst 0, 1) := by decide +kernel
theorem dX9_owesBy_1 : decode cX9_owesBy 1 = .ok (.istore_n 3, 1) := by decide +kernel
theorem dX9_owesBy_2 : decode cX9_owesBy 2 = .ok (.iconst 0, 1) := by decide +kernel
theorem dX9_owesBy_3 : decode cX9_owesBy 3 = .ok (.istore 4, 2) := by decide +kernel
theorem dX9_owesBy_5 : decode cX9_owesBy 5 = .ok (.iload 4, 2) := by decide +kernel
theorem dX9_owesBy_7 : decode cX9_owesBy 7 = .ok (.aload_n 0, 1) := by decide +kernel
theorem dX9_owesBy_8 : decode cX9_owesBy 8 = .ok (.getfield 7, 3) := by decide +kernel
theorem dX9_owesBy_11 : decode cX9_owesBy 11 = .ok (.iconst 0, 1) := by decide +kernel
theorem dX9_owesBy_12 : decode cX9_owesBy 12 = .ok (.iaload, 1) := by decide +kernel
theorem dX9_owesBy_13 : decode cX9_owesBy 13 = .ok (.if_icmp .ge 71, 3) := by decide +kernel
theorem dX9_owesBy_16 : decode cX9_owesBy 16 = .ok (.iload_n 3, 1) := by decide +kernel
theorem dX9_owesBy_17 : decode cX9_owesBy 17 = .ok (.iload_n 2, 1) := by decide +kernel
theorem dX9_owesBy_18 : decode cX9_owesBy 18 = .ok (.iload 4, 2) := by decide +kernel
theorem dX9_owesBy_20 : decode cX9_owesBy 20 = .ok (.invokestatic 143, 3) := by decide +kernel
theorem dX9_owesBy_23 : decode cX9_owesBy 23 = .ok (.ifCond .eq 21, 3) := by decide +kernel
theorem dX9_owesBy_26 : decode cX9_owesBy 26 = .ok (.aload_n 0, 1) := by decide +kernel
theorem dX9_owesBy_27 : decode cX9_owesBy 27 = .ok (.getfield 7, 3) := by decide +kernel
theorem dX9_owesBy_30 : decode cX9_owesBy 30 = .ok (.bipush 19, 2) := by decide +kernel
theorem dX9_owesBy_32 : decode cX9_owesBy 32 = .ok (.iload 4, 2) := by decide +kernel
theorem dX9_owesBy_34 : decode cX9_owesBy 34 = .ok (.iadd, 1) := by decide +kernel
theorem dX9_owesBy_35 : decode cX9_owesBy 35 = .ok (.iaload, 1) := by decide +kernel
theorem dX9_owesBy_36 : decode cX9_owesBy 36 = .ok (.iload_n 1, 1) := by decide +kernel
theorem dX9_owesBy_37 : decode cX9_owesBy 37 = .ok (.if_icmp .ne 7, 3) := by decide +kernel
theorem dX9_owesBy_40 : decode cX9_owesBy 40 = .ok (.iconst 1, 1) := by decide +kernel
theorem dX9_owesBy_41 : decode cX9_owesBy 41 = .ok (.goto 4, 3) := by decide +kernel
theorem dX9_owesBy_44 : decode cX9_owesBy 44 = .ok (.iconst 0, 1) := by decide +kernel
theorem dX9_owesBy_45 : decode cX9_owesBy 45 = .ok (.iadd, 1) := by decide +kernel
theorem dX9_owesBy_46 : decode cX9_owesBy 46 = .ok (.istore_n 3, 1) := by decide +kernel
theorem dX9_owesBy_47 : decode cX9_owesBy 47 = .ok (.iload_n 3, 1) := by decide +kernel
theorem dX9_owesBy_48 : decode cX9_owesBy 48 = .ok (.iload_n 2, 1) := by decide +kernel
theorem dX9_owesBy_49 : decode cX9_owesBy 49 = .ok (.iload 4, 2) := by decide +kernel
theorem dX9_owesBy_51 : decode cX9_owesBy 51 = .ok (.invokestatic 143, 3) := by decide +kernel
theorem dX9_owesBy_54 : decode cX9_owesBy 54 = .ok (.ifCond .eq 21, 3) := by decide +kernel
theorem dX9_owesBy_57 : decode cX9_owesBy 57 = .ok (.aload_n 0, 1) := by decide +kernel
theorem dX9_owesBy_58 : decode cX9_owesBy 58 = .ok (.getfield 7, 3) := by decide +kernel
theorem dX9_owesBy_61 : decode cX9_owesBy 61 = .ok (.bipush 27, 2) := by decide +kernel
theorem dX9_owesBy_63 : decode cX9_owesBy 63 = .ok (.iload 4, 2) := by decide +kernel
theorem dX9_owesBy_65 : decode cX9_owesBy 65 = .ok (.iadd, 1) := by decide +kernel
theorem dX9_owesBy_66 : decode cX9_owesBy 66 = .ok (.iaload, 1) := by decide +kernel
theorem dX9_owesBy_67 : decode cX9_owesBy 67 = .ok (.iload_n 1, 1) := by decide +kernel
theorem dX9_owesBy_68 : decode cX9_owesBy 68 = .ok (.if_icmp .ne 7, 3) := by decide +kernel
theorem dX9_owesBy_71 : decode cX9_owesBy 71 = .ok (.iconst 1, 1) := by decide +kernel
theorem dX9_owesBy_72 : decode cX9_owesBy 72 = .ok (.goto 4, 3) := by decide +kernel
theorem dX9_owesBy_75 : decode cX9_owesBy 75 = .ok (.iconst 0, 1) := by decide +kernel
theorem dX9_owesBy_76 : decode cX9_owesBy 76 = .ok (.isub, 1) := by decide +kernel
theorem dX9_owesBy_77 : decode cX9_owesBy 77 = .ok (.istore_n 3, 1) := by decide +kernel
theorem dX9_owesBy_78 : decode cX9_owesBy 78 = .ok (.iinc 4 1, 3) := by decide +kernel
theorem dX9_owesBy_81 : decode cX9_owesBy 81 = .ok (.goto (-76), 3) := by decide +kernel
theorem dX9_owesBy_84 : decode cX9_owesBy 84 = .ok (.iload_n 3, 1) := by decide +kernel
theorem dX9_owesBy_85 : decode cX9_owesBy 85 = .ok (.ireturn, 1) := by decide +kernel
theorem dX9_isRing_0 : decode cX9_isRing 0 = .ok (.iload_n 1, 1) := by decide +kernel
theorem dX9_isRing_1 : decode cX9_isRing 1 = .ok (.aload_n 0, 1) := by decide +kernel
theorem dX9_isRing_2 : decode cX9_isRing 2 = .ok (.invokevirtual 189, 3) := by decide +kernel
theorem dX9_isRing_5 : decode cX9_isRing 5 = .ok (.iconst (-1), 1) := by decide +kernel
theorem dX9_isRing_6 : decode cX9_isRing 6 = .ok (.ixor, 1) := by decide +kernel
theorem dX9_isRing_7 : decode cX9_isRing 7 = .ok (.iand, 1) := by decide +kernel
theorem dX9_isRing_8 : decode cX9_isRing 8 = .ok (.ifCond .ne 7, 3) := by decide +kernel
theorem dX9_isRing_11 : decode cX9_isRing 11 = .ok (.iconst 1, 1) := by decide +kernel
theorem dX9_isRing_12 : decode cX9_isRing 12 = .ok (.goto 4, 3) := by decide +kernel
theorem dX9_isRing_15 : decode cX9_isRing 15 = .ok (.iconst 0, 1) := by decide +kernel
theorem dX9_isRing_16 : decode cX9_isRing 16 = .ok (.istore_n 2, 1) := by decide +kernel
theorem dX9_isRing_17 : decode cX9_isRing 17 = .ok (.iconst 0, 1) := by decide +kernel
theorem dX9_isRing_18 : decode cX9_isRing 18 = .ok (.istore_n 3, 1) := by decide +kernel
theorem dX9_isRing_19 : decode cX9_isRing 19 = .ok (.iload_n 3, 1) := by decide +kernel
theorem dX9_isRing_20 : decode cX9_isRing 20 = .ok (.bipush 6, 2) := by decide +kernel
theorem dX9_isRing_22 : decode cX9_isRing 22 = .ok (.if_icmp .ge 28, 3) := by decide +kernel
theorem dX9_isRing_25 : decode cX9_isRing 25 = .ok (.iload_n 2, 1) := by decide +kernel
theorem dX9_isRing_26 : decode cX9_isRing 26 = .ok (.ifCond .eq 24, 3) := by decide +kernel
theorem dX9_isRing_29 : decode cX9_isRing 29 = .ok (.aload_n 0, 1) := by decide +kernel
theorem dX9_isRing_30 : decode cX9_isRing 30 = .ok (.iload_n 3, 1) := by decide +kernel
theorem dX9_isRing_31 : decode cX9_isRing 31 = .ok (.iload_n 1, 1) := by decide +kernel
theorem dX9_isRing_32 : decode cX9_isRing 32 = .ok (.invokevirtual 192, 3) := by decide +kernel
theorem dX9_isRing_35 : decode cX9_isRing 35 = .ok (.ifCond .ne 7, 3) := by decide +kernel
theorem dX9_isRing_38 : decode cX9_isRing 38 = .ok (.iconst 1, 1) := by decide +kernel
theorem dX9_isRing_39 : decode cX9_isRing 39 = .ok (.goto 4, 3) := by decide +kernel
theorem dX9_isRing_42 : decode cX9_isRing 42 = .ok (.iconst 0, 1) := by decide +kernel
theorem dX9_isRing_43 : decode cX9_isRing 43 = .ok (.istore_n 2, 1) := by decide +kernel
theorem dX9_isRing_44 : decode cX9_isRing 44 = .ok (.iinc 3 1, 3) := by decide +kernel
theorem dX9_isRing_47 : decode cX9_isRing 47 = .ok (.goto (-28), 3) := by decide +kernel
theorem dX9_isRing_50 : decode cX9_isRing 50 = .ok (.iload_n 2, 1) := by decide +kernel
theorem dX9_isRing_51 : decode cX9_isRing 51 = .ok (.ireturn, 1) := by decide +kernel
theorem dX9_owes_0 : decode cX9_owes 0 = .ok (.iload_n 1, 1) := by decide +kernel
theorem dX9_owes_1 : decode cX9_owes 1 = .ok (.i2l, 1) := by decide +kernel
theorem dX9_owes_2 : decode cX9_owes 2 = .ok (.lconst 0, 1) := by decide +kernel
theorem dX9_owes_3 : decode cX9_owes 3 = .ok (.ldc2_w 60, 3) := by decide +kernel
theorem dX9_owes_6 : decode cX9_owes 6 = .ok (.invokestatic 62, 3) := by decide +kernel
theorem dX9_owes_9 : decode cX9_owes 9 = .ok (.ifCond .eq 18, 3) := by decide +kernel
theorem dX9_owes_12 : decode cX9_owes 12 = .ok (.aload_n 0, 1) := by decide +kernel
theorem dX9_owes_13 : decode cX9_owes 13 = .ok (.iload_n 1, 1) := by decide +kernel
theorem dX9_owes_14 : decode cX9_owes 14 = .ok (.aload_n 0, 1) := by decide +kernel
theorem dX9_owes_15 : decode cX9_owes 15 = .ok (.invokevirtual 189, 3) := by decide +kernel
theorem dX9_owes_18 : decode cX9_owes 18 = .ok (.invokevirtual 192, 3) := by decide +kernel
theorem dX9_owes_21 : decode cX9_owes 21 = .ok (.bipush 100, 2) := by decide +kernel
theorem dX9_owes_23 : decode cX9_owes 23 = .ok (.iadd, 1) := by decide +kernel
theorem dX9_owes_24 : decode cX9_owes 24 = .ok (.goto 4, 3) := by decide +kernel
theorem dX9_owes_27 : decode cX9_owes 27 = .ok (.iconst (-1), 1) := by decide +kernel
theorem dX9_owes_28 : decode cX9_owes 28 = .ok (.ireturn, 1) := by decide +kernel
theorem dX9_ring_0 : decode cX9_ring 0 = .ok (.aload_n 0, 1) := by decide +kernel
theorem dX9_ring_1 : decode cX9_ring 1 = .ok (.getfield 7, 3) := by decide +kernel
theorem dX9_ring_4 : decode cX9_ring 4 = .ok (.iconst 0, 1) := by decide +kernel
theorem dX9_ring_5 : decode cX9_ring 5 = .ok (.iaload, 1) := by decide +kernel
theorem dX9_ring_6 : decode cX9_ring 6 = .ok (.ifCond .ne 6, 3) := by decide +kernel
theorem dX9_ring_9 : decode cX9_ring 9 = .ok (.bipush (-4), 2) := by decide +kernel
theorem dX9_ring_11 : decode cX9_ring 11 = .ok (.ireturn, 1) := by decide +kernel
theorem dX9_ring_12 : decode cX9_ring 12 = .ok (.iconst 0, 1) := by decide +kernel
theorem dX9_ring_13 : decode cX9_ring 13 = .ok (.istore_n 1, 1) := by decide +kernel
theorem dX9_ring_14 : decode cX9_ring 14 = .ok (.iconst 0, 1) := by decide +kernel
theorem dX9_ring_15 : decode cX9_ring 15 = .ok (.istore_n 2, 1) := by decide +kernel
theorem dX9_ring_16 : decode cX9_ring 16 = .ok (.iload_n 2, 1) := by decide +kernel
theorem dX9_ring_17 : decode cX9_ring 17 = .ok (.iconst 1, 1) := by decide +kernel
theorem dX9_ring_18 : decode cX9_ring 18 = .ok (.aload_n 0, 1) := by decide +kernel
theorem dX9_ring_19 : decode cX9_ring 19 = .ok (.getfield 7, 3) := by decide +kernel
theorem dX9_ring_22 : decode cX9_ring 22 = .ok (.iconst 0, 1) := by decide +kernel
theorem dX9_ring_23 : decode cX9_ring 23 = .ok (.iaload, 1) := by decide +kernel
theorem dX9_ring_24 : decode cX9_ring 24 = .ok (.ishl, 1) := by decide +kernel
theorem dX9_ring_25 : decode cX9_ring 25 = .ok (.if_icmp .ge 34, 3) := by decide +kernel
theorem dX9_ring_28 : decode cX9_ring 28 = .ok (.aload_n 0, 1) := by decide +kernel
theorem dX9_ring_29 : decode cX9_ring 29 = .ok (.iload_n 2, 1) := by decide +kernel
theorem dX9_ring_30 : decode cX9_ring 30 = .ok (.invokevirtual 195, 3) := by decide +kernel
theorem dX9_ring_33 : decode cX9_ring 33 = .ok (.ifCond .eq 18, 3) := by decide +kernel
theorem dX9_ring_36 : decode cX9_ring 36 = .ok (.iload_n 2, 1) := by decide +kernel
theorem dX9_ring_37 : decode cX9_ring 37 = .ok (.invokestatic 198, 3) := by decide +kernel
theorem dX9_ring_40 : decode cX9_ring 40 = .ok (.iload_n 1, 1) := by decide +kernel
theorem dX9_ring_41 : decode cX9_ring 41 = .ok (.invokestatic 198, 3) := by decide +kernel
theorem dX9_ring_44 : decode cX9_ring 44 = .ok (.if_icmp .le 7, 3) := by decide +kernel
theorem dX9_ring_47 : decode cX9_ring 47 = .ok (.iload_n 2, 1) := by decide +kernel
theorem dX9_ring_48 : decode cX9_ring 48 = .ok (.goto 4, 3) := by decide +kernel
theorem dX9_ring_51 : decode cX9_ring 51 = .ok (.iload_n 1, 1) := by decide +kernel
theorem dX9_ring_52 : decode cX9_ring 52 = .ok (.istore_n 1, 1) := by decide +kernel
theorem dX9_ring_53 : decode cX9_ring 53 = .ok (.iinc 2 1, 3) := by decide +kernel
theorem dX9_ring_56 : decode cX9_ring 56 = .ok (.goto (-40), 3) := by decide +kernel
theorem dX9_ring_59 : decode cX9_ring 59 = .ok (.aload_n 0, 1) := by decide +kernel
theorem dX9_ring_60 : decode cX9_ring 60 = .ok (.iload_n 1, 1) := by decide +kernel
theorem dX9_ring_61 : decode cX9_ring 61 = .ok (.putfield 57, 3) := by decide +kernel
theorem dX9_ring_64 : decode cX9_ring 64 = .ok (.iload_n 1, 1) := by decide +kernel
theorem dX9_ring_65 : decode cX9_ring 65 = .ok (.invokestatic 198, 3) := by decide +kernel
theorem dX9_ring_68 : decode cX9_ring 68 = .ok (.ireturn, 1) := by decide +kernel
theorem dX9_rings_0 : decode cX9_rings 0 = .ok (.aload_n 0, 1) := by decide +kernel
theorem dX9_rings_1 : decode cX9_rings 1 = .ok (.iload_n 1, 1) := by decide +kernel
theorem dX9_rings_2 : decode cX9_rings 2 = .ok (.invokevirtual 127, 3) := by decide +kernel
theorem dX9_rings_5 : decode cX9_rings 5 = .ok (.ifCond .ne 5, 3) := by decide +kernel
theorem dX9_rings_8 : decode cX9_rings 8 = .ok (.iconst (-1), 1) := by decide +kernel
theorem dX9_rings_9 : decode cX9_rings 9 = .ok (.ireturn, 1) := by decide +kernel
theorem dX9_rings_10 : decode cX9_rings 10 = .ok (.iconst 0, 1) := by decide +kernel
theorem dX9_rings_11 : decode cX9_rings 11 = .ok (.istore_n 2, 1) := by decide +kernel
theorem dX9_rings_12 : decode cX9_rings 12 = .ok (.iconst 0, 1) := by decide +kernel
theorem dX9_rings_13 : decode cX9_rings 13 = .ok (.istore_n 3, 1) := by decide +kernel
theorem dX9_rings_14 : decode cX9_rings 14 = .ok (.iload_n 3, 1) := by decide +kernel
theorem dX9_rings_15 : decode cX9_rings 15 = .ok (.iconst 1, 1) := by decide +kernel
theorem dX9_rings_16 : decode cX9_rings 16 = .ok (.aload_n 0, 1) := by decide +kernel
theorem dX9_rings_17 : decode cX9_rings 17 = .ok (.getfield 7, 3) := by decide +kernel
theorem dX9_rings_20 : decode cX9_rings 20 = .ok (.iconst 0, 1) := by decide +kernel
theorem dX9_rings_21 : decode cX9_rings 21 = .ok (.iaload, 1) := by decide +kernel
theorem dX9_rings_22 : decode cX9_rings 22 = .ok (.ishl, 1) := by decide +kernel
theorem dX9_rings_23 : decode cX9_rings 23 = .ok (.if_icmp .ge 33, 3) := by decide +kernel
theorem dX9_rings_26 : decode cX9_rings 26 = .ok (.iload_n 2, 1) := by decide +kernel
theorem dX9_rings_27 : decode cX9_rings 27 = .ok (.iload_n 3, 1) := by decide +kernel
theorem dX9_rings_28 : decode cX9_rings 28 = .ok (.iload_n 1, 1) := by decide +kernel
theorem dX9_rings_29 : decode cX9_rings 29 = .ok (.invokestatic 143, 3) := by decide +kernel
theorem dX9_rings_32 : decode cX9_rings 32 = .ok (.ifCond .eq 15, 3) := by decide +kernel
theorem dX9_rings_35 : decode cX9_rings 35 = .ok (.aload_n 0, 1) := by decide +kernel
theorem dX9_rings_36 : decode cX9_rings 36 = .ok (.iload_n 3, 1) := by decide +kernel
theorem dX9_rings_37 : decode cX9_rings 37 = .ok (.invokevirtual 195, 3) := by decide +kernel
theorem dX9_rings_40 : decode cX9_rings 40 = .ok (.ifCond .eq 7, 3) := by decide +kernel
theorem dX9_rings_43 : decode cX9_rings 43 = .ok (.iconst 1, 1) := by decide +kernel
theorem dX9_rings_44 : decode cX9_rings 44 = .ok (.goto 4, 3) := by decide +kernel
theorem dX9_rings_47 : decode cX9_rings 47 = .ok (.iconst 0, 1) := by decide +kernel
theorem dX9_rings_48 : decode cX9_rings 48 = .ok (.iadd, 1) := by decide +kernel
theorem dX9_rings_49 : decode cX9_rings 49 = .ok (.istore_n 2, 1) := by decide +kernel
theorem dX9_rings_50 : decode cX9_rings 50 = .ok (.iinc 3 1, 3) := by decide +kernel
theorem dX9_rings_53 : decode cX9_rings 53 = .ok (.goto (-39), 3) := by decide +kernel
theorem dX9_rings_56 : decode cX9_rings 56 = .ok (.iload_n 2, 1) := by decide +kernel
theorem dX9_rings_57 : decode cX9_rings 57 = .ok (.ireturn, 1) := by decide +kernel
theorem dX9_least_0 : decode cX9_least 0 = .ok (.aload_n 0, 1) := by decide +kernel
theorem dX9_least_1 : decode cX9_least 1 = .ok (.iload_n 1, 1) := by decide +kernel
theorem dX9_least_2 : decode cX9_least 2 = .ok (.invokevirtual 127, 3) := by decide +kernel
theorem dX9_least_5 : decode cX9_least 5 = .ok (.ifCond .ne 5, 3) := by decide +kernel
theorem dX9_least_8 : decode cX9_least 8 = .ok (.iconst (-1), 1) := by decide +kernel
theorem dX9_least_9 : decode cX9_least 9 = .ok (.ireturn, 1) := by decide +kernel
theorem dX9_least_10 : decode cX9_least 10 = .ok (.iconst 0, 1) := by decide +kernel
theorem dX9_least_11 : decode cX9_least 11 = .ok (.istore_n 2, 1) := by decide +kernel
theorem dX9_least_12 : decode cX9_least 12 = .ok (.iconst 0, 1) := by decide +kernel
theorem dX9_least_13 : decode cX9_least 13 = .ok (.istore_n 3, 1) := by decide +kernel
theorem dX9_least_14 : decode cX9_least 14 = .ok (.iload_n 3, 1) := by decide +kernel
theorem dX9_least_15 : decode cX9_least 15 = .ok (.iconst 1, 1) := by decide +kernel
theorem dX9_least_16 : decode cX9_least 16 = .ok (.aload_n 0, 1) := by decide +kernel
theorem dX9_least_17 : decode cX9_least 17 = .ok (.getfield 7, 3) := by decide +kernel
theorem dX9_least_20 : decode cX9_least 20 = .ok (.iconst 0, 1) := by decide +kernel
theorem dX9_least_21 : decode cX9_least 21 = .ok (.iaload, 1) := by decide +kernel
theorem dX9_least_22 : decode cX9_least 22 = .ok (.ishl, 1) := by decide +kernel
theorem dX9_least_23 : decode cX9_least 23 = .ok (.if_icmp .ge 46, 3) := by decide +kernel
theorem dX9_least_26 : decode cX9_least 26 = .ok (.iload_n 3, 1) := by decide +kernel
theorem dX9_least_27 : decode cX9_least 27 = .ok (.iload_n 1, 1) := by decide +kernel
theorem dX9_least_28 : decode cX9_least 28 = .ok (.invokestatic 143, 3) := by decide +kernel
theorem dX9_least_31 : decode cX9_least 31 = .ok (.ifCond .eq 30, 3) := by decide +kernel
theorem dX9_least_34 : decode cX9_least 34 = .ok (.aload_n 0, 1) := by decide +kernel
theorem dX9_least_35 : decode cX9_least 35 = .ok (.iload_n 3, 1) := by decide +kernel
theorem dX9_least_36 : decode cX9_least 36 = .ok (.invokevirtual 195, 3) := by decide +kernel
theorem dX9_least_39 : decode cX9_least 39 = .ok (.ifCond .eq 22, 3) := by decide +kernel
theorem dX9_least_42 : decode cX9_least 42 = .ok (.iload_n 2, 1) := by decide +kernel
theorem dX9_least_43 : decode cX9_least 43 = .ok (.ifCond .eq 14, 3) := by decide +kernel
theorem dX9_least_46 : decode cX9_least 46 = .ok (.iload_n 3, 1) := by decide +kernel
theorem dX9_least_47 : decode cX9_least 47 = .ok (.invokestatic 198, 3) := by decide +kernel
theorem dX9_least_50 : decode cX9_least 50 = .ok (.iload_n 2, 1) := by decide +kernel
theorem dX9_least_51 : decode cX9_least 51 = .ok (.invokestatic 198, 3) := by decide +kernel
theorem dX9_least_54 : decode cX9_least 54 = .ok (.if_icmp .ge 7, 3) := by decide +kernel
theorem dX9_least_57 : decode cX9_least 57 = .ok (.iload_n 3, 1) := by decide +kernel
theorem dX9_least_58 : decode cX9_least 58 = .ok (.goto 4, 3) := by decide +kernel
theorem dX9_least_61 : decode cX9_least 61 = .ok (.iload_n 2, 1) := by decide +kernel
theorem dX9_least_62 : decode cX9_least 62 = .ok (.istore_n 2, 1) := by decide +kernel
theorem dX9_least_63 : decode cX9_least 63 = .ok (.iinc 3 1, 3) := by decide +kernel
theorem dX9_least_66 : decode cX9_least 66 = .ok (.goto (-52), 3) := by decide +kernel
theorem dX9_least_69 : decode cX9_least 69 = .ok (.iload_n 2, 1) := by decide +kernel
theorem dX9_least_70 : decode cX9_least 70 = .ok (.ifCond .ne 6, 3) := by decide +kernel
theorem dX9_least_73 : decode cX9_least 73 = .ok (.bipush (-9), 2) := by decide +kernel
theorem dX9_least_75 : decode cX9_least 75 = .ok (.ireturn, 1) := by decide +kernel
theorem dX9_least_76 : decode cX9_least 76 = .ok (.aload_n 0, 1) := by decide +kernel
theorem dX9_least_77 : decode cX9_least 77 = .ok (.iload_n 2, 1) := by decide +kernel
theorem dX9_least_78 : decode cX9_least 78 = .ok (.putfield 57, 3) := by decide +kernel
theorem dX9_least_81 : decode cX9_least 81 = .ok (.iload_n 2, 1) := by decide +kernel
theorem dX9_least_82 : decode cX9_least 82 = .ok (.invokestatic 198, 3) := by decide +kernel
theorem dX9_least_85 : decode cX9_least 85 = .ok (.ireturn, 1) := by decide +kernel
theorem dX9_chain_0 : decode cX9_chain 0 = .ok (.iload_n 1, 1) := by decide +kernel
theorem dX9_chain_1 : decode cX9_chain 1 = .ok (.i2l, 1) := by decide +kernel
theorem dX9_chain_2 : decode cX9_chain 2 = .ok (.lconst 0, 1) := by decide +kernel
theorem dX9_chain_3 : decode cX9_chain 3 = .ok (.ldc2_w 60, 3) := by decide +kernel
theorem dX9_chain_6 : decode cX9_chain 6 = .ok (.invokestatic 62, 3) := by decide +kernel
theorem dX9_chain_9 : decode cX9_chain 9 = .ok (.ifCond .eq 22, 3) := by decide +kernel
theorem dX9_chain_12 : decode cX9_chain 12 = .ok (.iload_n 2, 1) := by decide +kernel
theorem dX9_chain_13 : decode cX9_chain 13 = .ok (.i2l, 1) := by decide +kernel
theorem dX9_chain_14 : decode cX9_chain 14 = .ok (.lconst 0, 1) := by decide +kernel
theorem dX9_chain_15 : decode cX9_chain 15 = .ok (.ldc2_w 60, 3) := by decide +kernel
theorem dX9_chain_18 : decode cX9_chain 18 = .ok (.invokestatic 62, 3) := by decide +kernel
theorem dX9_chain_21 : decode cX9_chain 21 = .ok (.ifCond .eq 10, 3) := by decide +kernel
theorem dX9_chain_24 : decode cX9_chain 24 = .ok (.iload_n 3, 1) := by decide +kernel
theorem dX9_chain_25 : decode cX9_chain 25 = .ok (.invokestatic 70, 3) := by decide +kernel
theorem dX9_chain_28 : decode cX9_chain 28 = .ok (.ifCond .ne 5, 3) := by decide +kernel
theorem dX9_chain_31 : decode cX9_chain 31 = .ok (.iconst (-1), 1) := by decide +kernel
theorem dX9_chain_32 : decode cX9_chain 32 = .ok (.ireturn, 1) := by decide +kernel
theorem dX9_chain_33 : decode cX9_chain 33 = .ok (.aload_n 0, 1) := by decide +kernel
theorem dX9_chain_34 : decode cX9_chain 34 = .ok (.invokevirtual 189, 3) := by decide +kernel
theorem dX9_chain_37 : decode cX9_chain 37 = .ok (.istore 4, 2) := by decide +kernel
theorem dX9_chain_39 : decode cX9_chain 39 = .ok (.iconst 0, 1) := by decide +kernel
theorem dX9_chain_40 : decode cX9_chain 40 = .ok (.istore 5, 2) := by decide +kernel
theorem dX9_chain_42 : decode cX9_chain 42 = .ok (.iload 5, 2) := by decide +kernel
theorem dX9_chain_44 : decode cX9_chain 44 = .ok (.bipush 6, 2) := by decide +kernel
theorem dX9_chain_46 : decode cX9_chain 46 = .ok (.if_icmp .ge 28, 3) := by decide +kernel
theorem dX9_chain_49 : decode cX9_chain 49 = .ok (.aload_n 0, 1) := by decide +kernel
theorem dX9_chain_50 : decode cX9_chain 50 = .ok (.getfield 41, 3) := by decide +kernel
theorem dX9_chain_53 : decode cX9_chain 53 = .ok (.iload 5, 2) := by decide +kernel
theorem dX9_chain_55 : decode cX9_chain 55 = .ok (.iload 5, 2) := by decide +kernel
theorem dX9_chain_57 : decode cX9_chain 57 = .ok (.iload_n 2, 1) := by decide +kernel
theorem dX9_chain_58 : decode cX9_chain 58 = .ok (.if_icmp .ne 7, 3) := by decide +kernel
theorem dX9_chain_61 : decode cX9_chain 61 = .ok (.iconst 0, 1) := by decide +kernel
theorem dX9_chain_62 : decode cX9_chain 62 = .ok (.goto 5, 3) := by decide +kernel
theorem dX9_chain_65 : decode cX9_chain 65 = .ok (.ldc 183, 2) := by decide +kernel
theorem dX9_chain_67 : decode cX9_chain 67 = .ok (.iastore, 1) := by decide +kernel
theorem dX9_chain_68 : decode cX9_chain 68 = .ok (.iinc 5 1, 3) := by decide +kernel
theorem dX9_chain_71 : decode cX9_chain 71 = .ok (.goto (-29), 3) := by decide +kernel
theorem dX9_chain_74 : decode cX9_chain 74 = .ok (.iconst 0, 1) := by decide +kernel
theorem dX9_chain_75 : decode cX9_chain 75 = .ok (.istore 5, 2) := by decide +kernel
theorem dX9_chain_77 : decode cX9_chain 77 = .ok (.iload 5, 2) := by decide +kernel
theorem dX9_chain_79 : decode cX9_chain 79 = .ok (.bipush 6, 2) := by decide +kernel
theorem dX9_chain_81 : decode cX9_chain 81 = .ok (.if_icmp .ge 106, 3) := by decide +kernel
theorem dX9_chain_84 : decode cX9_chain 84 = .ok (.iconst 0, 1) := by decide +kernel
theorem dX9_chain_85 : decode cX9_chain 85 = .ok (.istore 6, 2) := by decide +kernel
theorem dX9_chain_87 : decode cX9_chain 87 = .ok (.iload 6, 2) := by decide +kernel
theorem dX9_chain_89 : decode cX9_chain 89 = .ok (.aload_n 0, 1) := by decide +kernel
theorem dX9_chain_90 : decode cX9_chain 90 = .ok (.getfield 7, 3) := by decide +kernel
theorem dX9_chain_93 : decode cX9_chain 93 = .ok (.iconst 0, 1) := by decide +kernel
theorem dX9_chain_94 : decode cX9_chain 94 = .ok (.iaload, 1) := by decide +kernel
theorem dX9_chain_95 : decode cX9_chain 95 = .ok (.if_icmp .ge 86, 3) := by decide +kernel
theorem dX9_chain_98 : decode cX9_chain 98 = .ok (.iload 4, 2) := by decide +kernel
theorem dX9_chain_100 : decode cX9_chain 100 = .ok (.iload 6, 2) := by decide +kernel
theorem dX9_chain_102 : decode cX9_chain 102 = .ok (.invokestatic 143, 3) := by decide +kernel
theorem dX9_chain_105 : decode cX9_chain 105 = .ok (.ifCond .eq 70, 3) := by decide +kernel
theorem dX9_chain_108 : decode cX9_chain 108 = .ok (.aload_n 0, 1) := by decide +kernel
theorem dX9_chain_109 : decode cX9_chain 109 = .ok (.getfield 41, 3) := by decide +kernel
theorem dX9_chain_112 : decode cX9_chain 112 = .ok (.aload_n 0, 1) := by decide +kernel
theorem dX9_chain_113 : decode cX9_chain 113 = .ok (.getfield 7, 3) := by decide +kernel
theorem dX9_chain_116 : decode cX9_chain 116 = .ok (.bipush 27, 2) := by decide +kernel
theorem dX9_chain_118 : decode cX9_chain 118 = .ok (.iload 6, 2) := by decide +kernel
theorem dX9_chain_120 : decode cX9_chain 120 = .ok (.iadd, 1) := by decide +kernel
theorem dX9_chain_121 : decode cX9_chain 121 = .ok (.iaload, 1) := by decide +kernel
theorem dX9_chain_122 : decode cX9_chain 122 = .ok (.iaload, 1) := by decide +kernel
theorem dX9_chain_123 : decode cX9_chain 123 = .ok (.iconst 1, 1) := by decide +kernel
theorem dX9_chain_124 : decode cX9_chain 124 = .ok (.iadd, 1) := by decide +kernel
theorem dX9_chain_125 : decode cX9_chain 125 = .ok (.aload_n 0, 1) := by decide +kernel
theorem dX9_chain_126 : decode cX9_chain 126 = .ok (.getfield 41, 3) := by decide +kernel
theorem dX9_chain_129 : decode cX9_chain 129 = .ok (.aload_n 0, 1) := by decide +kernel
theorem dX9_chain_130 : decode cX9_chain 130 = .ok (.getfield 7, 3) := by decide +kernel
theorem dX9_chain_133 : decode cX9_chain 133 = .ok (.bipush 19, 2) := by decide +kernel
theorem dX9_chain_135 : decode cX9_chain 135 = .ok (.iload 6, 2) := by decide +kernel
theorem dX9_chain_137 : decode cX9_chain 137 = .ok (.iadd, 1) := by decide +kernel
theorem dX9_chain_138 : decode cX9_chain 138 = .ok (.iaload, 1) := by decide +kernel
theorem dX9_chain_139 : decode cX9_chain 139 = .ok (.iaload, 1) := by decide +kernel
theorem dX9_chain_140 : decode cX9_chain 140 = .ok (.if_icmp .ge 35, 3) := by decide +kernel
theorem dX9_chain_143 : decode cX9_chain 143 = .ok (.aload_n 0, 1) := by decide +kernel
theorem dX9_chain_144 : decode cX9_chain 144 = .ok (.getfield 41, 3) := by decide +kernel
theorem dX9_chain_147 : decode cX9_chain 147 = .ok (.aload_n 0, 1) := by decide +kernel
theorem dX9_chain_148 : decode cX9_chain 148 = .ok (.getfield 7, 3) := by decide +kernel
theorem dX9_chain_151 : decode cX9_chain 151 = .ok (.bipush 19, 2) := by decide +kernel
theorem dX9_chain_153 : decode cX9_chain 153 = .ok (.iload 6, 2) := by decide +kernel
theorem dX9_chain_155 : decode cX9_chain 155 = .ok (.iadd, 1) := by decide +kernel
theorem dX9_chain_156 : decode cX9_chain 156 = .ok (.iaload, 1) := by decide +kernel
theorem dX9_chain_157 : decode cX9_chain 157 = .ok (.aload_n 0, 1) := by decide +kernel
theorem dX9_chain_158 : decode cX9_chain 158 = .ok (.getfield 41, 3) := by decide +kernel
theorem dX9_chain_161 : decode cX9_chain 161 = .ok (.aload_n 0, 1) := by decide +kernel
theorem dX9_chain_162 : decode cX9_chain 162 = .ok (.getfield 7, 3) := by decide +kernel
theorem dX9_chain_165 : decode cX9_chain 165 = .ok (.bipush 27, 2) := by decide +kernel
theorem dX9_chain_167 : decode cX9_chain 167 = .ok (.iload 6, 2) := by decide +kernel
theorem dX9_chain_169 : decode cX9_chain 169 = .ok (.iadd, 1) := by decide +kernel
theorem dX9_chain_170 : decode cX9_chain 170 = .ok (.iaload, 1) := by decide +kernel
theorem dX9_chain_171 : decode cX9_chain 171 = .ok (.iaload, 1) := by decide +kernel
theorem dX9_chain_172 : decode cX9_chain 172 = .ok (.iconst 1, 1) := by decide +kernel
theorem dX9_chain_173 : decode cX9_chain 173 = .ok (.iadd, 1) := by decide +kernel
theorem dX9_chain_174 : decode cX9_chain 174 = .ok (.iastore, 1) := by decide +kernel
theorem dX9_chain_175 : decode cX9_chain 175 = .ok (.iinc 6 1, 3) := by decide +kernel
theorem dX9_chain_178 : decode cX9_chain 178 = .ok (.goto (-91), 3) := by decide +kernel
theorem dX9_chain_181 : decode cX9_chain 181 = .ok (.iinc 5 1, 3) := by decide +kernel
theorem dX9_chain_184 : decode cX9_chain 184 = .ok (.goto (-107), 3) := by decide +kernel
theorem dX9_chain_187 : decode cX9_chain 187 = .ok (.aload_n 0, 1) := by decide +kernel
theorem dX9_chain_188 : decode cX9_chain 188 = .ok (.getfield 41, 3) := by decide +kernel
theorem dX9_chain_191 : decode cX9_chain 191 = .ok (.iload_n 1, 1) := by decide +kernel
theorem dX9_chain_192 : decode cX9_chain 192 = .ok (.iaload, 1) := by decide +kernel
theorem dX9_chain_193 : decode cX9_chain 193 = .ok (.ldc 183, 2) := by decide +kernel
theorem dX9_chain_195 : decode cX9_chain 195 = .ok (.if_icmp .lt 6, 3) := by decide +kernel
theorem dX9_chain_198 : decode cX9_chain 198 = .ok (.bipush (-9), 2) := by decide +kernel
theorem dX9_chain_200 : decode cX9_chain 200 = .ok (.ireturn, 1) := by decide +kernel
theorem dX9_chain_201 : decode cX9_chain 201 = .ok (.aload_n 0, 1) := by decide +kernel
theorem dX9_chain_202 : decode cX9_chain 202 = .ok (.getfield 41, 3) := by decide +kernel
theorem dX9_chain_205 : decode cX9_chain 205 = .ok (.iload_n 1, 1) := by decide +kernel
theorem dX9_chain_206 : decode cX9_chain 206 = .ok (.iaload, 1) := by decide +kernel
theorem dX9_chain_207 : decode cX9_chain 207 = .ok (.istore 5, 2) := by decide +kernel
theorem dX9_chain_209 : decode cX9_chain 209 = .ok (.aload_n 0, 1) := by decide +kernel
theorem dX9_chain_210 : decode cX9_chain 210 = .ok (.iload_n 3, 1) := by decide +kernel
theorem dX9_chain_211 : decode cX9_chain 211 = .ok (.iload 5, 2) := by decide +kernel
theorem dX9_chain_213 : decode cX9_chain 213 = .ok (.invokevirtual 201, 3) := by decide +kernel
theorem dX9_chain_216 : decode cX9_chain 216 = .ok (.pop, 1) := by decide +kernel
theorem dX9_chain_217 : decode cX9_chain 217 = .ok (.iload_n 1, 1) := by decide +kernel
theorem dX9_chain_218 : decode cX9_chain 218 = .ok (.istore 6, 2) := by decide +kernel
theorem dX9_chain_220 : decode cX9_chain 220 = .ok (.iconst 0, 1) := by decide +kernel
theorem dX9_chain_221 : decode cX9_chain 221 = .ok (.istore 7, 2) := by decide +kernel
theorem dX9_chain_223 : decode cX9_chain 223 = .ok (.iload 7, 2) := by decide +kernel
theorem dX9_chain_225 : decode cX9_chain 225 = .ok (.iload 5, 2) := by decide +kernel
theorem dX9_chain_227 : decode cX9_chain 227 = .ok (.if_icmp .ge 94, 3) := by decide +kernel
theorem dX9_chain_230 : decode cX9_chain 230 = .ok (.iconst 0, 1) := by decide +kernel
theorem dX9_chain_231 : decode cX9_chain 231 = .ok (.istore 8, 2) := by decide +kernel
theorem dX9_chain_233 : decode cX9_chain 233 = .ok (.iload 4, 2) := by decide +kernel
theorem dX9_chain_235 : decode cX9_chain 235 = .ok (.iload 8, 2) := by decide +kernel
theorem dX9_chain_237 : decode cX9_chain 237 = .ok (.invokestatic 143, 3) := by decide +kernel
theorem dX9_chain_240 : decode cX9_chain 240 = .ok (.ifCond .eq 43, 3) := by decide +kernel
theorem dX9_chain_243 : decode cX9_chain 243 = .ok (.aload_n 0, 1) := by decide +kernel
theorem dX9_chain_244 : decode cX9_chain 244 = .ok (.getfield 7, 3) := by decide +kernel
theorem dX9_chain_247 : decode cX9_chain 247 = .ok (.bipush 19, 2) := by decide +kernel
theorem dX9_chain_249 : decode cX9_chain 249 = .ok (.iload 8, 2) := by decide +kernel
theorem dX9_chain_251 : decode cX9_chain 251 = .ok (.iadd, 1) := by decide +kernel
theorem dX9_chain_252 : decode cX9_chain 252 = .ok (.iaload, 1) := by decide +kernel
theorem dX9_chain_253 : decode cX9_chain 253 = .ok (.iload 6, 2) := by decide +kernel
theorem dX9_chain_255 : decode cX9_chain 255 = .ok (.if_icmp .ne 28, 3) := by decide +kernel
theorem dX9_chain_258 : decode cX9_chain 258 = .ok (.aload_n 0, 1) := by decide +kernel
theorem dX9_chain_259 : decode cX9_chain 259 = .ok (.getfield 41, 3) := by decide +kernel
theorem dX9_chain_262 : decode cX9_chain 262 = .ok (.aload_n 0, 1) := by decide +kernel
theorem dX9_chain_263 : decode cX9_chain 263 = .ok (.getfield 7, 3) := by decide +kernel
theorem dX9_chain_266 : decode cX9_chain 266 = .ok (.bipush 27, 2) := by decide +kernel
theorem dX9_chain_268 : decode cX9_chain 268 = .ok (.iload 8, 2) := by decide +kernel
theorem dX9_chain_270 : decode cX9_chain 270 = .ok (.iadd, 1) := by decide +kernel
theorem dX9_chain_271 : decode cX9_chain 271 = .ok (.iaload, 1) := by decide +kernel
theorem dX9_chain_272 : decode cX9_chain 272 = .ok (.iaload, 1) := by decide +kernel
theorem dX9_chain_273 : decode cX9_chain 273 = .ok (.iload 5, 2) := by decide +kernel
theorem dX9_chain_275 : decode cX9_chain 275 = .ok (.iload 7, 2) := by decide +kernel
theorem dX9_chain_277 : decode cX9_chain 277 = .ok (.isub, 1) := by decide +kernel
theorem dX9_chain_278 : decode cX9_chain 278 = .ok (.iconst 1, 1) := by decide +kernel
theorem dX9_chain_279 : decode cX9_chain 279 = .ok (.isub, 1) := by decide +kernel
theorem dX9_chain_280 : decode cX9_chain 280 = .ok (.if_icmp .eq 9, 3) := by decide +kernel
theorem dX9_chain_283 : decode cX9_chain 283 = .ok (.iinc 8 1, 3) := by decide +kernel
theorem dX9_chain_286 : decode cX9_chain 286 = .ok (.goto (-53), 3) := by decide +kernel
theorem dX9_chain_289 : decode cX9_chain 289 = .ok (.aload_n 0, 1) := by decide +kernel
theorem dX9_chain_290 : decode cX9_chain 290 = .ok (.getfield 16, 3) := by decide +kernel
theorem dX9_chain_293 : decode cX9_chain 293 = .ok (.bipush 40, 2) := by decide +kernel
theorem dX9_chain_295 : decode cX9_chain 295 = .ok (.iload_n 3, 1) := by decide +kernel
theorem dX9_chain_296 : decode cX9_chain 296 = .ok (.imul, 1) := by decide +kernel
theorem dX9_chain_297 : decode cX9_chain 297 = .ok (.iload 7, 2) := by decide +kernel
theorem dX9_chain_299 : decode cX9_chain 299 = .ok (.iadd, 1) := by decide +kernel
theorem dX9_chain_300 : decode cX9_chain 300 = .ok (.iload 8, 2) := by decide +kernel
theorem dX9_chain_302 : decode cX9_chain 302 = .ok (.iastore, 1) := by decide +kernel
theorem dX9_chain_303 : decode cX9_chain 303 = .ok (.aload_n 0, 1) := by decide +kernel
theorem dX9_chain_304 : decode cX9_chain 304 = .ok (.getfield 7, 3) := by decide +kernel
theorem dX9_chain_307 : decode cX9_chain 307 = .ok (.bipush 27, 2) := by decide +kernel
theorem dX9_chain_309 : decode cX9_chain 309 = .ok (.iload 8, 2) := by decide +kernel
theorem dX9_chain_311 : decode cX9_chain 311 = .ok (.iadd, 1) := by decide +kernel
theorem dX9_chain_312 : decode cX9_chain 312 = .ok (.iaload, 1) := by decide +kernel
theorem dX9_chain_313 : decode cX9_chain 313 = .ok (.istore 6, 2) := by decide +kernel
theorem dX9_chain_315 : decode cX9_chain 315 = .ok (.iinc 7 1, 3) := by decide +kernel
theorem dX9_chain_318 : decode cX9_chain 318 = .ok (.goto (-95), 3) := by decide +kernel
theorem dX9_chain_321 : decode cX9_chain 321 = .ok (.iload 5, 2) := by decide +kernel
theorem dX9_chain_323 : decode cX9_chain 323 = .ok (.ireturn, 1) := by decide +kernel
theorem dX9_dim_0 : decode cX9_dim 0 = .ok (.iload_n 1, 1) := by decide +kernel
theorem dX9_dim_1 : decode cX9_dim 1 = .ok (.invokestatic 156, 3) := by decide +kernel
theorem dX9_dim_4 : decode cX9_dim 4 = .ok (.ifCond .eq 15, 3) := by decide +kernel
theorem dX9_dim_7 : decode cX9_dim 7 = .ok (.iload_n 2, 1) := by decide +kernel
theorem dX9_dim_8 : decode cX9_dim 8 = .ok (.i2l, 1) := by decide +kernel
theorem dX9_dim_9 : decode cX9_dim 9 = .ok (.lconst 0, 1) := by decide +kernel
theorem dX9_dim_10 : decode cX9_dim 10 = .ok (.ldc2_w 141, 3) := by decide +kernel
theorem dX9_dim_13 : decode cX9_dim 13 = .ok (.invokestatic 62, 3) := by decide +kernel
theorem dX9_dim_16 : decode cX9_dim 16 = .ok (.ifCond .ne 5, 3) := by decide +kernel
theorem dX9_dim_19 : decode cX9_dim 19 = .ok (.iconst (-1), 1) := by decide +kernel
theorem dX9_dim_20 : decode cX9_dim 20 = .ok (.ireturn, 1) := by decide +kernel
theorem dX9_dim_21 : decode cX9_dim 21 = .ok (.aload_n 0, 1) := by decide +kernel
theorem dX9_dim_22 : decode cX9_dim 22 = .ok (.getfield 7, 3) := by decide +kernel
theorem dX9_dim_25 : decode cX9_dim 25 = .ok (.iconst 2, 1) := by decide +kernel
theorem dX9_dim_26 : decode cX9_dim 26 = .ok (.iaload, 1) := by decide +kernel
theorem dX9_dim_27 : decode cX9_dim 27 = .ok (.istore_n 3, 1) := by decide +kernel
theorem dX9_dim_28 : decode cX9_dim 28 = .ok (.iconst 0, 1) := by decide +kernel
theorem dX9_dim_29 : decode cX9_dim 29 = .ok (.istore 4, 2) := by decide +kernel
theorem dX9_dim_31 : decode cX9_dim 31 = .ok (.iload 4, 2) := by decide +kernel
theorem dX9_dim_33 : decode cX9_dim 33 = .ok (.iconst 1, 1) := by decide +kernel
theorem dX9_dim_34 : decode cX9_dim 34 = .ok (.aload_n 0, 1) := by decide +kernel
theorem dX9_dim_35 : decode cX9_dim 35 = .ok (.getfield 7, 3) := by decide +kernel
theorem dX9_dim_38 : decode cX9_dim 38 = .ok (.iconst 0, 1) := by decide +kernel
theorem dX9_dim_39 : decode cX9_dim 39 = .ok (.iaload, 1) := by decide +kernel
theorem dX9_dim_40 : decode cX9_dim 40 = .ok (.ishl, 1) := by decide +kernel
theorem dX9_dim_41 : decode cX9_dim 41 = .ok (.if_icmp .ge 80, 3) := by decide +kernel
theorem dX9_dim_44 : decode cX9_dim 44 = .ok (.iload 4, 2) := by decide +kernel
theorem dX9_dim_46 : decode cX9_dim 46 = .ok (.aload_n 0, 1) := by decide +kernel
theorem dX9_dim_47 : decode cX9_dim 47 = .ok (.getfield 7, 3) := by decide +kernel
theorem dX9_dim_50 : decode cX9_dim 50 = .ok (.iconst 2, 1) := by decide +kernel
theorem dX9_dim_51 : decode cX9_dim 51 = .ok (.iaload, 1) := by decide +kernel
theorem dX9_dim_52 : decode cX9_dim 52 = .ok (.iconst (-1), 1) := by decide +kernel
theorem dX9_dim_53 : decode cX9_dim 53 = .ok (.ixor, 1) := by decide +kernel
theorem dX9_dim_54 : decode cX9_dim 54 = .ok (.iand, 1) := by decide +kernel
theorem dX9_dim_55 : decode cX9_dim 55 = .ok (.ifCond .ne 33, 3) := by decide +kernel
theorem dX9_dim_58 : decode cX9_dim 58 = .ok (.aload_n 0, 1) := by decide +kernel
theorem dX9_dim_59 : decode cX9_dim 59 = .ok (.iload_n 1, 1) := by decide +kernel
theorem dX9_dim_60 : decode cX9_dim 60 = .ok (.aload_n 0, 1) := by decide +kernel
theorem dX9_dim_61 : decode cX9_dim 61 = .ok (.getfield 7, 3) := by decide +kernel
theorem dX9_dim_64 : decode cX9_dim 64 = .ok (.iconst 2, 1) := by decide +kernel
theorem dX9_dim_65 : decode cX9_dim 65 = .ok (.iaload, 1) := by decide +kernel
theorem dX9_dim_66 : decode cX9_dim 66 = .ok (.iload 4, 2) := by decide +kernel
theorem dX9_dim_68 : decode cX9_dim 68 = .ok (.iconst (-1), 1) := by decide +kernel
theorem dX9_dim_69 : decode cX9_dim 69 = .ok (.ixor, 1) := by decide +kernel
theorem dX9_dim_70 : decode cX9_dim 70 = .ok (.iand, 1) := by decide +kernel
theorem dX9_dim_71 : decode cX9_dim 71 = .ok (.aload_n 0, 1) := by decide +kernel
theorem dX9_dim_72 : decode cX9_dim 72 = .ok (.getfield 7, 3) := by decide +kernel
theorem dX9_dim_75 : decode cX9_dim 75 = .ok (.iconst 1, 1) := by decide +kernel
theorem dX9_dim_76 : decode cX9_dim 76 = .ok (.iaload, 1) := by decide +kernel
theorem dX9_dim_77 : decode cX9_dim 77 = .ok (.invokevirtual 172, 3) := by decide +kernel
theorem dX9_dim_80 : decode cX9_dim 80 = .ok (.iload_n 2, 1) := by decide +kernel
theorem dX9_dim_81 : decode cX9_dim 81 = .ok (.if_icmp .gt 7, 3) := by decide +kernel
theorem dX9_dim_84 : decode cX9_dim 84 = .ok (.iconst 1, 1) := by decide +kernel
theorem dX9_dim_85 : decode cX9_dim 85 = .ok (.goto 4, 3) := by decide +kernel
theorem dX9_dim_88 : decode cX9_dim 88 = .ok (.iconst 0, 1) := by decide +kernel
theorem dX9_dim_89 : decode cX9_dim 89 = .ok (.istore 5, 2) := by decide +kernel
theorem dX9_dim_91 : decode cX9_dim 91 = .ok (.iload 5, 2) := by decide +kernel
theorem dX9_dim_93 : decode cX9_dim 93 = .ok (.ifCond .eq 20, 3) := by decide +kernel
theorem dX9_dim_96 : decode cX9_dim 96 = .ok (.iload 4, 2) := by decide +kernel
theorem dX9_dim_98 : decode cX9_dim 98 = .ok (.invokestatic 198, 3) := by decide +kernel
theorem dX9_dim_101 : decode cX9_dim 101 = .ok (.iload_n 3, 1) := by decide +kernel
theorem dX9_dim_102 : decode cX9_dim 102 = .ok (.invokestatic 198, 3) := by decide +kernel
theorem dX9_dim_105 : decode cX9_dim 105 = .ok (.if_icmp .ge 8, 3) := by decide +kernel
theorem dX9_dim_108 : decode cX9_dim 108 = .ok (.iload 4, 2) := by decide +kernel
theorem dX9_dim_110 : decode cX9_dim 110 = .ok (.goto 4, 3) := by decide +kernel
theorem dX9_dim_113 : decode cX9_dim 113 = .ok (.iload_n 3, 1) := by decide +kernel
theorem dX9_dim_114 : decode cX9_dim 114 = .ok (.istore_n 3, 1) := by decide +kernel
theorem dX9_dim_115 : decode cX9_dim 115 = .ok (.iinc 4 1, 3) := by decide +kernel
theorem dX9_dim_118 : decode cX9_dim 118 = .ok (.goto (-87), 3) := by decide +kernel
theorem dX9_dim_121 : decode cX9_dim 121 = .ok (.iconst 1, 1) := by decide +kernel
theorem dX9_dim_122 : decode cX9_dim 122 = .ok (.aload_n 0, 1) := by decide +kernel
theorem dX9_dim_123 : decode cX9_dim 123 = .ok (.getfield 7, 3) := by decide +kernel
theorem dX9_dim_126 : decode cX9_dim 126 = .ok (.iconst 0, 1) := by decide +kernel
theorem dX9_dim_127 : decode cX9_dim 127 = .ok (.iaload, 1) := by decide +kernel
theorem dX9_dim_128 : decode cX9_dim 128 = .ok (.ishl, 1) := by decide +kernel
theorem dX9_dim_129 : decode cX9_dim 129 = .ok (.iconst 1, 1) := by decide +kernel
theorem dX9_dim_130 : decode cX9_dim 130 = .ok (.isub, 1) := by decide +kernel
theorem dX9_dim_131 : decode cX9_dim 131 = .ok (.istore 4, 2) := by decide +kernel
theorem dX9_dim_133 : decode cX9_dim 133 = .ok (.iload 4, 2) := by decide +kernel
theorem dX9_dim_135 : decode cX9_dim 135 = .ok (.ifCond .lt 80, 3) := by decide +kernel
theorem dX9_dim_138 : decode cX9_dim 138 = .ok (.iload 4, 2) := by decide +kernel
theorem dX9_dim_140 : decode cX9_dim 140 = .ok (.aload_n 0, 1) := by decide +kernel
theorem dX9_dim_141 : decode cX9_dim 141 = .ok (.getfield 7, 3) := by decide +kernel
theorem dX9_dim_144 : decode cX9_dim 144 = .ok (.iconst 2, 1) := by decide +kernel
theorem dX9_dim_145 : decode cX9_dim 145 = .ok (.iaload, 1) := by decide +kernel
theorem dX9_dim_146 : decode cX9_dim 146 = .ok (.iconst (-1), 1) := by decide +kernel
theorem dX9_dim_147 : decode cX9_dim 147 = .ok (.ixor, 1) := by decide +kernel
theorem dX9_dim_148 : decode cX9_dim 148 = .ok (.iand, 1) := by decide +kernel
theorem dX9_dim_149 : decode cX9_dim 149 = .ok (.ifCond .ne 33, 3) := by decide +kernel
theorem dX9_dim_152 : decode cX9_dim 152 = .ok (.aload_n 0, 1) := by decide +kernel
theorem dX9_dim_153 : decode cX9_dim 153 = .ok (.iload_n 1, 1) := by decide +kernel
theorem dX9_dim_154 : decode cX9_dim 154 = .ok (.aload_n 0, 1) := by decide +kernel
theorem dX9_dim_155 : decode cX9_dim 155 = .ok (.getfield 7, 3) := by decide +kernel
theorem dX9_dim_158 : decode cX9_dim 158 = .ok (.iconst 2, 1) := by decide +kernel
theorem dX9_dim_159 : decode cX9_dim 159 = .ok (.iaload, 1) := by decide +kernel
theorem dX9_dim_160 : decode cX9_dim 160 = .ok (.iload 4, 2) := by decide +kernel
theorem dX9_dim_162 : decode cX9_dim 162 = .ok (.iconst (-1), 1) := by decide +kernel
theorem dX9_dim_163 : decode cX9_dim 163 = .ok (.ixor, 1) := by decide +kernel
theorem dX9_dim_164 : decode cX9_dim 164 = .ok (.iand, 1) := by decide +kernel
theorem dX9_dim_165 : decode cX9_dim 165 = .ok (.aload_n 0, 1) := by decide +kernel
theorem dX9_dim_166 : decode cX9_dim 166 = .ok (.getfield 7, 3) := by decide +kernel
theorem dX9_dim_169 : decode cX9_dim 169 = .ok (.iconst 1, 1) := by decide +kernel
theorem dX9_dim_170 : decode cX9_dim 170 = .ok (.iaload, 1) := by decide +kernel
theorem dX9_dim_171 : decode cX9_dim 171 = .ok (.invokevirtual 172, 3) := by decide +kernel
theorem dX9_dim_174 : decode cX9_dim 174 = .ok (.iload_n 2, 1) := by decide +kernel
theorem dX9_dim_175 : decode cX9_dim 175 = .ok (.if_icmp .gt 7, 3) := by decide +kernel
theorem dX9_dim_178 : decode cX9_dim 178 = .ok (.iconst 1, 1) := by decide +kernel
theorem dX9_dim_179 : decode cX9_dim 179 = .ok (.goto 4, 3) := by decide +kernel
theorem dX9_dim_182 : decode cX9_dim 182 = .ok (.iconst 0, 1) := by decide +kernel
theorem dX9_dim_183 : decode cX9_dim 183 = .ok (.istore 5, 2) := by decide +kernel
theorem dX9_dim_185 : decode cX9_dim 185 = .ok (.iload 5, 2) := by decide +kernel
theorem dX9_dim_187 : decode cX9_dim 187 = .ok (.ifCond .eq 20, 3) := by decide +kernel
theorem dX9_dim_190 : decode cX9_dim 190 = .ok (.iload 4, 2) := by decide +kernel
theorem dX9_dim_192 : decode cX9_dim 192 = .ok (.invokestatic 198, 3) := by decide +kernel
theorem dX9_dim_195 : decode cX9_dim 195 = .ok (.iload_n 3, 1) := by decide +kernel
theorem dX9_dim_196 : decode cX9_dim 196 = .ok (.invokestatic 198, 3) := by decide +kernel
theorem dX9_dim_199 : decode cX9_dim 199 = .ok (.if_icmp .ne 8, 3) := by decide +kernel
theorem dX9_dim_202 : decode cX9_dim 202 = .ok (.iload 4, 2) := by decide +kernel
theorem dX9_dim_204 : decode cX9_dim 204 = .ok (.goto 4, 3) := by decide +kernel
theorem dX9_dim_207 : decode cX9_dim 207 = .ok (.iload_n 3, 1) := by decide +kernel
theorem dX9_dim_208 : decode cX9_dim 208 = .ok (.istore_n 3, 1) := by decide +kernel
theorem dX9_dim_209 : decode cX9_dim 209 = .ok (.iinc 4 (-1), 3) := by decide +kernel
theorem dX9_dim_212 : decode cX9_dim 212 = .ok (.goto (-79), 3) := by decide +kernel
theorem dX9_dim_215 : decode cX9_dim 215 = .ok (.aload_n 0, 1) := by decide +kernel
theorem dX9_dim_216 : decode cX9_dim 216 = .ok (.iload_n 3, 1) := by decide +kernel
theorem dX9_dim_217 : decode cX9_dim 217 = .ok (.putfield 57, 3) := by decide +kernel
theorem dX9_dim_220 : decode cX9_dim 220 = .ok (.iload_n 3, 1) := by decide +kernel
theorem dX9_dim_221 : decode cX9_dim 221 = .ok (.invokestatic 198, 3) := by decide +kernel
theorem dX9_dim_224 : decode cX9_dim 224 = .ok (.ireturn, 1) := by decide +kernel
theorem dX9_against_0 : decode cX9_against 0 = .ok (.aload_n 0, 1) := by decide +kernel
theorem dX9_against_1 : decode cX9_against 1 = .ok (.getfield 13, 3) := by decide +kernel
theorem dX9_against_4 : decode cX9_against 4 = .ok (.iload_n 1, 1) := by decide +kernel
theorem dX9_against_5 : decode cX9_against 5 = .ok (.iaload, 1) := by decide +kernel
theorem dX9_against_6 : decode cX9_against 6 = .ok (.ifCond .ge 5, 3) := by decide +kernel
theorem dX9_against_9 : decode cX9_against 9 = .ok (.iconst 1, 1) := by decide +kernel
theorem dX9_against_10 : decode cX9_against 10 = .ok (.ireturn, 1) := by decide +kernel
theorem dX9_against_11 : decode cX9_against 11 = .ok (.aload_n 0, 1) := by decide +kernel
theorem dX9_against_12 : decode cX9_against 12 = .ok (.getfield 13, 3) := by decide +kernel
theorem dX9_against_15 : decode cX9_against 15 = .ok (.iload_n 1, 1) := by decide +kernel
theorem dX9_against_16 : decode cX9_against 16 = .ok (.iaload, 1) := by decide +kernel
theorem dX9_against_17 : decode cX9_against 17 = .ok (.iconst 2, 1) := by decide +kernel
theorem dX9_against_18 : decode cX9_against 18 = .ok (.irem, 1) := by decide +kernel
theorem dX9_against_19 : decode cX9_against 19 = .ok (.ifCond .eq 5, 3) := by decide +kernel
theorem dX9_against_22 : decode cX9_against 22 = .ok (.iconst 5, 1) := by decide +kernel
theorem dX9_against_23 : decode cX9_against 23 = .ok (.ireturn, 1) := by decide +kernel
theorem dX9_against_24 : decode cX9_against 24 = .ok (.iconst 1, 1) := by decide +kernel
theorem dX9_against_25 : decode cX9_against 25 = .ok (.istore_n 2, 1) := by decide +kernel
theorem dX9_against_26 : decode cX9_against 26 = .ok (.iconst 0, 1) := by decide +kernel
theorem dX9_against_27 : decode cX9_against 27 = .ok (.istore_n 3, 1) := by decide +kernel
theorem dX9_against_28 : decode cX9_against 28 = .ok (.iload_n 3, 1) := by decide +kernel
theorem dX9_against_29 : decode cX9_against 29 = .ok (.aload_n 0, 1) := by decide +kernel
theorem dX9_against_30 : decode cX9_against 30 = .ok (.getfield 13, 3) := by decide +kernel
theorem dX9_against_33 : decode cX9_against 33 = .ok (.iload_n 1, 1) := by decide +kernel
theorem dX9_against_34 : decode cX9_against 34 = .ok (.iaload, 1) := by decide +kernel
theorem dX9_against_35 : decode cX9_against 35 = .ok (.if_icmp .ge 41, 3) := by decide +kernel
theorem dX9_against_38 : decode cX9_against 38 = .ok (.iload_n 2, 1) := by decide +kernel
theorem dX9_against_39 : decode cX9_against 39 = .ok (.ifCond .eq 29, 3) := by decide +kernel
theorem dX9_against_42 : decode cX9_against 42 = .ok (.aload_n 0, 1) := by decide +kernel
theorem dX9_against_43 : decode cX9_against 43 = .ok (.getfield 16, 3) := by decide +kernel
theorem dX9_against_46 : decode cX9_against 46 = .ok (.bipush 40, 2) := by decide +kernel
theorem dX9_against_48 : decode cX9_against 48 = .ok (.iload_n 1, 1) := by decide +kernel
theorem dX9_against_49 : decode cX9_against 49 = .ok (.imul, 1) := by decide +kernel
theorem dX9_against_50 : decode cX9_against 50 = .ok (.iload_n 3, 1) := by decide +kernel
theorem dX9_against_51 : decode cX9_against 51 = .ok (.iadd, 1) := by decide +kernel
theorem dX9_against_52 : decode cX9_against 52 = .ok (.iaload, 1) := by decide +kernel
theorem dX9_against_53 : decode cX9_against 53 = .ok (.i2l, 1) := by decide +kernel
theorem dX9_against_54 : decode cX9_against 54 = .ok (.lconst 0, 1) := by decide +kernel
theorem dX9_against_55 : decode cX9_against 55 = .ok (.ldc2_w 141, 3) := by decide +kernel
theorem dX9_against_58 : decode cX9_against 58 = .ok (.invokestatic 62, 3) := by decide +kernel
theorem dX9_against_61 : decode cX9_against 61 = .ok (.ifCond .eq 7, 3) := by decide +kernel
theorem dX9_against_64 : decode cX9_against 64 = .ok (.iconst 1, 1) := by decide +kernel
theorem dX9_against_65 : decode cX9_against 65 = .ok (.goto 4, 3) := by decide +kernel
theorem dX9_against_68 : decode cX9_against 68 = .ok (.iconst 0, 1) := by decide +kernel
theorem dX9_against_69 : decode cX9_against 69 = .ok (.istore_n 2, 1) := by decide +kernel
theorem dX9_against_70 : decode cX9_against 70 = .ok (.iinc 3 1, 3) := by decide +kernel
theorem dX9_against_73 : decode cX9_against 73 = .ok (.goto (-45), 3) := by decide +kernel
theorem dX9_against_76 : decode cX9_against 76 = .ok (.iload_n 2, 1) := by decide +kernel
theorem dX9_against_77 : decode cX9_against 77 = .ok (.ifCond .eq 7, 3) := by decide +kernel
theorem dX9_against_80 : decode cX9_against 80 = .ok (.iconst 0, 1) := by decide +kernel
theorem dX9_against_81 : decode cX9_against 81 = .ok (.goto 4, 3) := by decide +kernel
theorem dX9_against_84 : decode cX9_against 84 = .ok (.iconst 3, 1) := by decide +kernel
theorem dX9_against_85 : decode cX9_against 85 = .ok (.ireturn, 1) := by decide +kernel
theorem dX9_fits_0 : decode cX9_fits 0 = .ok (.iconst 1, 1) := by decide +kernel
theorem dX9_fits_1 : decode cX9_fits 1 = .ok (.istore 4, 2) := by decide +kernel
theorem dX9_fits_3 : decode cX9_fits 3 = .ok (.iconst 0, 1) := by decide +kernel
theorem dX9_fits_4 : decode cX9_fits 4 = .ok (.istore 5, 2) := by decide +kernel
theorem dX9_fits_6 : decode cX9_fits 6 = .ok (.iload 5, 2) := by decide +kernel
theorem dX9_fits_8 : decode cX9_fits 8 = .ok (.aload_n 0, 1) := by decide +kernel
theorem dX9_fits_9 : decode cX9_fits 9 = .ok (.getfield 13, 3) := by decide +kernel
theorem dX9_fits_12 : decode cX9_fits 12 = .ok (.iload_n 3, 1) := by decide +kernel
theorem dX9_fits_13 : decode cX9_fits 13 = .ok (.iaload, 1) := by decide +kernel
theorem dX9_fits_14 : decode cX9_fits 14 = .ok (.if_icmp .ge 55, 3) := by decide +kernel
theorem dX9_fits_17 : decode cX9_fits 17 = .ok (.iload 4, 2) := by decide +kernel
theorem dX9_fits_19 : decode cX9_fits 19 = .ok (.ifCond .eq 41, 3) := by decide +kernel
theorem dX9_fits_22 : decode cX9_fits 22 = .ok (.iload_n 1, 1) := by decide +kernel
theorem dX9_fits_23 : decode cX9_fits 23 = .ok (.iload_n 2, 1) := by decide +kernel
theorem dX9_fits_24 : decode cX9_fits 24 = .ok (.aload_n 0, 1) := by decide +kernel
theorem dX9_fits_25 : decode cX9_fits 25 = .ok (.getfield 16, 3) := by decide +kernel
theorem dX9_fits_28 : decode cX9_fits 28 = .ok (.bipush 40, 2) := by decide +kernel
theorem dX9_fits_30 : decode cX9_fits 30 = .ok (.iload_n 3, 1) := by decide +kernel
theorem dX9_fits_31 : decode cX9_fits 31 = .ok (.imul, 1) := by decide +kernel
theorem dX9_fits_32 : decode cX9_fits 32 = .ok (.iload 5, 2) := by decide +kernel
theorem dX9_fits_34 : decode cX9_fits 34 = .ok (.iadd, 1) := by decide +kernel
theorem dX9_fits_35 : decode cX9_fits 35 = .ok (.iaload, 1) := by decide +kernel
theorem dX9_fits_36 : decode cX9_fits 36 = .ok (.invokestatic 123, 3) := by decide +kernel
theorem dX9_fits_39 : decode cX9_fits 39 = .ok (.aload_n 0, 1) := by decide +kernel
theorem dX9_fits_40 : decode cX9_fits 40 = .ok (.getfield 16, 3) := by decide +kernel
theorem dX9_fits_43 : decode cX9_fits 43 = .ok (.bipush 40, 2) := by decide +kernel
theorem dX9_fits_45 : decode cX9_fits 45 = .ok (.iload_n 3, 1) := by decide +kernel
theorem dX9_fits_46 : decode cX9_fits 46 = .ok (.imul, 1) := by decide +kernel
theorem dX9_fits_47 : decode cX9_fits 47 = .ok (.iload 5, 2) := by decide +kernel
theorem dX9_fits_49 : decode cX9_fits 49 = .ok (.iadd, 1) := by decide +kernel
theorem dX9_fits_50 : decode cX9_fits 50 = .ok (.iconst 1, 1) := by decide +kernel
theorem dX9_fits_51 : decode cX9_fits 51 = .ok (.iadd, 1) := by decide +kernel
theorem dX9_fits_52 : decode cX9_fits 52 = .ok (.iaload, 1) := by decide +kernel
theorem dX9_fits_53 : decode cX9_fits 53 = .ok (.if_icmp .ne 7, 3) := by decide +kernel
theorem dX9_fits_56 : decode cX9_fits 56 = .ok (.iconst 1, 1) := by decide +kernel
theorem dX9_fits_57 : decode cX9_fits 57 = .ok (.goto 4, 3) := by decide +kernel
theorem dX9_fits_60 : decode cX9_fits 60 = .ok (.iconst 0, 1) := by decide +kernel
theorem dX9_fits_61 : decode cX9_fits 61 = .ok (.istore 4, 2) := by decide +kernel
theorem dX9_fits_63 : decode cX9_fits 63 = .ok (.iinc 5 2, 3) := by decide +kernel
theorem dX9_fits_66 : decode cX9_fits 66 = .ok (.goto (-60), 3) := by decide +kernel
theorem dX9_fits_69 : decode cX9_fits 69 = .ok (.iload 4, 2) := by decide +kernel
theorem dX9_fits_71 : decode cX9_fits 71 = .ok (.ireturn, 1) := by decide +kernel
theorem dX9_firsts_0 : decode cX9_firsts 0 = .ok (.aload_n 0, 1) := by decide +kernel
theorem dX9_firsts_1 : decode cX9_firsts 1 = .ok (.iload_n 1, 1) := by decide +kernel
theorem dX9_firsts_2 : decode cX9_firsts 2 = .ok (.invokevirtual 127, 3) := by decide +kernel
theorem dX9_firsts_5 : decode cX9_firsts 5 = .ok (.ifCond .eq 10, 3) := by decide +kernel
theorem dX9_firsts_8 : decode cX9_firsts 8 = .ok (.iload_n 2, 1) := by decide +kernel
theorem dX9_firsts_9 : decode cX9_firsts 9 = .ok (.invokestatic 70, 3) := by decide +kernel
theorem dX9_firsts_12 : decode cX9_firsts 12 = .ok (.ifCond .ne 5, 3) := by decide +kernel
theorem dX9_firsts_15 : decode cX9_firsts 15 = .ok (.iconst (-1), 1) := by decide +kernel
theorem dX9_firsts_16 : decode cX9_firsts 16 = .ok (.ireturn, 1) := by decide +kernel
theorem dX9_firsts_17 : decode cX9_firsts 17 = .ok (.aload_n 0, 1) := by decide +kernel
theorem dX9_firsts_18 : decode cX9_firsts 18 = .ok (.iload_n 2, 1) := by decide +kernel
theorem dX9_firsts_19 : decode cX9_firsts 19 = .ok (.invokevirtual 204, 3) := by decide +kernel
theorem dX9_firsts_22 : decode cX9_firsts 22 = .ok (.istore_n 3, 1) := by decide +kernel
theorem dX9_firsts_23 : decode cX9_firsts 23 = .ok (.iload_n 3, 1) := by decide +kernel
theorem dX9_firsts_24 : decode cX9_firsts 24 = .ok (.ifCond .le 9, 3) := by decide +kernel
theorem dX9_firsts_27 : decode cX9_firsts 27 = .ok (.aload_n 0, 1) := by decide +kernel
theorem dX9_firsts_28 : decode cX9_firsts 28 = .ok (.iload_n 3, 1) := by decide +kernel
theorem dX9_firsts_29 : decode cX9_firsts 29 = .ok (.invokevirtual 74, 3) := by decide +kernel
theorem dX9_firsts_32 : decode cX9_firsts 32 = .ok (.ireturn, 1) := by decide +kernel
theorem dX9_firsts_33 : decode cX9_firsts 33 = .ok (.iconst 0, 1) := by decide +kernel
theorem dX9_firsts_34 : decode cX9_firsts 34 = .ok (.istore 4, 2) := by decide +kernel
theorem dX9_firsts_36 : decode cX9_firsts 36 = .ok (.iconst 0, 1) := by decide +kernel
theorem dX9_firsts_37 : decode cX9_firsts 37 = .ok (.istore 5, 2) := by decide +kernel
theorem dX9_firsts_39 : decode cX9_firsts 39 = .ok (.iload 5, 2) := by decide +kernel
theorem dX9_firsts_41 : decode cX9_firsts 41 = .ok (.bipush 10, 2) := by decide +kernel
theorem dX9_firsts_43 : decode cX9_firsts 43 = .ok (.if_icmp .ge 41, 3) := by decide +kernel
theorem dX9_firsts_46 : decode cX9_firsts 46 = .ok (.iload 4, 2) := by decide +kernel
theorem dX9_firsts_48 : decode cX9_firsts 48 = .ok (.aload_n 0, 1) := by decide +kernel
theorem dX9_firsts_49 : decode cX9_firsts 49 = .ok (.aload_n 0, 1) := by decide +kernel
theorem dX9_firsts_50 : decode cX9_firsts 50 = .ok (.getfield 7, 3) := by decide +kernel
theorem dX9_firsts_53 : decode cX9_firsts 53 = .ok (.bipush 11, 2) := by decide +kernel
theorem dX9_firsts_55 : decode cX9_firsts 55 = .ok (.iload_n 1, 1) := by decide +kernel
theorem dX9_firsts_56 : decode cX9_firsts 56 = .ok (.iadd, 1) := by decide +kernel
theorem dX9_firsts_57 : decode cX9_firsts 57 = .ok (.iaload, 1) := by decide +kernel
theorem dX9_firsts_58 : decode cX9_firsts 58 = .ok (.iload 5, 2) := by decide +kernel
theorem dX9_firsts_60 : decode cX9_firsts 60 = .ok (.iload_n 2, 1) := by decide +kernel
theorem dX9_firsts_61 : decode cX9_firsts 61 = .ok (.invokevirtual 207, 3) := by decide +kernel
theorem dX9_firsts_64 : decode cX9_firsts 64 = .ok (.ifCond .eq 10, 3) := by decide +kernel
theorem dX9_firsts_67 : decode cX9_firsts 67 = .ok (.iconst 1, 1) := by decide +kernel
theorem dX9_firsts_68 : decode cX9_firsts 68 = .ok (.iload 5, 2) := by decide +kernel
theorem dX9_firsts_70 : decode cX9_firsts 70 = .ok (.ishl, 1) := by decide +kernel
theorem dX9_firsts_71 : decode cX9_firsts 71 = .ok (.goto 4, 3) := by decide +kernel
theorem dX9_firsts_74 : decode cX9_firsts 74 = .ok (.iconst 0, 1) := by decide +kernel
theorem dX9_firsts_75 : decode cX9_firsts 75 = .ok (.ior, 1) := by decide +kernel
theorem dX9_firsts_76 : decode cX9_firsts 76 = .ok (.istore 4, 2) := by decide +kernel
theorem dX9_firsts_78 : decode cX9_firsts 78 = .ok (.iinc 5 1, 3) := by decide +kernel
theorem dX9_firsts_81 : decode cX9_firsts 81 = .ok (.goto (-42), 3) := by decide +kernel
theorem dX9_firsts_84 : decode cX9_firsts 84 = .ok (.iload 4, 2) := by decide +kernel
theorem dX9_firsts_86 : decode cX9_firsts 86 = .ok (.ireturn, 1) := by decide +kernel
theorem dX9_kindsOf_0 : decode cX9_kindsOf 0 = .ok (.iconst 0, 1) := by decide +kernel
theorem dX9_kindsOf_1 : decode cX9_kindsOf 1 = .ok (.istore_n 3, 1) := by decide +kernel
theorem dX9_kindsOf_2 : decode cX9_kindsOf 2 = .ok (.iconst 0, 1) := by decide +kernel
theorem dX9_kindsOf_3 : decode cX9_kindsOf 3 = .ok (.istore 4, 2) := by decide +kernel
theorem dX9_kindsOf_5 : decode cX9_kindsOf 5 = .ok (.iload 4, 2) := by decide +kernel
theorem dX9_kindsOf_7 : decode cX9_kindsOf 7 = .ok (.iconst 5, 1) := by decide +kernel
theorem dX9_kindsOf_8 : decode cX9_kindsOf 8 = .ok (.if_icmp .gt 39, 3) := by decide +kernel
theorem dX9_kindsOf_11 : decode cX9_kindsOf 11 = .ok (.iload_n 3, 1) := by decide +kernel
theorem dX9_kindsOf_12 : decode cX9_kindsOf 12 = .ok (.aload_n 0, 1) := by decide +kernel
theorem dX9_kindsOf_13 : decode cX9_kindsOf 13 = .ok (.iload 4, 2) := by decide +kernel
theorem dX9_kindsOf_15 : decode cX9_kindsOf 15 = .ok (.aload_n 0, 1) := by decide +kernel
theorem dX9_kindsOf_16 : decode cX9_kindsOf 16 = .ok (.getfield 7, 3) := by decide +kernel
theorem dX9_kindsOf_19 : decode cX9_kindsOf 19 = .ok (.bipush 35, 2) := by decide +kernel
theorem dX9_kindsOf_21 : decode cX9_kindsOf 21 = .ok (.iload_n 1, 1) := by decide +kernel
theorem dX9_kindsOf_22 : decode cX9_kindsOf 22 = .ok (.iadd, 1) := by decide +kernel
theorem dX9_kindsOf_23 : decode cX9_kindsOf 23 = .ok (.iaload, 1) := by decide +kernel
theorem dX9_kindsOf_24 : decode cX9_kindsOf 24 = .ok (.iload_n 2, 1) := by decide +kernel
theorem dX9_kindsOf_25 : decode cX9_kindsOf 25 = .ok (.invokevirtual 207, 3) := by decide +kernel
theorem dX9_kindsOf_28 : decode cX9_kindsOf 28 = .ok (.ifCond .eq 10, 3) := by decide +kernel
theorem dX9_kindsOf_31 : decode cX9_kindsOf 31 = .ok (.iconst 1, 1) := by decide +kernel
theorem dX9_kindsOf_32 : decode cX9_kindsOf 32 = .ok (.iload 4, 2) := by decide +kernel
theorem dX9_kindsOf_34 : decode cX9_kindsOf 34 = .ok (.ishl, 1) := by decide +kernel
theorem dX9_kindsOf_35 : decode cX9_kindsOf 35 = .ok (.goto 4, 3) := by decide +kernel
theorem dX9_kindsOf_38 : decode cX9_kindsOf 38 = .ok (.iconst 0, 1) := by decide +kernel
theorem dX9_kindsOf_39 : decode cX9_kindsOf 39 = .ok (.ior, 1) := by decide +kernel
theorem dX9_kindsOf_40 : decode cX9_kindsOf 40 = .ok (.istore_n 3, 1) := by decide +kernel
theorem dX9_kindsOf_41 : decode cX9_kindsOf 41 = .ok (.iinc 4 1, 3) := by decide +kernel
theorem dX9_kindsOf_44 : decode cX9_kindsOf 44 = .ok (.goto (-39), 3) := by decide +kernel
theorem dX9_kindsOf_47 : decode cX9_kindsOf 47 = .ok (.iload_n 3, 1) := by decide +kernel
theorem dX9_kindsOf_48 : decode cX9_kindsOf 48 = .ok (.ireturn, 1) := by decide +kernel
theorem dX9_kinds_0 : decode cX9_kinds 0 = .ok (.aload_n 0, 1) := by decide +kernel
theorem dX9_kinds_1 : decode cX9_kinds 1 = .ok (.iload_n 1, 1) := by decide +kernel
theorem dX9_kinds_2 : decode cX9_kinds 2 = .ok (.invokevirtual 127, 3) := by decide +kernel
theorem dX9_kinds_5 : decode cX9_kinds 5 = .ok (.ifCond .eq 10, 3) := by decide +kernel
theorem dX9_kinds_8 : decode cX9_kinds 8 = .ok (.iload_n 2, 1) := by decide +kernel
theorem dX9_kinds_9 : decode cX9_kinds 9 = .ok (.invokestatic 70, 3) := by decide +kernel
theorem dX9_kinds_12 : decode cX9_kinds 12 = .ok (.ifCond .ne 5, 3) := by decide +kernel
theorem dX9_kinds_15 : decode cX9_kinds 15 = .ok (.iconst (-1), 1) := by decide +kernel
theorem dX9_kinds_16 : decode cX9_kinds 16 = .ok (.ireturn, 1) := by decide +kernel
theorem dX9_kinds_17 : decode cX9_kinds 17 = .ok (.aload_n 0, 1) := by decide +kernel
theorem dX9_kinds_18 : decode cX9_kinds 18 = .ok (.iload_n 2, 1) := by decide +kernel
theorem dX9_kinds_19 : decode cX9_kinds 19 = .ok (.invokevirtual 204, 3) := by decide +kernel
theorem dX9_kinds_22 : decode cX9_kinds 22 = .ok (.istore_n 3, 1) := by decide +kernel
theorem dX9_kinds_23 : decode cX9_kinds 23 = .ok (.iload_n 3, 1) := by decide +kernel
theorem dX9_kinds_24 : decode cX9_kinds 24 = .ok (.ifCond .le 11, 3) := by decide +kernel
theorem dX9_kinds_27 : decode cX9_kinds 27 = .ok (.aload_n 0, 1) := by decide +kernel
theorem dX9_kinds_28 : decode cX9_kinds 28 = .ok (.iload_n 3, 1) := by decide +kernel
theorem dX9_kinds_29 : decode cX9_kinds 29 = .ok (.invokevirtual 74, 3) := by decide +kernel
theorem dX9_kinds_32 : decode cX9_kinds 32 = .ok (.goto 9, 3) := by decide +kernel
theorem dX9_kinds_35 : decode cX9_kinds 35 = .ok (.aload_n 0, 1) := by decide +kernel
theorem dX9_kinds_36 : decode cX9_kinds 36 = .ok (.iload_n 1, 1) := by decide +kernel
theorem dX9_kinds_37 : decode cX9_kinds 37 = .ok (.iload_n 2, 1) := by decide +kernel
theorem dX9_kinds_38 : decode cX9_kinds 38 = .ok (.invokevirtual 211, 3) := by decide +kernel
theorem dX9_kinds_41 : decode cX9_kinds 41 = .ok (.ireturn, 1) := by decide +kernel
theorem dX9_greatestPart_0 : decode cX9_greatestPart 0 = .ok (.iconst 0, 1) := by decide +kernel
theorem dX9_greatestPart_1 : decode cX9_greatestPart 1 = .ok (.istore 4, 2) := by decide +kernel
theorem dX9_greatestPart_3 : decode cX9_greatestPart 3 = .ok (.iconst 0, 1) := by decide +kernel
theorem dX9_greatestPart_4 : decode cX9_greatestPart 4 = .ok (.istore 5, 2) := by decide +kernel
theorem dX9_greatestPart_6 : decode cX9_greatestPart 6 = .ok (.iload 5, 2) := by decide +kernel
theorem dX9_greatestPart_8 : decode cX9_greatestPart 8 = .ok (.iconst 5, 1) := by decide +kernel
theorem dX9_greatestPart_9 : decode cX9_greatestPart 9 = .ok (.if_icmp .gt 88, 3) := by decide +kernel
theorem dX9_greatestPart_12 : decode cX9_greatestPart 12 = .ok (.iconst 0, 1) := by decide +kernel
theorem dX9_greatestPart_13 : decode cX9_greatestPart 13 = .ok (.istore 6, 2) := by decide +kernel
theorem dX9_greatestPart_15 : decode cX9_greatestPart 15 = .ok (.iconst 0, 1) := by decide +kernel
theorem dX9_greatestPart_16 : decode cX9_greatestPart 16 = .ok (.istore 7, 2) := by decide +kernel
theorem dX9_greatestPart_18 : decode cX9_greatestPart 18 = .ok (.iload 7, 2) := by decide +kernel
theorem dX9_greatestPart_20 : decode cX9_greatestPart 20 = .ok (.iconst 5, 1) := by decide +kernel
theorem dX9_greatestPart_21 : decode cX9_greatestPart 21 = .ok (.if_icmp .gt 54, 3) := by decide +kernel
theorem dX9_greatestPart_24 : decode cX9_greatestPart 24 = .ok (.iload 6, 2) := by decide +kernel
theorem dX9_greatestPart_26 : decode cX9_greatestPart 26 = .ok (.iload_n 1, 1) := by decide +kernel
theorem dX9_greatestPart_27 : decode cX9_greatestPart 27 = .ok (.iload 5, 2) := by decide +kernel
theorem dX9_greatestPart_29 : decode cX9_greatestPart 29 = .ok (.invokestatic 143, 3) := by decide +kernel
theorem dX9_greatestPart_32 : decode cX9_greatestPart 32 = .ok (.ifCond .eq 33, 3) := by decide +kernel
theorem dX9_greatestPart_35 : decode cX9_greatestPart 35 = .ok (.iload_n 1, 1) := by decide +kernel
theorem dX9_greatestPart_36 : decode cX9_greatestPart 36 = .ok (.iload 7, 2) := by decide +kernel
theorem dX9_greatestPart_38 : decode cX9_greatestPart 38 = .ok (.invokestatic 143, 3) := by decide +kernel
theorem dX9_greatestPart_41 : decode cX9_greatestPart 41 = .ok (.ifCond .eq 24, 3) := by decide +kernel
theorem dX9_greatestPart_44 : decode cX9_greatestPart 44 = .ok (.iload 5, 2) := by decide +kernel
theorem dX9_greatestPart_46 : decode cX9_greatestPart 46 = .ok (.iload_n 2, 1) := by decide +kernel
theorem dX9_greatestPart_47 : decode cX9_greatestPart 47 = .ok (.iload_n 3, 1) := by decide +kernel
theorem dX9_greatestPart_48 : decode cX9_greatestPart 48 = .ok (.invokestatic 123, 3) := by decide +kernel
theorem dX9_greatestPart_51 : decode cX9_greatestPart 51 = .ok (.iload 7, 2) := by decide +kernel
theorem dX9_greatestPart_53 : decode cX9_greatestPart 53 = .ok (.iload_n 2, 1) := by decide +kernel
theorem dX9_greatestPart_54 : decode cX9_greatestPart 54 = .ok (.iload_n 3, 1) := by decide +kernel
theorem dX9_greatestPart_55 : decode cX9_greatestPart 55 = .ok (.invokestatic 123, 3) := by decide +kernel
theorem dX9_greatestPart_58 : decode cX9_greatestPart 58 = .ok (.if_icmp .ne 7, 3) := by decide +kernel
theorem dX9_greatestPart_61 : decode cX9_greatestPart 61 = .ok (.iconst 1, 1) := by decide +kernel
theorem dX9_greatestPart_62 : decode cX9_greatestPart 62 = .ok (.goto 4, 3) := by decide +kernel
theorem dX9_greatestPart_65 : decode cX9_greatestPart 65 = .ok (.iconst 0, 1) := by decide +kernel
theorem dX9_greatestPart_66 : decode cX9_greatestPart 66 = .ok (.iadd, 1) := by decide +kernel
theorem dX9_greatestPart_67 : decode cX9_greatestPart 67 = .ok (.istore 6, 2) := by decide +kernel
theorem dX9_greatestPart_69 : decode cX9_greatestPart 69 = .ok (.iinc 7 1, 3) := by decide +kernel
theorem dX9_greatestPart_72 : decode cX9_greatestPart 72 = .ok (.goto (-54), 3) := by decide +kernel
theorem dX9_greatestPart_75 : decode cX9_greatestPart 75 = .ok (.iload 6, 2) := by decide +kernel
theorem dX9_greatestPart_77 : decode cX9_greatestPart 77 = .ok (.iload 4, 2) := by decide +kernel
theorem dX9_greatestPart_79 : decode cX9_greatestPart 79 = .ok (.if_icmp .le 8, 3) := by decide +kernel
theorem dX9_greatestPart_82 : decode cX9_greatestPart 82 = .ok (.iload 6, 2) := by decide +kernel
theorem dX9_greatestPart_84 : decode cX9_greatestPart 84 = .ok (.goto 5, 3) := by decide +kernel
theorem dX9_greatestPart_87 : decode cX9_greatestPart 87 = .ok (.iload 4, 2) := by decide +kernel
theorem dX9_greatestPart_89 : decode cX9_greatestPart 89 = .ok (.istore 4, 2) := by decide +kernel
theorem dX9_greatestPart_91 : decode cX9_greatestPart 91 = .ok (.iinc 5 1, 3) := by decide +kernel
theorem dX9_greatestPart_94 : decode cX9_greatestPart 94 = .ok (.goto (-88), 3) := by decide +kernel
theorem dX9_greatestPart_97 : decode cX9_greatestPart 97 = .ok (.iload 4, 2) := by decide +kernel
theorem dX9_greatestPart_99 : decode cX9_greatestPart 99 = .ok (.ireturn, 1) := by decide +kernel
theorem dX9_test_0 : decode cX9_test 0 = .ok (.aload_n 0, 1) := by decide +kernel
theorem dX9_test_1 : decode cX9_test 1 = .ok (.iload_n 1, 1) := by decide +kernel
theorem dX9_test_2 : decode cX9_test 2 = .ok (.invokevirtual 127, 3) := by decide +kernel
theorem dX9_test_5 : decode cX9_test 5 = .ok (.ifCond .eq 10, 3) := by decide +kernel
theorem dX9_test_8 : decode cX9_test 8 = .ok (.iload_n 2, 1) := by decide +kernel
theorem dX9_test_9 : decode cX9_test 9 = .ok (.invokestatic 70, 3) := by decide +kernel
theorem dX9_test_12 : decode cX9_test 12 = .ok (.ifCond .ne 5, 3) := by decide +kernel
theorem dX9_test_15 : decode cX9_test 15 = .ok (.iconst (-1), 1) := by decide +kernel
theorem dX9_test_16 : decode cX9_test 16 = .ok (.ireturn, 1) := by decide +kernel
theorem dX9_test_17 : decode cX9_test 17 = .ok (.aload_n 0, 1) := by decide +kernel
theorem dX9_test_18 : decode cX9_test 18 = .ok (.iload_n 2, 1) := by decide +kernel
theorem dX9_test_19 : decode cX9_test 19 = .ok (.invokevirtual 204, 3) := by decide +kernel
theorem dX9_test_22 : decode cX9_test 22 = .ok (.istore_n 3, 1) := by decide +kernel
theorem dX9_test_23 : decode cX9_test 23 = .ok (.iload_n 3, 1) := by decide +kernel
theorem dX9_test_24 : decode cX9_test 24 = .ok (.ifCond .le 9, 3) := by decide +kernel
theorem dX9_test_27 : decode cX9_test 27 = .ok (.aload_n 0, 1) := by decide +kernel
theorem dX9_test_28 : decode cX9_test 28 = .ok (.iload_n 3, 1) := by decide +kernel
theorem dX9_test_29 : decode cX9_test 29 = .ok (.invokevirtual 74, 3) := by decide +kernel
theorem dX9_test_32 : decode cX9_test 32 = .ok (.ireturn, 1) := by decide +kernel
theorem dX9_test_33 : decode cX9_test 33 = .ok (.aload_n 0, 1) := by decide +kernel
theorem dX9_test_34 : decode cX9_test 34 = .ok (.iload_n 1, 1) := by decide +kernel
theorem dX9_test_35 : decode cX9_test 35 = .ok (.iload_n 2, 1) := by decide +kernel
theorem dX9_test_36 : decode cX9_test 36 = .ok (.invokevirtual 211, 3) := by decide +kernel
theorem dX9_test_39 : decode cX9_test 39 = .ok (.istore 4, 2) := by decide +kernel
theorem dX9_test_41 : decode cX9_test 41 = .ok (.iload 4, 2) := by decide +kernel
theorem dX9_test_43 : decode cX9_test 43 = .ok (.ifCond .ne 6, 3) := by decide +kernel
theorem dX9_test_46 : decode cX9_test 46 = .ok (.bipush (-9), 2) := by decide +kernel
theorem dX9_test_48 : decode cX9_test 48 = .ok (.ireturn, 1) := by decide +kernel
theorem dX9_test_49 : decode cX9_test 49 = .ok (.iconst 0, 1) := by decide +kernel
theorem dX9_test_50 : decode cX9_test 50 = .ok (.istore 5, 2) := by decide +kernel
theorem dX9_test_52 : decode cX9_test 52 = .ok (.ldc 183, 2) := by decide +kernel
theorem dX9_test_54 : decode cX9_test 54 = .ok (.istore 6, 2) := by decide +kernel
theorem dX9_test_56 : decode cX9_test 56 = .ok (.iconst 0, 1) := by decide +kernel
theorem dX9_test_57 : decode cX9_test 57 = .ok (.istore 7, 2) := by decide +kernel
theorem dX9_test_59 : decode cX9_test 59 = .ok (.iload 7, 2) := by decide +kernel
theorem dX9_test_61 : decode cX9_test 61 = .ok (.bipush 20, 2) := by decide +kernel
theorem dX9_test_63 : decode cX9_test 63 = .ok (.if_icmp .gt 60, 3) := by decide +kernel
theorem dX9_test_66 : decode cX9_test 66 = .ok (.aload_n 0, 1) := by decide +kernel
theorem dX9_test_67 : decode cX9_test 67 = .ok (.iload 4, 2) := by decide +kernel
theorem dX9_test_69 : decode cX9_test 69 = .ok (.aload_n 0, 1) := by decide +kernel
theorem dX9_test_70 : decode cX9_test 70 = .ok (.getfield 7, 3) := by decide +kernel
theorem dX9_test_73 : decode cX9_test 73 = .ok (.bipush 35, 2) := by decide +kernel
theorem dX9_test_75 : decode cX9_test 75 = .ok (.iload_n 1, 1) := by decide +kernel
theorem dX9_test_76 : decode cX9_test 76 = .ok (.iadd, 1) := by decide +kernel
theorem dX9_test_77 : decode cX9_test 77 = .ok (.iaload, 1) := by decide +kernel
theorem dX9_test_78 : decode cX9_test 78 = .ok (.iload 7, 2) := by decide +kernel
theorem dX9_test_80 : decode cX9_test 80 = .ok (.invokevirtual 214, 3) := by decide +kernel
theorem dX9_test_83 : decode cX9_test 83 = .ok (.istore 8, 2) := by decide +kernel
theorem dX9_test_85 : decode cX9_test 85 = .ok (.iload 8, 2) := by decide +kernel
theorem dX9_test_87 : decode cX9_test 87 = .ok (.iload 6, 2) := by decide +kernel
theorem dX9_test_89 : decode cX9_test 89 = .ok (.if_icmp .ge 8, 3) := by decide +kernel
theorem dX9_test_92 : decode cX9_test 92 = .ok (.iload 7, 2) := by decide +kernel
theorem dX9_test_94 : decode cX9_test 94 = .ok (.goto 5, 3) := by decide +kernel
theorem dX9_test_97 : decode cX9_test 97 = .ok (.iload 5, 2) := by decide +kernel
theorem dX9_test_99 : decode cX9_test 99 = .ok (.istore 5, 2) := by decide +kernel
theorem dX9_test_101 : decode cX9_test 101 = .ok (.iload 8, 2) := by decide +kernel
theorem dX9_test_103 : decode cX9_test 103 = .ok (.iload 6, 2) := by decide +kernel
theorem dX9_test_105 : decode cX9_test 105 = .ok (.if_icmp .ge 8, 3) := by decide +kernel
theorem dX9_test_108 : decode cX9_test 108 = .ok (.iload 8, 2) := by decide +kernel
theorem dX9_test_110 : decode cX9_test 110 = .ok (.goto 5, 3) := by decide +kernel
theorem dX9_test_113 : decode cX9_test 113 = .ok (.iload 6, 2) := by decide +kernel
theorem dX9_test_115 : decode cX9_test 115 = .ok (.istore 6, 2) := by decide +kernel
theorem dX9_test_117 : decode cX9_test 117 = .ok (.iinc 7 1, 3) := by decide +kernel
theorem dX9_test_120 : decode cX9_test 120 = .ok (.goto (-61), 3) := by decide +kernel
theorem dX9_test_123 : decode cX9_test 123 = .ok (.aload_n 0, 1) := by decide +kernel
theorem dX9_test_124 : decode cX9_test 124 = .ok (.iload 6, 2) := by decide +kernel
theorem dX9_test_126 : decode cX9_test 126 = .ok (.putfield 57, 3) := by decide +kernel
theorem dX9_test_129 : decode cX9_test 129 = .ok (.iload 5, 2) := by decide +kernel
theorem dX9_test_131 : decode cX9_test 131 = .ok (.ireturn, 1) := by decide +kernel
theorem dX9_whose_0 : decode cX9_whose 0 = .ok (.aload_n 0, 1) := by decide +kernel
theorem dX9_whose_1 : decode cX9_whose 1 = .ok (.iload_n 1, 1) := by decide +kernel
theorem dX9_whose_2 : decode cX9_whose 2 = .ok (.invokevirtual 127, 3) := by decide +kernel
theorem dX9_whose_5 : decode cX9_whose 5 = .ok (.ifCond .eq 10, 3) := by decide +kernel
theorem dX9_whose_8 : decode cX9_whose 8 = .ok (.iload_n 2, 1) := by decide +kernel
theorem dX9_whose_9 : decode cX9_whose 9 = .ok (.invokestatic 70, 3) := by decide +kernel
theorem dX9_whose_12 : decode cX9_whose 12 = .ok (.ifCond .ne 5, 3) := by decide +kernel
theorem dX9_whose_15 : decode cX9_whose 15 = .ok (.iconst (-1), 1) := by decide +kernel
theorem dX9_whose_16 : decode cX9_whose 16 = .ok (.ireturn, 1) := by decide +kernel
theorem dX9_whose_17 : decode cX9_whose 17 = .ok (.aload_n 0, 1) := by decide +kernel
theorem dX9_whose_18 : decode cX9_whose 18 = .ok (.getfield 13, 3) := by decide +kernel
theorem dX9_whose_21 : decode cX9_whose 21 = .ok (.iload_n 2, 1) := by decide +kernel
theorem dX9_whose_22 : decode cX9_whose 22 = .ok (.iaload, 1) := by decide +kernel
theorem dX9_whose_23 : decode cX9_whose 23 = .ok (.ifCond .ge 9, 3) := by decide +kernel
theorem dX9_whose_26 : decode cX9_whose 26 = .ok (.aload_n 0, 1) := by decide +kernel
theorem dX9_whose_27 : decode cX9_whose 27 = .ok (.iconst 1, 1) := by decide +kernel
theorem dX9_whose_28 : decode cX9_whose 28 = .ok (.invokevirtual 74, 3) := by decide +kernel
theorem dX9_whose_31 : decode cX9_whose 31 = .ok (.ireturn, 1) := by decide +kernel
theorem dX9_whose_32 : decode cX9_whose 32 = .ok (.aload_n 0, 1) := by decide +kernel
theorem dX9_whose_33 : decode cX9_whose 33 = .ok (.getfield 13, 3) := by decide +kernel
theorem dX9_whose_36 : decode cX9_whose 36 = .ok (.iload_n 2, 1) := by decide +kernel
theorem dX9_whose_37 : decode cX9_whose 37 = .ok (.iaload, 1) := by decide +kernel
theorem dX9_whose_38 : decode cX9_whose 38 = .ok (.bipush 6, 2) := by decide +kernel
theorem dX9_whose_40 : decode cX9_whose 40 = .ok (.if_icmp .eq 9, 3) := by decide +kernel
theorem dX9_whose_43 : decode cX9_whose 43 = .ok (.aload_n 0, 1) := by decide +kernel
theorem dX9_whose_44 : decode cX9_whose 44 = .ok (.iconst 5, 1) := by decide +kernel
theorem dX9_whose_45 : decode cX9_whose 45 = .ok (.invokevirtual 74, 3) := by decide +kernel
theorem dX9_whose_48 : decode cX9_whose 48 = .ok (.ireturn, 1) := by decide +kernel
theorem dX9_whose_49 : decode cX9_whose 49 = .ok (.iconst 0, 1) := by decide +kernel
theorem dX9_whose_50 : decode cX9_whose 50 = .ok (.istore_n 3, 1) := by decide +kernel
theorem dX9_whose_51 : decode cX9_whose 51 = .ok (.iload_n 3, 1) := by decide +kernel
theorem dX9_whose_52 : decode cX9_whose 52 = .ok (.bipush 6, 2) := by decide +kernel
theorem dX9_whose_54 : decode cX9_whose 54 = .ok (.if_icmp .ge 48, 3) := by decide +kernel
theorem dX9_whose_57 : decode cX9_whose 57 = .ok (.aload_n 0, 1) := by decide +kernel
theorem dX9_whose_58 : decode cX9_whose 58 = .ok (.getfield 16, 3) := by decide +kernel
theorem dX9_whose_61 : decode cX9_whose 61 = .ok (.bipush 40, 2) := by decide +kernel
theorem dX9_whose_63 : decode cX9_whose 63 = .ok (.iload_n 2, 1) := by decide +kernel
theorem dX9_whose_64 : decode cX9_whose 64 = .ok (.imul, 1) := by decide +kernel
theorem dX9_whose_65 : decode cX9_whose 65 = .ok (.iload_n 3, 1) := by decide +kernel
theorem dX9_whose_66 : decode cX9_whose 66 = .ok (.iadd, 1) := by decide +kernel
theorem dX9_whose_67 : decode cX9_whose 67 = .ok (.iaload, 1) := by decide +kernel
theorem dX9_whose_68 : decode cX9_whose 68 = .ok (.istore 4, 2) := by decide +kernel
theorem dX9_whose_70 : decode cX9_whose 70 = .ok (.iload 4, 2) := by decide +kernel
theorem dX9_whose_72 : decode cX9_whose 72 = .ok (.i2l, 1) := by decide +kernel
theorem dX9_whose_73 : decode cX9_whose 73 = .ok (.lconst 0, 1) := by decide +kernel
theorem dX9_whose_74 : decode cX9_whose 74 = .ok (.ldc2_w 181, 3) := by decide +kernel
theorem dX9_whose_77 : decode cX9_whose 77 = .ok (.invokestatic 62, 3) := by decide +kernel
theorem dX9_whose_80 : decode cX9_whose 80 = .ok (.ifCond .ne 16, 3) := by decide +kernel
theorem dX9_whose_83 : decode cX9_whose 83 = .ok (.iload 4, 2) := by decide +kernel
theorem dX9_whose_85 : decode cX9_whose 85 = .ok (.bipush (-9), 2) := by decide +kernel
theorem dX9_whose_87 : decode cX9_whose 87 = .ok (.if_icmp .eq 9, 3) := by decide +kernel
theorem dX9_whose_90 : decode cX9_whose 90 = .ok (.aload_n 0, 1) := by decide +kernel
theorem dX9_whose_91 : decode cX9_whose 91 = .ok (.iconst 3, 1) := by decide +kernel
theorem dX9_whose_92 : decode cX9_whose 92 = .ok (.invokevirtual 74, 3) := by decide +kernel
theorem dX9_whose_95 : decode cX9_whose 95 = .ok (.ireturn, 1) := by decide +kernel
theorem dX9_whose_96 : decode cX9_whose 96 = .ok (.iinc 3 1, 3) := by decide +kernel
theorem dX9_whose_99 : decode cX9_whose 99 = .ok (.goto (-48), 3) := by decide +kernel
theorem dX9_whose_102 : decode cX9_whose 102 = .ok (.aload_n 0, 1) := by decide +kernel
theorem dX9_whose_103 : decode cX9_whose 103 = .ok (.getfield 7, 3) := by decide +kernel
theorem dX9_whose_106 : decode cX9_whose 106 = .ok (.bipush 19, 2) := by decide +kernel
theorem dX9_whose_108 : decode cX9_whose 108 = .ok (.iload_n 1, 1) := by decide +kernel
theorem dX9_whose_109 : decode cX9_whose 109 = .ok (.iadd, 1) := by decide +kernel
theorem dX9_whose_110 : decode cX9_whose 110 = .ok (.iaload, 1) := by decide +kernel
theorem dX9_whose_111 : decode cX9_whose 111 = .ok (.istore_n 3, 1) := by decide +kernel
theorem dX9_whose_112 : decode cX9_whose 112 = .ok (.iconst 0, 1) := by decide +kernel
theorem dX9_whose_113 : decode cX9_whose 113 = .ok (.istore 4, 2) := by decide +kernel
theorem dX9_whose_115 : decode cX9_whose 115 = .ok (.iconst 0, 1) := by decide +kernel
theorem dX9_whose_116 : decode cX9_whose 116 = .ok (.istore 5, 2) := by decide +kernel
theorem dX9_whose_118 : decode cX9_whose 118 = .ok (.iload 5, 2) := by decide +kernel
theorem dX9_whose_120 : decode cX9_whose 120 = .ok (.bipush 6, 2) := by decide +kernel
theorem dX9_whose_122 : decode cX9_whose 122 = .ok (.if_icmp .ge 126, 3) := by decide +kernel
theorem dX9_whose_125 : decode cX9_whose 125 = .ok (.aload_n 0, 1) := by decide +kernel
theorem dX9_whose_126 : decode cX9_whose 126 = .ok (.getfield 7, 3) := by decide +kernel
theorem dX9_whose_129 : decode cX9_whose 129 = .ok (.bipush 19, 2) := by decide +kernel
theorem dX9_whose_131 : decode cX9_whose 131 = .ok (.iload_n 1, 1) := by decide +kernel
theorem dX9_whose_132 : decode cX9_whose 132 = .ok (.iadd, 1) := by decide +kernel
theorem dX9_whose_133 : decode cX9_whose 133 = .ok (.iload 5, 2) := by decide +kernel
theorem dX9_whose_135 : decode cX9_whose 135 = .ok (.iastore, 1) := by decide +kernel
theorem dX9_whose_136 : decode cX9_whose 136 = .ok (.iload 5, 2) := by decide +kernel
theorem dX9_whose_138 : decode cX9_whose 138 = .ok (.aload_n 0, 1) := by decide +kernel
theorem dX9_whose_139 : decode cX9_whose 139 = .ok (.getfield 7, 3) := by decide +kernel
theorem dX9_whose_142 : decode cX9_whose 142 = .ok (.bipush 27, 2) := by decide +kernel
theorem dX9_whose_144 : decode cX9_whose 144 = .ok (.iload_n 1, 1) := by decide +kernel
theorem dX9_whose_145 : decode cX9_whose 145 = .ok (.iadd, 1) := by decide +kernel
theorem dX9_whose_146 : decode cX9_whose 146 = .ok (.iaload, 1) := by decide +kernel
theorem dX9_whose_147 : decode cX9_whose 147 = .ok (.if_icmp .eq 7, 3) := by decide +kernel
theorem dX9_whose_150 : decode cX9_whose 150 = .ok (.iconst 1, 1) := by decide +kernel
theorem dX9_whose_151 : decode cX9_whose 151 = .ok (.goto 4, 3) := by decide +kernel
theorem dX9_whose_154 : decode cX9_whose 154 = .ok (.iconst 0, 1) := by decide +kernel
theorem dX9_whose_155 : decode cX9_whose 155 = .ok (.istore 6, 2) := by decide +kernel
theorem dX9_whose_157 : decode cX9_whose 157 = .ok (.iconst 0, 1) := by decide +kernel
theorem dX9_whose_158 : decode cX9_whose 158 = .ok (.istore 7, 2) := by decide +kernel
theorem dX9_whose_160 : decode cX9_whose 160 = .ok (.iload 7, 2) := by decide +kernel
theorem dX9_whose_162 : decode cX9_whose 162 = .ok (.bipush 6, 2) := by decide +kernel
theorem dX9_whose_164 : decode cX9_whose 164 = .ok (.if_icmp .ge 60, 3) := by decide +kernel
theorem dX9_whose_167 : decode cX9_whose 167 = .ok (.aload_n 0, 1) := by decide +kernel
theorem dX9_whose_168 : decode cX9_whose 168 = .ok (.getfield 16, 3) := by decide +kernel
theorem dX9_whose_171 : decode cX9_whose 171 = .ok (.bipush 40, 2) := by decide +kernel
theorem dX9_whose_173 : decode cX9_whose 173 = .ok (.iload_n 2, 1) := by decide +kernel
theorem dX9_whose_174 : decode cX9_whose 174 = .ok (.imul, 1) := by decide +kernel
theorem dX9_whose_175 : decode cX9_whose 175 = .ok (.iload 7, 2) := by decide +kernel
theorem dX9_whose_177 : decode cX9_whose 177 = .ok (.iadd, 1) := by decide +kernel
theorem dX9_whose_178 : decode cX9_whose 178 = .ok (.iaload, 1) := by decide +kernel
theorem dX9_whose_179 : decode cX9_whose 179 = .ok (.istore 8, 2) := by decide +kernel
theorem dX9_whose_181 : decode cX9_whose 181 = .ok (.iload 6, 2) := by decide +kernel
theorem dX9_whose_183 : decode cX9_whose 183 = .ok (.ifCond .eq 32, 3) := by decide +kernel
theorem dX9_whose_186 : decode cX9_whose 186 = .ok (.iload 8, 2) := by decide +kernel
theorem dX9_whose_188 : decode cX9_whose 188 = .ok (.bipush (-9), 2) := by decide +kernel
theorem dX9_whose_190 : decode cX9_whose 190 = .ok (.if_icmp .eq 21, 3) := by decide +kernel
theorem dX9_whose_193 : decode cX9_whose 193 = .ok (.aload_n 0, 1) := by decide +kernel
theorem dX9_whose_194 : decode cX9_whose 194 = .ok (.iload 7, 2) := by decide +kernel
theorem dX9_whose_196 : decode cX9_whose 196 = .ok (.aload_n 0, 1) := by decide +kernel
theorem dX9_whose_197 : decode cX9_whose 197 = .ok (.invokevirtual 189, 3) := by decide +kernel
theorem dX9_whose_200 : decode cX9_whose 200 = .ok (.invokevirtual 192, 3) := by decide +kernel
theorem dX9_whose_203 : decode cX9_whose 203 = .ok (.bipush 100, 2) := by decide +kernel
theorem dX9_whose_205 : decode cX9_whose 205 = .ok (.iadd, 1) := by decide +kernel
theorem dX9_whose_206 : decode cX9_whose 206 = .ok (.iload 8, 2) := by decide +kernel
theorem dX9_whose_208 : decode cX9_whose 208 = .ok (.if_icmp .ne 7, 3) := by decide +kernel
theorem dX9_whose_211 : decode cX9_whose 211 = .ok (.iconst 1, 1) := by decide +kernel
theorem dX9_whose_212 : decode cX9_whose 212 = .ok (.goto 4, 3) := by decide +kernel
theorem dX9_whose_215 : decode cX9_whose 215 = .ok (.iconst 0, 1) := by decide +kernel
theorem dX9_whose_216 : decode cX9_whose 216 = .ok (.istore 6, 2) := by decide +kernel
theorem dX9_whose_218 : decode cX9_whose 218 = .ok (.iinc 7 1, 3) := by decide +kernel
theorem dX9_whose_221 : decode cX9_whose 221 = .ok (.goto (-61), 3) := by decide +kernel
theorem dX9_whose_224 : decode cX9_whose 224 = .ok (.iload 4, 2) := by decide +kernel
theorem dX9_whose_226 : decode cX9_whose 226 = .ok (.iload 6, 2) := by decide +kernel
theorem dX9_whose_228 : decode cX9_whose 228 = .ok (.ifCond .eq 10, 3) := by decide +kernel
theorem dX9_whose_231 : decode cX9_whose 231 = .ok (.iconst 1, 1) := by decide +kernel
theorem dX9_whose_232 : decode cX9_whose 232 = .ok (.iload 5, 2) := by decide +kernel
theorem dX9_whose_234 : decode cX9_whose 234 = .ok (.ishl, 1) := by decide +kernel
theorem dX9_whose_235 : decode cX9_whose 235 = .ok (.goto 4, 3) := by decide +kernel
theorem dX9_whose_238 : decode cX9_whose 238 = .ok (.iconst 0, 1) := by decide +kernel
theorem dX9_whose_239 : decode cX9_whose 239 = .ok (.ior, 1) := by decide +kernel
theorem dX9_whose_240 : decode cX9_whose 240 = .ok (.istore 4, 2) := by decide +kernel
theorem dX9_whose_242 : decode cX9_whose 242 = .ok (.iinc 5 1, 3) := by decide +kernel
theorem dX9_whose_245 : decode cX9_whose 245 = .ok (.goto (-127), 3) := by decide +kernel
theorem dX9_whose_248 : decode cX9_whose 248 = .ok (.aload_n 0, 1) := by decide +kernel
theorem dX9_whose_249 : decode cX9_whose 249 = .ok (.getfield 7, 3) := by decide +kernel
theorem dX9_whose_252 : decode cX9_whose 252 = .ok (.bipush 19, 2) := by decide +kernel
theorem dX9_whose_254 : decode cX9_whose 254 = .ok (.iload_n 1, 1) := by decide +kernel
theorem dX9_whose_255 : decode cX9_whose 255 = .ok (.iadd, 1) := by decide +kernel
theorem dX9_whose_256 : decode cX9_whose 256 = .ok (.iload_n 3, 1) := by decide +kernel
theorem dX9_whose_257 : decode cX9_whose 257 = .ok (.iastore, 1) := by decide +kernel
theorem dX9_whose_258 : decode cX9_whose 258 = .ok (.iload 4, 2) := by decide +kernel
theorem dX9_whose_260 : decode cX9_whose 260 = .ok (.ireturn, 1) := by decide +kernel
theorem dX9_duel_0 : decode cX9_duel 0 = .ok (.iload_n 1, 1) := by decide +kernel
theorem dX9_duel_1 : decode cX9_duel 1 = .ok (.invokestatic 156, 3) := by decide +kernel
theorem dX9_duel_4 : decode cX9_duel 4 = .ok (.ifCond .eq 15, 3) := by decide +kernel
theorem dX9_duel_7 : decode cX9_duel 7 = .ok (.iload_n 2, 1) := by decide +kernel
theorem dX9_duel_8 : decode cX9_duel 8 = .ok (.i2l, 1) := by decide +kernel
theorem dX9_duel_9 : decode cX9_duel 9 = .ok (.lconst 0, 1) := by decide +kernel
theorem dX9_duel_10 : decode cX9_duel 10 = .ok (.ldc2_w 217, 3) := by decide +kernel
theorem dX9_duel_13 : decode cX9_duel 13 = .ok (.invokestatic 62, 3) := by decide +kernel
theorem dX9_duel_16 : decode cX9_duel 16 = .ok (.ifCond .ne 5, 3) := by decide +kernel
theorem dX9_duel_19 : decode cX9_duel 19 = .ok (.iconst (-1), 1) := by decide +kernel
theorem dX9_duel_20 : decode cX9_duel 20 = .ok (.ireturn, 1) := by decide +kernel
theorem dX9_duel_21 : decode cX9_duel 21 = .ok (.aload_n 0, 1) := by decide +kernel
theorem dX9_duel_22 : decode cX9_duel 22 = .ok (.getfield 7, 3) := by decide +kernel
theorem dX9_duel_25 : decode cX9_duel 25 = .ok (.iconst 0, 1) := by decide +kernel
theorem dX9_duel_26 : decode cX9_duel 26 = .ok (.iaload, 1) := by decide +kernel
theorem dX9_duel_27 : decode cX9_duel 27 = .ok (.ifCond .ne 6, 3) := by decide +kernel
theorem dX9_duel_30 : decode cX9_duel 30 = .ok (.bipush (-4), 2) := by decide +kernel
theorem dX9_duel_32 : decode cX9_duel 32 = .ok (.ireturn, 1) := by decide +kernel
theorem dX9_duel_33 : decode cX9_duel 33 = .ok (.iconst 0, 1) := by decide +kernel
theorem dX9_duel_34 : decode cX9_duel 34 = .ok (.istore_n 3, 1) := by decide +kernel
theorem dX9_duel_35 : decode cX9_duel 35 = .ok (.aload_n 0, 1) := by decide +kernel
theorem dX9_duel_36 : decode cX9_duel 36 = .ok (.getfield 44, 3) := by decide +kernel
theorem dX9_duel_39 : decode cX9_duel 39 = .ok (.iconst 0, 1) := by decide +kernel
theorem dX9_duel_40 : decode cX9_duel 40 = .ok (.aload_n 0, 1) := by decide +kernel
theorem dX9_duel_41 : decode cX9_duel 41 = .ok (.getfield 7, 3) := by decide +kernel
theorem dX9_duel_44 : decode cX9_duel 44 = .ok (.iconst 2, 1) := by decide +kernel
theorem dX9_duel_45 : decode cX9_duel 45 = .ok (.iaload, 1) := by decide +kernel
theorem dX9_duel_46 : decode cX9_duel 46 = .ok (.iastore, 1) := by decide +kernel
theorem dX9_duel_47 : decode cX9_duel 47 = .ok (.aload_n 0, 1) := by decide +kernel
theorem dX9_duel_48 : decode cX9_duel 48 = .ok (.getfield 47, 3) := by decide +kernel
theorem dX9_duel_51 : decode cX9_duel 51 = .ok (.iconst 0, 1) := by decide +kernel
theorem dX9_duel_52 : decode cX9_duel 52 = .ok (.iconst 0, 1) := by decide +kernel
theorem dX9_duel_53 : decode cX9_duel 53 = .ok (.iastore, 1) := by decide +kernel
theorem dX9_duel_54 : decode cX9_duel 54 = .ok (.aload_n 0, 1) := by decide +kernel
theorem dX9_duel_55 : decode cX9_duel 55 = .ok (.getfield 50, 3) := by decide +kernel
theorem dX9_duel_58 : decode cX9_duel 58 = .ok (.iconst 0, 1) := by decide +kernel
theorem dX9_duel_59 : decode cX9_duel 59 = .ok (.bipush (-9), 2) := by decide +kernel
theorem dX9_duel_61 : decode cX9_duel 61 = .ok (.iastore, 1) := by decide +kernel
theorem dX9_duel_62 : decode cX9_duel 62 = .ok (.iload_n 3, 1) := by decide +kernel
theorem dX9_duel_63 : decode cX9_duel 63 = .ok (.ifCond .lt 199, 3) := by decide +kernel
theorem dX9_duel_66 : decode cX9_duel 66 = .ok (.iload_n 3, 1) := by decide +kernel
theorem dX9_duel_67 : decode cX9_duel 67 = .ok (.iload_n 2, 1) := by decide +kernel
theorem dX9_duel_68 : decode cX9_duel 68 = .ok (.if_icmp .ne 41, 3) := by decide +kernel
theorem dX9_duel_71 : decode cX9_duel 71 = .ok (.aload_n 0, 1) := by decide +kernel
theorem dX9_duel_72 : decode cX9_duel 72 = .ok (.getfield 50, 3) := by decide +kernel
theorem dX9_duel_75 : decode cX9_duel 75 = .ok (.iload_n 3, 1) := by decide +kernel
theorem dX9_duel_76 : decode cX9_duel 76 = .ok (.aload_n 0, 1) := by decide +kernel
theorem dX9_duel_77 : decode cX9_duel 77 = .ok (.iload_n 1, 1) := by decide +kernel
theorem dX9_duel_78 : decode cX9_duel 78 = .ok (.aload_n 0, 1) := by decide +kernel
theorem dX9_duel_79 : decode cX9_duel 79 = .ok (.getfield 44, 3) := by decide +kernel
theorem dX9_duel_82 : decode cX9_duel 82 = .ok (.iload_n 3, 1) := by decide +kernel
theorem dX9_duel_83 : decode cX9_duel 83 = .ok (.iaload, 1) := by decide +kernel
theorem dX9_duel_84 : decode cX9_duel 84 = .ok (.aload_n 0, 1) := by decide +kernel
theorem dX9_duel_85 : decode cX9_duel 85 = .ok (.getfield 7, 3) := by decide +kernel
theorem dX9_duel_88 : decode cX9_duel 88 = .ok (.iconst 1, 1) := by decide +kernel
theorem dX9_duel_89 : decode cX9_duel 89 = .ok (.iaload, 1) := by decide +kernel
theorem dX9_duel_90 : decode cX9_duel 90 = .ok (.invokevirtual 172, 3) := by decide +kernel
theorem dX9_duel_93 : decode cX9_duel 93 = .ok (.iastore, 1) := by decide +kernel
theorem dX9_duel_94 : decode cX9_duel 94 = .ok (.iinc 3 (-1), 3) := by decide +kernel
theorem dX9_duel_97 : decode cX9_duel 97 = .ok (.iload_n 3, 1) := by decide +kernel
theorem dX9_duel_98 : decode cX9_duel 98 = .ok (.ifCond .lt (-36), 3) := by decide +kernel
theorem dX9_duel_101 : decode cX9_duel 101 = .ok (.aload_n 0, 1) := by decide +kernel
theorem dX9_duel_102 : decode cX9_duel 102 = .ok (.iload_n 3, 1) := by decide +kernel
theorem dX9_duel_103 : decode cX9_duel 103 = .ok (.invokevirtual 219, 3) := by decide +kernel
theorem dX9_duel_106 : decode cX9_duel 106 = .ok (.goto (-44), 3) := by decide +kernel
theorem dX9_duel_109 : decode cX9_duel 109 = .ok (.aload_n 0, 1) := by decide +kernel
theorem dX9_duel_110 : decode cX9_duel 110 = .ok (.getfield 47, 3) := by decide +kernel
theorem dX9_duel_113 : decode cX9_duel 113 = .ok (.iload_n 3, 1) := by decide +kernel
theorem dX9_duel_114 : decode cX9_duel 114 = .ok (.iaload, 1) := by decide +kernel
theorem dX9_duel_115 : decode cX9_duel 115 = .ok (.aload_n 0, 1) := by decide +kernel
theorem dX9_duel_116 : decode cX9_duel 116 = .ok (.getfield 7, 3) := by decide +kernel
theorem dX9_duel_119 : decode cX9_duel 119 = .ok (.iconst 0, 1) := by decide +kernel
theorem dX9_duel_120 : decode cX9_duel 120 = .ok (.iaload, 1) := by decide +kernel
theorem dX9_duel_121 : decode cX9_duel 121 = .ok (.if_icmp .le 18, 3) := by decide +kernel
theorem dX9_duel_124 : decode cX9_duel 124 = .ok (.iinc 3 (-1), 3) := by decide +kernel
theorem dX9_duel_127 : decode cX9_duel 127 = .ok (.iload_n 3, 1) := by decide +kernel
theorem dX9_duel_128 : decode cX9_duel 128 = .ok (.ifCond .lt (-66), 3) := by decide +kernel
theorem dX9_duel_131 : decode cX9_duel 131 = .ok (.aload_n 0, 1) := by decide +kernel
theorem dX9_duel_132 : decode cX9_duel 132 = .ok (.iload_n 3, 1) := by decide +kernel
theorem dX9_duel_133 : decode cX9_duel 133 = .ok (.invokevirtual 219, 3) := by decide +kernel
theorem dX9_duel_136 : decode cX9_duel 136 = .ok (.goto (-74), 3) := by decide +kernel
theorem dX9_duel_139 : decode cX9_duel 139 = .ok (.aload_n 0, 1) := by decide +kernel
theorem dX9_duel_140 : decode cX9_duel 140 = .ok (.getfield 47, 3) := by decide +kernel
theorem dX9_duel_143 : decode cX9_duel 143 = .ok (.iload_n 3, 1) := by decide +kernel
theorem dX9_duel_144 : decode cX9_duel 144 = .ok (.iaload, 1) := by decide +kernel
theorem dX9_duel_145 : decode cX9_duel 145 = .ok (.istore 4, 2) := by decide +kernel
theorem dX9_duel_147 : decode cX9_duel 147 = .ok (.aload_n 0, 1) := by decide +kernel
theorem dX9_duel_148 : decode cX9_duel 148 = .ok (.getfield 47, 3) := by decide +kernel
theorem dX9_duel_151 : decode cX9_duel 151 = .ok (.iload_n 3, 1) := by decide +kernel
theorem dX9_duel_152 : decode cX9_duel 152 = .ok (.dup2, 1) := by decide +kernel
theorem dX9_duel_153 : decode cX9_duel 153 = .ok (.iaload, 1) := by decide +kernel
theorem dX9_duel_154 : decode cX9_duel 154 = .ok (.iconst 1, 1) := by decide +kernel
theorem dX9_duel_155 : decode cX9_duel 155 = .ok (.iadd, 1) := by decide +kernel
theorem dX9_duel_156 : decode cX9_duel 156 = .ok (.iastore, 1) := by decide +kernel
theorem dX9_duel_157 : decode cX9_duel 157 = .ok (.iload_n 3, 1) := by decide +kernel
theorem dX9_duel_158 : decode cX9_duel 158 = .ok (.iconst 2, 1) := by decide +kernel
theorem dX9_duel_159 : decode cX9_duel 159 = .ok (.irem, 1) := by decide +kernel
theorem dX9_duel_160 : decode cX9_duel 160 = .ok (.ifCond .ne 7, 3) := by decide +kernel
theorem dX9_duel_163 : decode cX9_duel 163 = .ok (.iconst 1, 1) := by decide +kernel
theorem dX9_duel_164 : decode cX9_duel 164 = .ok (.goto 4, 3) := by decide +kernel
theorem dX9_duel_167 : decode cX9_duel 167 = .ok (.iconst 0, 1) := by decide +kernel
theorem dX9_duel_168 : decode cX9_duel 168 = .ok (.istore 5, 2) := by decide +kernel
theorem dX9_duel_170 : decode cX9_duel 170 = .ok (.iload 4, 2) := by decide +kernel
theorem dX9_duel_172 : decode cX9_duel 172 = .ok (.aload_n 0, 1) := by decide +kernel
theorem dX9_duel_173 : decode cX9_duel 173 = .ok (.getfield 7, 3) := by decide +kernel
theorem dX9_duel_176 : decode cX9_duel 176 = .ok (.iconst 0, 1) := by decide +kernel
theorem dX9_duel_177 : decode cX9_duel 177 = .ok (.iaload, 1) := by decide +kernel
theorem dX9_duel_178 : decode cX9_duel 178 = .ok (.if_icmp .eq 19, 3) := by decide +kernel
theorem dX9_duel_181 : decode cX9_duel 181 = .ok (.aload_n 0, 1) := by decide +kernel
theorem dX9_duel_182 : decode cX9_duel 182 = .ok (.getfield 44, 3) := by decide +kernel
theorem dX9_duel_185 : decode cX9_duel 185 = .ok (.iload_n 3, 1) := by decide +kernel
theorem dX9_duel_186 : decode cX9_duel 186 = .ok (.iaload, 1) := by decide +kernel
theorem dX9_duel_187 : decode cX9_duel 187 = .ok (.iload 4, 2) := by decide +kernel
theorem dX9_duel_189 : decode cX9_duel 189 = .ok (.invokestatic 143, 3) := by decide +kernel
theorem dX9_duel_192 : decode cX9_duel 192 = .ok (.iload 5, 2) := by decide +kernel
theorem dX9_duel_194 : decode cX9_duel 194 = .ok (.if_icmp .ne 65, 3) := by decide +kernel
theorem dX9_duel_197 : decode cX9_duel 197 = .ok (.aload_n 0, 1) := by decide +kernel
theorem dX9_duel_198 : decode cX9_duel 198 = .ok (.getfield 44, 3) := by decide +kernel
theorem dX9_duel_201 : decode cX9_duel 201 = .ok (.iload_n 3, 1) := by decide +kernel
theorem dX9_duel_202 : decode cX9_duel 202 = .ok (.iconst 1, 1) := by decide +kernel
theorem dX9_duel_203 : decode cX9_duel 203 = .ok (.iadd, 1) := by decide +kernel
theorem dX9_duel_204 : decode cX9_duel 204 = .ok (.iload 4, 2) := by decide +kernel
theorem dX9_duel_206 : decode cX9_duel 206 = .ok (.aload_n 0, 1) := by decide +kernel
theorem dX9_duel_207 : decode cX9_duel 207 = .ok (.getfield 7, 3) := by decide +kernel
theorem dX9_duel_210 : decode cX9_duel 210 = .ok (.iconst 0, 1) := by decide +kernel
theorem dX9_duel_211 : decode cX9_duel 211 = .ok (.iaload, 1) := by decide +kernel
theorem dX9_duel_212 : decode cX9_duel 212 = .ok (.if_icmp .ne 12, 3) := by decide +kernel
theorem dX9_duel_215 : decode cX9_duel 215 = .ok (.aload_n 0, 1) := by decide +kernel
theorem dX9_duel_216 : decode cX9_duel 216 = .ok (.getfield 44, 3) := by decide +kernel
theorem dX9_duel_219 : decode cX9_duel 219 = .ok (.iload_n 3, 1) := by decide +kernel
theorem dX9_duel_220 : decode cX9_duel 220 = .ok (.iaload, 1) := by decide +kernel
theorem dX9_duel_221 : decode cX9_duel 221 = .ok (.goto 14, 3) := by decide +kernel
theorem dX9_duel_224 : decode cX9_duel 224 = .ok (.aload_n 0, 1) := by decide +kernel
theorem dX9_duel_225 : decode cX9_duel 225 = .ok (.getfield 44, 3) := by decide +kernel
theorem dX9_duel_228 : decode cX9_duel 228 = .ok (.iload_n 3, 1) := by decide +kernel
theorem dX9_duel_229 : decode cX9_duel 229 = .ok (.iaload, 1) := by decide +kernel
theorem dX9_duel_230 : decode cX9_duel 230 = .ok (.iconst 1, 1) := by decide +kernel
theorem dX9_duel_231 : decode cX9_duel 231 = .ok (.iload 4, 2) := by decide +kernel
theorem dX9_duel_233 : decode cX9_duel 233 = .ok (.ishl, 1) := by decide +kernel
theorem dX9_duel_234 : decode cX9_duel 234 = .ok (.ixor, 1) := by decide +kernel
theorem dX9_duel_235 : decode cX9_duel 235 = .ok (.iastore, 1) := by decide +kernel
theorem dX9_duel_236 : decode cX9_duel 236 = .ok (.iinc 3 1, 3) := by decide +kernel
theorem dX9_duel_239 : decode cX9_duel 239 = .ok (.iload_n 3, 1) := by decide +kernel
theorem dX9_duel_240 : decode cX9_duel 240 = .ok (.iload_n 2, 1) := by decide +kernel
theorem dX9_duel_241 : decode cX9_duel 241 = .ok (.if_icmp .ge 18, 3) := by decide +kernel
theorem dX9_duel_244 : decode cX9_duel 244 = .ok (.aload_n 0, 1) := by decide +kernel
theorem dX9_duel_245 : decode cX9_duel 245 = .ok (.getfield 47, 3) := by decide +kernel
theorem dX9_duel_248 : decode cX9_duel 248 = .ok (.iload_n 3, 1) := by decide +kernel
theorem dX9_duel_249 : decode cX9_duel 249 = .ok (.iconst 0, 1) := by decide +kernel
theorem dX9_duel_250 : decode cX9_duel 250 = .ok (.iastore, 1) := by decide +kernel
theorem dX9_duel_251 : decode cX9_duel 251 = .ok (.aload_n 0, 1) := by decide +kernel
theorem dX9_duel_252 : decode cX9_duel 252 = .ok (.getfield 50, 3) := by decide +kernel
theorem dX9_duel_255 : decode cX9_duel 255 = .ok (.iload_n 3, 1) := by decide +kernel
theorem dX9_duel_256 : decode cX9_duel 256 = .ok (.bipush (-9), 2) := by decide +kernel
theorem dX9_duel_258 : decode cX9_duel 258 = .ok (.iastore, 1) := by decide +kernel
theorem dX9_duel_259 : decode cX9_duel 259 = .ok (.goto (-197), 3) := by decide +kernel
theorem dX9_duel_262 : decode cX9_duel 262 = .ok (.aload_n 0, 1) := by decide +kernel
theorem dX9_duel_263 : decode cX9_duel 263 = .ok (.getfield 50, 3) := by decide +kernel
theorem dX9_duel_266 : decode cX9_duel 266 = .ok (.iconst 0, 1) := by decide +kernel
theorem dX9_duel_267 : decode cX9_duel 267 = .ok (.iaload, 1) := by decide +kernel
theorem dX9_duel_268 : decode cX9_duel 268 = .ok (.ireturn, 1) := by decide +kernel
theorem dX9_betters_0 : decode cX9_betters 0 = .ok (.aload_n 0, 1) := by decide +kernel
theorem dX9_betters_1 : decode cX9_betters 1 = .ok (.getfield 50, 3) := by decide +kernel
theorem dX9_betters_4 : decode cX9_betters 4 = .ok (.iload_n 1, 1) := by decide +kernel
theorem dX9_betters_5 : decode cX9_betters 5 = .ok (.iconst 1, 1) := by decide +kernel
theorem dX9_betters_6 : decode cX9_betters 6 = .ok (.iadd, 1) := by decide +kernel
theorem dX9_betters_7 : decode cX9_betters 7 = .ok (.iaload, 1) := by decide +kernel
theorem dX9_betters_8 : decode cX9_betters 8 = .ok (.istore_n 2, 1) := by decide +kernel
theorem dX9_betters_9 : decode cX9_betters 9 = .ok (.iload_n 1, 1) := by decide +kernel
theorem dX9_betters_10 : decode cX9_betters 10 = .ok (.iconst 2, 1) := by decide +kernel
theorem dX9_betters_11 : decode cX9_betters 11 = .ok (.irem, 1) := by decide +kernel
theorem dX9_betters_12 : decode cX9_betters 12 = .ok (.ifCond .ne 7, 3) := by decide +kernel
theorem dX9_betters_15 : decode cX9_betters 15 = .ok (.iconst 1, 1) := by decide +kernel
theorem dX9_betters_16 : decode cX9_betters 16 = .ok (.goto 4, 3) := by decide +kernel
theorem dX9_betters_19 : decode cX9_betters 19 = .ok (.iconst 0, 1) := by decide +kernel
theorem dX9_betters_20 : decode cX9_betters 20 = .ok (.istore_n 3, 1) := by decide +kernel
theorem dX9_betters_21 : decode cX9_betters 21 = .ok (.aload_n 0, 1) := by decide +kernel
theorem dX9_betters_22 : decode cX9_betters 22 = .ok (.getfield 50, 3) := by decide +kernel
theorem dX9_betters_25 : decode cX9_betters 25 = .ok (.iload_n 1, 1) := by decide +kernel
theorem dX9_betters_26 : decode cX9_betters 26 = .ok (.aload_n 0, 1) := by decide +kernel
theorem dX9_betters_27 : decode cX9_betters 27 = .ok (.getfield 50, 3) := by decide +kernel
theorem dX9_betters_30 : decode cX9_betters 30 = .ok (.iload_n 1, 1) := by decide +kernel
theorem dX9_betters_31 : decode cX9_betters 31 = .ok (.iaload, 1) := by decide +kernel
theorem dX9_betters_32 : decode cX9_betters 32 = .ok (.bipush (-9), 2) := by decide +kernel
theorem dX9_betters_34 : decode cX9_betters 34 = .ok (.if_icmp .eq 30, 3) := by decide +kernel
theorem dX9_betters_37 : decode cX9_betters 37 = .ok (.iload_n 3, 1) := by decide +kernel
theorem dX9_betters_38 : decode cX9_betters 38 = .ok (.ifCond .eq 16, 3) := by decide +kernel
theorem dX9_betters_41 : decode cX9_betters 41 = .ok (.iload_n 2, 1) := by decide +kernel
theorem dX9_betters_42 : decode cX9_betters 42 = .ok (.aload_n 0, 1) := by decide +kernel
theorem dX9_betters_43 : decode cX9_betters 43 = .ok (.getfield 50, 3) := by decide +kernel
theorem dX9_betters_46 : decode cX9_betters 46 = .ok (.iload_n 1, 1) := by decide +kernel
theorem dX9_betters_47 : decode cX9_betters 47 = .ok (.iaload, 1) := by decide +kernel
theorem dX9_betters_48 : decode cX9_betters 48 = .ok (.if_icmp .ge 20, 3) := by decide +kernel
theorem dX9_betters_51 : decode cX9_betters 51 = .ok (.goto 13, 3) := by decide +kernel
theorem dX9_betters_54 : decode cX9_betters 54 = .ok (.iload_n 2, 1) := by decide +kernel
theorem dX9_betters_55 : decode cX9_betters 55 = .ok (.aload_n 0, 1) := by decide +kernel
theorem dX9_betters_56 : decode cX9_betters 56 = .ok (.getfield 50, 3) := by decide +kernel
theorem dX9_betters_59 : decode cX9_betters 59 = .ok (.iload_n 1, 1) := by decide +kernel
theorem dX9_betters_60 : decode cX9_betters 60 = .ok (.iaload, 1) := by decide +kernel
theorem dX9_betters_61 : decode cX9_betters 61 = .ok (.if_icmp .le 7, 3) := by decide +kernel
theorem dX9_betters_64 : decode cX9_betters 64 = .ok (.iload_n 2, 1) := by decide +kernel
theorem dX9_betters_65 : decode cX9_betters 65 = .ok (.goto 9, 3) := by decide +kernel
theorem dX9_betters_68 : decode cX9_betters 68 = .ok (.aload_n 0, 1) := by decide +kernel
theorem dX9_betters_69 : decode cX9_betters 69 = .ok (.getfield 50, 3) := by decide +kernel
theorem dX9_betters_72 : decode cX9_betters 72 = .ok (.iload_n 1, 1) := by decide +kernel
theorem dX9_betters_73 : decode cX9_betters 73 = .ok (.iaload, 1) := by decide +kernel
theorem dX9_betters_74 : decode cX9_betters 74 = .ok (.iastore, 1) := by decide +kernel
theorem dX9_betters_75 : decode cX9_betters 75 = .ok (.return_, 1) := by decide +kernel
theorem dX9_tellsPart_0 : decode cX9_tellsPart 0 = .ok (.lload_n 1, 1) := by decide +kernel
theorem dX9_tellsPart_1 : decode cX9_tellsPart 1 = .ok (.lstore 5, 2) := by decide +kernel
theorem dX9_tellsPart_3 : decode cX9_tellsPart 3 = .ok (.lload_n 3, 1) := by decide +kernel
theorem dX9_tellsPart_4 : decode cX9_tellsPart 4 = .ok (.lstore 7, 2) := by decide +kernel
theorem dX9_tellsPart_6 : decode cX9_tellsPart 6 = .ok (.lload 7, 2) := by decide +kernel
theorem dX9_tellsPart_8 : decode cX9_tellsPart 8 = .ok (.lconst 0, 1) := by decide +kernel
theorem dX9_tellsPart_9 : decode cX9_tellsPart 9 = .ok (.lcmp, 1) := by decide +kernel
theorem dX9_tellsPart_10 : decode cX9_tellsPart 10 = .ok (.ifCond .eq 21, 3) := by decide +kernel
theorem dX9_tellsPart_13 : decode cX9_tellsPart 13 = .ok (.lload 5, 2) := by decide +kernel
theorem dX9_tellsPart_15 : decode cX9_tellsPart 15 = .ok (.lload 7, 2) := by decide +kernel
theorem dX9_tellsPart_17 : decode cX9_tellsPart 17 = .ok (.lrem, 1) := by decide +kernel
theorem dX9_tellsPart_18 : decode cX9_tellsPart 18 = .ok (.lstore 9, 2) := by decide +kernel
theorem dX9_tellsPart_20 : decode cX9_tellsPart 20 = .ok (.lload 7, 2) := by decide +kernel
theorem dX9_tellsPart_22 : decode cX9_tellsPart 22 = .ok (.lstore 5, 2) := by decide +kernel
theorem dX9_tellsPart_24 : decode cX9_tellsPart 24 = .ok (.lload 9, 2) := by decide +kernel
theorem dX9_tellsPart_26 : decode cX9_tellsPart 26 = .ok (.lstore 7, 2) := by decide +kernel
theorem dX9_tellsPart_28 : decode cX9_tellsPart 28 = .ok (.goto (-22), 3) := by decide +kernel
theorem dX9_tellsPart_31 : decode cX9_tellsPart 31 = .ok (.aload_n 0, 1) := by decide +kernel
theorem dX9_tellsPart_32 : decode cX9_tellsPart 32 = .ok (.lload_n 1, 1) := by decide +kernel
theorem dX9_tellsPart_33 : decode cX9_tellsPart 33 = .ok (.lload 5, 2) := by decide +kernel
theorem dX9_tellsPart_35 : decode cX9_tellsPart 35 = .ok (.ldiv, 1) := by decide +kernel
theorem dX9_tellsPart_36 : decode cX9_tellsPart 36 = .ok (.putfield 223, 3) := by decide +kernel
theorem dX9_tellsPart_39 : decode cX9_tellsPart 39 = .ok (.aload_n 0, 1) := by decide +kernel
theorem dX9_tellsPart_40 : decode cX9_tellsPart 40 = .ok (.lload_n 3, 1) := by decide +kernel
theorem dX9_tellsPart_41 : decode cX9_tellsPart 41 = .ok (.lload 5, 2) := by decide +kernel
theorem dX9_tellsPart_43 : decode cX9_tellsPart 43 = .ok (.ldiv, 1) := by decide +kernel
theorem dX9_tellsPart_44 : decode cX9_tellsPart 44 = .ok (.putfield 28, 3) := by decide +kernel
theorem dX9_tellsPart_47 : decode cX9_tellsPart 47 = .ok (.iconst 1, 1) := by decide +kernel
theorem dX9_tellsPart_48 : decode cX9_tellsPart 48 = .ok (.ireturn, 1) := by decide +kernel
theorem dX9_chances_0 : decode cX9_chances 0 = .ok (.lconst 0, 1) := by decide +kernel
theorem dX9_chances_1 : decode cX9_chances 1 = .ok (.lstore 4, 2) := by decide +kernel
theorem dX9_chances_3 : decode cX9_chances 3 = .ok (.lconst 1, 1) := by decide +kernel
theorem dX9_chances_4 : decode cX9_chances 4 = .ok (.lstore 6, 2) := by decide +kernel
theorem dX9_chances_6 : decode cX9_chances 6 = .ok (.iconst 0, 1) := by decide +kernel
theorem dX9_chances_7 : decode cX9_chances 7 = .ok (.istore 8, 2) := by decide +kernel
theorem dX9_chances_9 : decode cX9_chances 9 = .ok (.iload 8, 2) := by decide +kernel
theorem dX9_chances_11 : decode cX9_chances 11 = .ok (.aload_n 0, 1) := by decide +kernel
theorem dX9_chances_12 : decode cX9_chances 12 = .ok (.getfield 7, 3) := by decide +kernel
theorem dX9_chances_15 : decode cX9_chances 15 = .ok (.iconst 0, 1) := by decide +kernel
theorem dX9_chances_16 : decode cX9_chances 16 = .ok (.iaload, 1) := by decide +kernel
theorem dX9_chances_17 : decode cX9_chances 17 = .ok (.if_icmp .ge 35, 3) := by decide +kernel
theorem dX9_chances_20 : decode cX9_chances 20 = .ok (.lload 6, 2) := by decide +kernel
theorem dX9_chances_22 : decode cX9_chances 22 = .ok (.aload_n 0, 1) := by decide +kernel
theorem dX9_chances_23 : decode cX9_chances 23 = .ok (.getfield 7, 3) := by decide +kernel
theorem dX9_chances_26 : decode cX9_chances 26 = .ok (.iconst 2, 1) := by decide +kernel
theorem dX9_chances_27 : decode cX9_chances 27 = .ok (.iaload, 1) := by decide +kernel
theorem dX9_chances_28 : decode cX9_chances 28 = .ok (.iload 8, 2) := by decide +kernel
theorem dX9_chances_30 : decode cX9_chances 30 = .ok (.invokestatic 143, 3) := by decide +kernel
theorem dX9_chances_33 : decode cX9_chances 33 = .ok (.ifCond .eq 9, 3) := by decide +kernel
theorem dX9_chances_36 : decode cX9_chances 36 = .ok (.ldc2_w 226, 3) := by decide +kernel
theorem dX9_chances_39 : decode cX9_chances 39 = .ok (.goto 4, 3) := by decide +kernel
theorem dX9_chances_42 : decode cX9_chances 42 = .ok (.lconst 1, 1) := by decide +kernel
theorem dX9_chances_43 : decode cX9_chances 43 = .ok (.lmul, 1) := by decide +kernel
theorem dX9_chances_44 : decode cX9_chances 44 = .ok (.lstore 6, 2) := by decide +kernel
theorem dX9_chances_46 : decode cX9_chances 46 = .ok (.iinc 8 1, 3) := by decide +kernel
theorem dX9_chances_49 : decode cX9_chances 49 = .ok (.goto (-40), 3) := by decide +kernel
theorem dX9_chances_52 : decode cX9_chances 52 = .ok (.iconst 0, 1) := by decide +kernel
theorem dX9_chances_53 : decode cX9_chances 53 = .ok (.istore 8, 2) := by decide +kernel
theorem dX9_chances_55 : decode cX9_chances 55 = .ok (.iload 8, 2) := by decide +kernel
theorem dX9_chances_57 : decode cX9_chances 57 = .ok (.iconst 1, 1) := by decide +kernel
theorem dX9_chances_58 : decode cX9_chances 58 = .ok (.aload_n 0, 1) := by decide +kernel
theorem dX9_chances_59 : decode cX9_chances 59 = .ok (.getfield 7, 3) := by decide +kernel
theorem dX9_chances_62 : decode cX9_chances 62 = .ok (.iconst 0, 1) := by decide +kernel
theorem dX9_chances_63 : decode cX9_chances 63 = .ok (.iaload, 1) := by decide +kernel
theorem dX9_chances_64 : decode cX9_chances 64 = .ok (.ishl, 1) := by decide +kernel
theorem dX9_chances_65 : decode cX9_chances 65 = .ok (.if_icmp .ge 145, 3) := by decide +kernel
theorem dX9_chances_68 : decode cX9_chances 68 = .ok (.iload 8, 2) := by decide +kernel
theorem dX9_chances_70 : decode cX9_chances 70 = .ok (.aload_n 0, 1) := by decide +kernel
theorem dX9_chances_71 : decode cX9_chances 71 = .ok (.getfield 7, 3) := by decide +kernel
theorem dX9_chances_74 : decode cX9_chances 74 = .ok (.iconst 2, 1) := by decide +kernel
theorem dX9_chances_75 : decode cX9_chances 75 = .ok (.iaload, 1) := by decide +kernel
theorem dX9_chances_76 : decode cX9_chances 76 = .ok (.iconst (-1), 1) := by decide +kernel
theorem dX9_chances_77 : decode cX9_chances 77 = .ok (.ixor, 1) := by decide +kernel
theorem dX9_chances_78 : decode cX9_chances 78 = .ok (.iand, 1) := by decide +kernel
theorem dX9_chances_79 : decode cX9_chances 79 = .ok (.ifCond .ne 125, 3) := by decide +kernel
theorem dX9_chances_82 : decode cX9_chances 82 = .ok (.lconst 1, 1) := by decide +kernel
theorem dX9_chances_83 : decode cX9_chances 83 = .ok (.lstore 9, 2) := by decide +kernel
theorem dX9_chances_85 : decode cX9_chances 85 = .ok (.iconst 0, 1) := by decide +kernel
theorem dX9_chances_86 : decode cX9_chances 86 = .ok (.istore 11, 2) := by decide +kernel
theorem dX9_chances_88 : decode cX9_chances 88 = .ok (.iload 11, 2) := by decide +kernel
theorem dX9_chances_90 : decode cX9_chances 90 = .ok (.aload_n 0, 1) := by decide +kernel
theorem dX9_chances_91 : decode cX9_chances 91 = .ok (.getfield 7, 3) := by decide +kernel
theorem dX9_chances_94 : decode cX9_chances 94 = .ok (.iconst 0, 1) := by decide +kernel
theorem dX9_chances_95 : decode cX9_chances 95 = .ok (.iaload, 1) := by decide +kernel
theorem dX9_chances_96 : decode cX9_chances 96 = .ok (.if_icmp .ge 52, 3) := by decide +kernel
theorem dX9_chances_99 : decode cX9_chances 99 = .ok (.lload 9, 2) := by decide +kernel
theorem dX9_chances_101 : decode cX9_chances 101 = .ok (.aload_n 0, 1) := by decide +kernel
theorem dX9_chances_102 : decode cX9_chances 102 = .ok (.getfield 7, 3) := by decide +kernel
theorem dX9_chances_105 : decode cX9_chances 105 = .ok (.iconst 2, 1) := by decide +kernel
theorem dX9_chances_106 : decode cX9_chances 106 = .ok (.iaload, 1) := by decide +kernel
theorem dX9_chances_107 : decode cX9_chances 107 = .ok (.iload 11, 2) := by decide +kernel
theorem dX9_chances_109 : decode cX9_chances 109 = .ok (.invokestatic 143, 3) := by decide +kernel
theorem dX9_chances_112 : decode cX9_chances 112 = .ok (.ifCond .ne 7, 3) := by decide +kernel
theorem dX9_chances_115 : decode cX9_chances 115 = .ok (.lconst 1, 1) := by decide +kernel
theorem dX9_chances_116 : decode cX9_chances 116 = .ok (.goto 23, 3) := by decide +kernel
theorem dX9_chances_119 : decode cX9_chances 119 = .ok (.iload 8, 2) := by decide +kernel
theorem dX9_chances_121 : decode cX9_chances 121 = .ok (.iload 11, 2) := by decide +kernel
theorem dX9_chances_123 : decode cX9_chances 123 = .ok (.invokestatic 143, 3) := by decide +kernel
theorem dX9_chances_126 : decode cX9_chances 126 = .ok (.ifCond .eq 8, 3) := by decide +kernel
theorem dX9_chances_129 : decode cX9_chances 129 = .ok (.iload_n 3, 1) := by decide +kernel
theorem dX9_chances_130 : decode cX9_chances 130 = .ok (.i2l, 1) := by decide +kernel
theorem dX9_chances_131 : decode cX9_chances 131 = .ok (.goto 8, 3) := by decide +kernel
theorem dX9_chances_134 : decode cX9_chances 134 = .ok (.bipush 12, 2) := by decide +kernel
theorem dX9_chances_136 : decode cX9_chances 136 = .ok (.iload_n 3, 1) := by decide +kernel
theorem dX9_chances_137 : decode cX9_chances 137 = .ok (.isub, 1) := by decide +kernel
theorem dX9_chances_138 : decode cX9_chances 138 = .ok (.i2l, 1) := by decide +kernel
theorem dX9_chances_139 : decode cX9_chances 139 = .ok (.lmul, 1) := by decide +kernel
theorem dX9_chances_140 : decode cX9_chances 140 = .ok (.lstore 9, 2) := by decide +kernel
theorem dX9_chances_142 : decode cX9_chances 142 = .ok (.iinc 11 1, 3) := by decide +kernel
theorem dX9_chances_145 : decode cX9_chances 145 = .ok (.goto (-57), 3) := by decide +kernel
theorem dX9_chances_148 : decode cX9_chances 148 = .ok (.aload_n 0, 1) := by decide +kernel
theorem dX9_chances_149 : decode cX9_chances 149 = .ok (.iload_n 1, 1) := by decide +kernel
theorem dX9_chances_150 : decode cX9_chances 150 = .ok (.aload_n 0, 1) := by decide +kernel
theorem dX9_chances_151 : decode cX9_chances 151 = .ok (.getfield 7, 3) := by decide +kernel
theorem dX9_chances_154 : decode cX9_chances 154 = .ok (.iconst 2, 1) := by decide +kernel
theorem dX9_chances_155 : decode cX9_chances 155 = .ok (.iaload, 1) := by decide +kernel
theorem dX9_chances_156 : decode cX9_chances 156 = .ok (.iload 8, 2) := by decide +kernel
theorem dX9_chances_158 : decode cX9_chances 158 = .ok (.iconst (-1), 1) := by decide +kernel
theorem dX9_chances_159 : decode cX9_chances 159 = .ok (.ixor, 1) := by decide +kernel
theorem dX9_chances_160 : decode cX9_chances 160 = .ok (.iand, 1) := by decide +kernel
theorem dX9_chances_161 : decode cX9_chances 161 = .ok (.aload_n 0, 1) := by decide +kernel
theorem dX9_chances_162 : decode cX9_chances 162 = .ok (.getfield 7, 3) := by decide +kernel
theorem dX9_chances_165 : decode cX9_chances 165 = .ok (.iconst 1, 1) := by decide +kernel
theorem dX9_chances_166 : decode cX9_chances 166 = .ok (.iaload, 1) := by decide +kernel
theorem dX9_chances_167 : decode cX9_chances 167 = .ok (.invokevirtual 172, 3) := by decide +kernel
theorem dX9_chances_170 : decode cX9_chances 170 = .ok (.istore 11, 2) := by decide +kernel
theorem dX9_chances_172 : decode cX9_chances 172 = .ok (.lload 4, 2) := by decide +kernel
theorem dX9_chances_174 : decode cX9_chances 174 = .ok (.iload_n 2, 1) := by decide +kernel
theorem dX9_chances_175 : decode cX9_chances 175 = .ok (.bipush (-9), 2) := by decide +kernel
theorem dX9_chances_177 : decode cX9_chances 177 = .ok (.if_icmp .ne 12, 3) := by decide +kernel
theorem dX9_chances_180 : decode cX9_chances 180 = .ok (.lload 9, 2) := by decide +kernel
theorem dX9_chances_182 : decode cX9_chances 182 = .ok (.iload 11, 2) := by decide +kernel
theorem dX9_chances_184 : decode cX9_chances 184 = .ok (.i2l, 1) := by decide +kernel
theorem dX9_chances_185 : decode cX9_chances 185 = .ok (.lmul, 1) := by decide +kernel
theorem dX9_chances_186 : decode cX9_chances 186 = .ok (.goto 15, 3) := by decide +kernel
theorem dX9_chances_189 : decode cX9_chances 189 = .ok (.iload 11, 2) := by decide +kernel
theorem dX9_chances_191 : decode cX9_chances 191 = .ok (.iload_n 2, 1) := by decide +kernel
theorem dX9_chances_192 : decode cX9_chances 192 = .ok (.if_icmp .gt 8, 3) := by decide +kernel
theorem dX9_chances_195 : decode cX9_chances 195 = .ok (.lload 9, 2) := by decide +kernel
theorem dX9_chances_197 : decode cX9_chances 197 = .ok (.goto 4, 3) := by decide +kernel
theorem dX9_chances_200 : decode cX9_chances 200 = .ok (.lconst 0, 1) := by decide +kernel
theorem dX9_chances_201 : decode cX9_chances 201 = .ok (.ladd, 1) := by decide +kernel
theorem dX9_chances_202 : decode cX9_chances 202 = .ok (.lstore 4, 2) := by decide +kernel
theorem dX9_chances_204 : decode cX9_chances 204 = .ok (.iinc 8 1, 3) := by decide +kernel
theorem dX9_chances_207 : decode cX9_chances 207 = .ok (.goto (-152), 3) := by decide +kernel
theorem dX9_chances_210 : decode cX9_chances 210 = .ok (.aload_n 0, 1) := by decide +kernel
theorem dX9_chances_211 : decode cX9_chances 211 = .ok (.lload 4, 2) := by decide +kernel
theorem dX9_chances_213 : decode cX9_chances 213 = .ok (.lload 6, 2) := by decide +kernel
theorem dX9_chances_215 : decode cX9_chances 215 = .ok (.invokevirtual 228, 3) := by decide +kernel
theorem dX9_chances_218 : decode cX9_chances 218 = .ok (.ireturn, 1) := by decide +kernel
theorem dX9_odds_0 : decode cX9_odds 0 = .ok (.iload_n 1, 1) := by decide +kernel
theorem dX9_odds_1 : decode cX9_odds 1 = .ok (.invokestatic 156, 3) := by decide +kernel
theorem dX9_odds_4 : decode cX9_odds 4 = .ok (.ifCond .eq 27, 3) := by decide +kernel
theorem dX9_odds_7 : decode cX9_odds 7 = .ok (.iload_n 2, 1) := by decide +kernel
theorem dX9_odds_8 : decode cX9_odds 8 = .ok (.i2l, 1) := by decide +kernel
theorem dX9_odds_9 : decode cX9_odds 9 = .ok (.lconst 0, 1) := by decide +kernel
theorem dX9_odds_10 : decode cX9_odds 10 = .ok (.ldc2_w 141, 3) := by decide +kernel
theorem dX9_odds_13 : decode cX9_odds 13 = .ok (.invokestatic 62, 3) := by decide +kernel
theorem dX9_odds_16 : decode cX9_odds 16 = .ok (.ifCond .eq 15, 3) := by decide +kernel
theorem dX9_odds_19 : decode cX9_odds 19 = .ok (.iload_n 3, 1) := by decide +kernel
theorem dX9_odds_20 : decode cX9_odds 20 = .ok (.i2l, 1) := by decide +kernel
theorem dX9_odds_21 : decode cX9_odds 21 = .ok (.lconst 0, 1) := by decide +kernel
theorem dX9_odds_22 : decode cX9_odds 22 = .ok (.ldc2_w 226, 3) := by decide +kernel
theorem dX9_odds_25 : decode cX9_odds 25 = .ok (.invokestatic 62, 3) := by decide +kernel
theorem dX9_odds_28 : decode cX9_odds 28 = .ok (.ifCond .ne 5, 3) := by decide +kernel
theorem dX9_odds_31 : decode cX9_odds 31 = .ok (.iconst (-1), 1) := by decide +kernel
theorem dX9_odds_32 : decode cX9_odds 32 = .ok (.ireturn, 1) := by decide +kernel
theorem dX9_odds_33 : decode cX9_odds 33 = .ok (.aload_n 0, 1) := by decide +kernel
theorem dX9_odds_34 : decode cX9_odds 34 = .ok (.getfield 7, 3) := by decide +kernel
theorem dX9_odds_37 : decode cX9_odds 37 = .ok (.iconst 0, 1) := by decide +kernel
theorem dX9_odds_38 : decode cX9_odds 38 = .ok (.iaload, 1) := by decide +kernel
theorem dX9_odds_39 : decode cX9_odds 39 = .ok (.ifCond .ne 8, 3) := by decide +kernel
theorem dX9_odds_42 : decode cX9_odds 42 = .ok (.bipush (-4), 2) := by decide +kernel
theorem dX9_odds_44 : decode cX9_odds 44 = .ok (.goto 10, 3) := by decide +kernel
theorem dX9_odds_47 : decode cX9_odds 47 = .ok (.aload_n 0, 1) := by decide +kernel
theorem dX9_odds_48 : decode cX9_odds 48 = .ok (.iload_n 1, 1) := by decide +kernel
theorem dX9_odds_49 : decode cX9_odds 49 = .ok (.iload_n 2, 1) := by decide +kernel
theorem dX9_odds_50 : decode cX9_odds 50 = .ok (.iload_n 3, 1) := by decide +kernel
theorem dX9_odds_51 : decode cX9_odds 51 = .ok (.invokevirtual 232, 3) := by decide +kernel
theorem dX9_odds_54 : decode cX9_odds 54 = .ok (.ireturn, 1) := by decide +kernel
theorem dX9_mid_0 : decode cX9_mid 0 = .ok (.iload_n 1, 1) := by decide +kernel
theorem dX9_mid_1 : decode cX9_mid 1 = .ok (.invokestatic 156, 3) := by decide +kernel
theorem dX9_mid_4 : decode cX9_mid 4 = .ok (.ifCond .eq 15, 3) := by decide +kernel
theorem dX9_mid_7 : decode cX9_mid 7 = .ok (.iload_n 2, 1) := by decide +kernel
theorem dX9_mid_8 : decode cX9_mid 8 = .ok (.i2l, 1) := by decide +kernel
theorem dX9_mid_9 : decode cX9_mid 9 = .ok (.lconst 0, 1) := by decide +kernel
theorem dX9_mid_10 : decode cX9_mid 10 = .ok (.ldc2_w 226, 3) := by decide +kernel
theorem dX9_mid_13 : decode cX9_mid 13 = .ok (.invokestatic 62, 3) := by decide +kernel
theorem dX9_mid_16 : decode cX9_mid 16 = .ok (.ifCond .ne 5, 3) := by decide +kernel
theorem dX9_mid_19 : decode cX9_mid 19 = .ok (.iconst (-1), 1) := by decide +kernel
theorem dX9_mid_20 : decode cX9_mid 20 = .ok (.ireturn, 1) := by decide +kernel
theorem dX9_mid_21 : decode cX9_mid 21 = .ok (.aload_n 0, 1) := by decide +kernel
theorem dX9_mid_22 : decode cX9_mid 22 = .ok (.getfield 7, 3) := by decide +kernel
theorem dX9_mid_25 : decode cX9_mid 25 = .ok (.iconst 0, 1) := by decide +kernel
theorem dX9_mid_26 : decode cX9_mid 26 = .ok (.iaload, 1) := by decide +kernel
theorem dX9_mid_27 : decode cX9_mid 27 = .ok (.ifCond .ne 8, 3) := by decide +kernel
theorem dX9_mid_30 : decode cX9_mid 30 = .ok (.bipush (-4), 2) := by decide +kernel
theorem dX9_mid_32 : decode cX9_mid 32 = .ok (.goto 11, 3) := by decide +kernel
theorem dX9_mid_35 : decode cX9_mid 35 = .ok (.aload_n 0, 1) := by decide +kernel
theorem dX9_mid_36 : decode cX9_mid 36 = .ok (.iload_n 1, 1) := by decide +kernel
theorem dX9_mid_37 : decode cX9_mid 37 = .ok (.bipush (-9), 2) := by decide +kernel
theorem dX9_mid_39 : decode cX9_mid 39 = .ok (.iload_n 2, 1) := by decide +kernel
theorem dX9_mid_40 : decode cX9_mid 40 = .ok (.invokevirtual 232, 3) := by decide +kernel
theorem dX9_mid_43 : decode cX9_mid 43 = .ok (.ireturn, 1) := by decide +kernel
theorem dX9_lots_0 : decode cX9_lots 0 = .ok (.iload_n 1, 1) := by decide +kernel
theorem dX9_lots_1 : decode cX9_lots 1 = .ok (.i2l, 1) := by decide +kernel
theorem dX9_lots_2 : decode cX9_lots 2 = .ok (.lconst 1, 1) := by decide +kernel
theorem dX9_lots_3 : decode cX9_lots 3 = .ok (.ldc2_w 235, 3) := by decide +kernel
theorem dX9_lots_6 : decode cX9_lots 6 = .ok (.invokestatic 62, 3) := by decide +kernel
theorem dX9_lots_9 : decode cX9_lots 9 = .ok (.ifCond .eq 15, 3) := by decide +kernel
theorem dX9_lots_12 : decode cX9_lots 12 = .ok (.iload_n 2, 1) := by decide +kernel
theorem dX9_lots_13 : decode cX9_lots 13 = .ok (.i2l, 1) := by decide +kernel
theorem dX9_lots_14 : decode cX9_lots 14 = .ok (.lconst 1, 1) := by decide +kernel
theorem dX9_lots_15 : decode cX9_lots 15 = .ok (.ldc2_w 237, 3) := by decide +kernel
theorem dX9_lots_18 : decode cX9_lots 18 = .ok (.invokestatic 62, 3) := by decide +kernel
theorem dX9_lots_21 : decode cX9_lots 21 = .ok (.ifCond .ne 5, 3) := by decide +kernel
theorem dX9_lots_24 : decode cX9_lots 24 = .ok (.iconst (-1), 1) := by decide +kernel
theorem dX9_lots_25 : decode cX9_lots 25 = .ok (.ireturn, 1) := by decide +kernel
theorem dX9_lots_26 : decode cX9_lots 26 = .ok (.aload_n 0, 1) := by decide +kernel
theorem dX9_lots_27 : decode cX9_lots 27 = .ok (.getfield 7, 3) := by decide +kernel
theorem dX9_lots_30 : decode cX9_lots 30 = .ok (.iconst 0, 1) := by decide +kernel
theorem dX9_lots_31 : decode cX9_lots 31 = .ok (.iaload, 1) := by decide +kernel
theorem dX9_lots_32 : decode cX9_lots 32 = .ok (.ifCond .ne 6, 3) := by decide +kernel
theorem dX9_lots_35 : decode cX9_lots 35 = .ok (.bipush (-4), 2) := by decide +kernel
theorem dX9_lots_37 : decode cX9_lots 37 = .ok (.ireturn, 1) := by decide +kernel
theorem dX9_lots_38 : decode cX9_lots 38 = .ok (.aload_n 0, 1) := by decide +kernel
theorem dX9_lots_39 : decode cX9_lots 39 = .ok (.getfield 7, 3) := by decide +kernel
theorem dX9_lots_42 : decode cX9_lots 42 = .ok (.bipush 43, 2) := by decide +kernel
theorem dX9_lots_44 : decode cX9_lots 44 = .ok (.iaload, 1) := by decide +kernel
theorem dX9_lots_45 : decode cX9_lots 45 = .ok (.iload_n 1, 1) := by decide +kernel
theorem dX9_lots_46 : decode cX9_lots 46 = .ok (.iadd, 1) := by decide +kernel
theorem dX9_lots_47 : decode cX9_lots 47 = .ok (.bipush 40, 2) := by decide +kernel
theorem dX9_lots_49 : decode cX9_lots 49 = .ok (.if_icmp .le 6, 3) := by decide +kernel
theorem dX9_lots_52 : decode cX9_lots 52 = .ok (.bipush (-2), 2) := by decide +kernel
theorem dX9_lots_54 : decode cX9_lots 54 = .ok (.ireturn, 1) := by decide +kernel
theorem dX9_lots_55 : decode cX9_lots 55 = .ok (.iload_n 2, 1) := by decide +kernel
theorem dX9_lots_56 : decode cX9_lots 56 = .ok (.i2l, 1) := by decide +kernel
theorem dX9_lots_57 : decode cX9_lots 57 = .ok (.lstore_n 3, 1) := by decide +kernel
theorem dX9_lots_58 : decode cX9_lots 58 = .ok (.iconst 0, 1) := by decide +kernel
theorem dX9_lots_59 : decode cX9_lots 59 = .ok (.istore 5, 2) := by decide +kernel
theorem dX9_lots_61 : decode cX9_lots 61 = .ok (.iload 5, 2) := by decide +kernel
theorem dX9_lots_63 : decode cX9_lots 63 = .ok (.iload_n 1, 1) := by decide +kernel
theorem dX9_lots_64 : decode cX9_lots 64 = .ok (.if_icmp .ge 118, 3) := by decide +kernel
theorem dX9_lots_67 : decode cX9_lots 67 = .ok (.lload_n 3, 1) := by decide +kernel
theorem dX9_lots_68 : decode cX9_lots 68 = .ok (.ldc2_w 239, 3) := by decide +kernel
theorem dX9_lots_71 : decode cX9_lots 71 = .ok (.lmul, 1) := by decide +kernel
theorem dX9_lots_72 : decode cX9_lots 72 = .ok (.ldc2_w 241, 3) := by decide +kernel
theorem dX9_lots_75 : decode cX9_lots 75 = .ok (.lrem, 1) := by decide +kernel
theorem dX9_lots_76 : decode cX9_lots 76 = .ok (.lstore_n 3, 1) := by decide +kernel
theorem dX9_lots_77 : decode cX9_lots 77 = .ok (.aload_n 0, 1) := by decide +kernel
theorem dX9_lots_78 : decode cX9_lots 78 = .ok (.invokevirtual 146, 3) := by decide +kernel
theorem dX9_lots_81 : decode cX9_lots 81 = .ok (.lload_n 3, 1) := by decide +kernel
theorem dX9_lots_82 : decode cX9_lots 82 = .ok (.ldc2_w 243, 3) := by decide +kernel
theorem dX9_lots_85 : decode cX9_lots 85 = .ok (.ldiv, 1) := by decide +kernel
theorem dX9_lots_86 : decode cX9_lots 86 = .ok (.aload_n 0, 1) := by decide +kernel
theorem dX9_lots_87 : decode cX9_lots 87 = .ok (.getfield 7, 3) := by decide +kernel
theorem dX9_lots_90 : decode cX9_lots 90 = .ok (.iconst 0, 1) := by decide +kernel
theorem dX9_lots_91 : decode cX9_lots 91 = .ok (.iaload, 1) := by decide +kernel
theorem dX9_lots_92 : decode cX9_lots 92 = .ok (.i2l, 1) := by decide +kernel
theorem dX9_lots_93 : decode cX9_lots 93 = .ok (.lrem, 1) := by decide +kernel
theorem dX9_lots_94 : decode cX9_lots 94 = .ok (.l2i, 1) := by decide +kernel
theorem dX9_lots_95 : decode cX9_lots 95 = .ok (.istore 6, 2) := by decide +kernel
theorem dX9_lots_97 : decode cX9_lots 97 = .ok (.lload_n 3, 1) := by decide +kernel
theorem dX9_lots_98 : decode cX9_lots 98 = .ok (.ldc2_w 217, 3) := by decide +kernel
theorem dX9_lots_101 : decode cX9_lots 101 = .ok (.lrem, 1) := by decide +kernel
theorem dX9_lots_102 : decode cX9_lots 102 = .ok (.lconst 0, 1) := by decide +kernel
theorem dX9_lots_103 : decode cX9_lots 103 = .ok (.lcmp, 1) := by decide +kernel
theorem dX9_lots_104 : decode cX9_lots 104 = .ok (.ifCond .ne 27, 3) := by decide +kernel
theorem dX9_lots_107 : decode cX9_lots 107 = .ok (.aload_n 0, 1) := by decide +kernel
theorem dX9_lots_108 : decode cX9_lots 108 = .ok (.getfield 7, 3) := by decide +kernel
theorem dX9_lots_111 : decode cX9_lots 111 = .ok (.iconst 1, 1) := by decide +kernel
theorem dX9_lots_112 : decode cX9_lots 112 = .ok (.iaload, 1) := by decide +kernel
theorem dX9_lots_113 : decode cX9_lots 113 = .ok (.bipush 40, 2) := by decide +kernel
theorem dX9_lots_115 : decode cX9_lots 115 = .ok (.if_icmp .ge 16, 3) := by decide +kernel
theorem dX9_lots_118 : decode cX9_lots 118 = .ok (.aload_n 0, 1) := by decide +kernel
theorem dX9_lots_119 : decode cX9_lots 119 = .ok (.getfield 7, 3) := by decide +kernel
theorem dX9_lots_122 : decode cX9_lots 122 = .ok (.iconst 1, 1) := by decide +kernel
theorem dX9_lots_123 : decode cX9_lots 123 = .ok (.dup2, 1) := by decide +kernel
theorem dX9_lots_124 : decode cX9_lots 124 = .ok (.iaload, 1) := by decide +kernel
theorem dX9_lots_125 : decode cX9_lots 125 = .ok (.iconst 1, 1) := by decide +kernel
theorem dX9_lots_126 : decode cX9_lots 126 = .ok (.iadd, 1) := by decide +kernel
theorem dX9_lots_127 : decode cX9_lots 127 = .ok (.iastore, 1) := by decide +kernel
theorem dX9_lots_128 : decode cX9_lots 128 = .ok (.goto 48, 3) := by decide +kernel
theorem dX9_lots_131 : decode cX9_lots 131 = .ok (.lload_n 3, 1) := by decide +kernel
theorem dX9_lots_132 : decode cX9_lots 132 = .ok (.ldc2_w 217, 3) := by decide +kernel
theorem dX9_lots_135 : decode cX9_lots 135 = .ok (.lrem, 1) := by decide +kernel
theorem dX9_lots_136 : decode cX9_lots 136 = .ok (.lconst 1, 1) := by decide +kernel
theorem dX9_lots_137 : decode cX9_lots 137 = .ok (.lcmp, 1) := by decide +kernel
theorem dX9_lots_138 : decode cX9_lots 138 = .ok (.ifCond .ne 25, 3) := by decide +kernel
theorem dX9_lots_141 : decode cX9_lots 141 = .ok (.aload_n 0, 1) := by decide +kernel
theorem dX9_lots_142 : decode cX9_lots 142 = .ok (.getfield 7, 3) := by decide +kernel
theorem dX9_lots_145 : decode cX9_lots 145 = .ok (.iconst 3, 1) := by decide +kernel
theorem dX9_lots_146 : decode cX9_lots 146 = .ok (.iload 6, 2) := by decide +kernel
theorem dX9_lots_148 : decode cX9_lots 148 = .ok (.iadd, 1) := by decide +kernel
theorem dX9_lots_149 : decode cX9_lots 149 = .ok (.lload_n 3, 1) := by decide +kernel
theorem dX9_lots_150 : decode cX9_lots 150 = .ok (.ldc2_w 245, 3) := by decide +kernel
theorem dX9_lots_153 : decode cX9_lots 153 = .ok (.ldiv, 1) := by decide +kernel
theorem dX9_lots_154 : decode cX9_lots 154 = .ok (.ldc2_w 184, 3) := by decide +kernel
theorem dX9_lots_157 : decode cX9_lots 157 = .ok (.lrem, 1) := by decide +kernel
theorem dX9_lots_158 : decode cX9_lots 158 = .ok (.l2i, 1) := by decide +kernel
theorem dX9_lots_159 : decode cX9_lots 159 = .ok (.iastore, 1) := by decide +kernel
theorem dX9_lots_160 : decode cX9_lots 160 = .ok (.goto 16, 3) := by decide +kernel
theorem dX9_lots_163 : decode cX9_lots 163 = .ok (.aload_n 0, 1) := by decide +kernel
theorem dX9_lots_164 : decode cX9_lots 164 = .ok (.getfield 7, 3) := by decide +kernel
theorem dX9_lots_167 : decode cX9_lots 167 = .ok (.iconst 2, 1) := by decide +kernel
theorem dX9_lots_168 : decode cX9_lots 168 = .ok (.dup2, 1) := by decide +kernel
theorem dX9_lots_169 : decode cX9_lots 169 = .ok (.iaload, 1) := by decide +kernel
theorem dX9_lots_170 : decode cX9_lots 170 = .ok (.iconst 1, 1) := by decide +kernel
theorem dX9_lots_171 : decode cX9_lots 171 = .ok (.iload 6, 2) := by decide +kernel
theorem dX9_lots_173 : decode cX9_lots 173 = .ok (.ishl, 1) := by decide +kernel
theorem dX9_lots_174 : decode cX9_lots 174 = .ok (.ixor, 1) := by decide +kernel
theorem dX9_lots_175 : decode cX9_lots 175 = .ok (.iastore, 1) := by decide +kernel
theorem dX9_lots_176 : decode cX9_lots 176 = .ok (.iinc 5 1, 3) := by decide +kernel
theorem dX9_lots_179 : decode cX9_lots 179 = .ok (.goto (-118), 3) := by decide +kernel
theorem dX9_lots_182 : decode cX9_lots 182 = .ok (.aload_n 0, 1) := by decide +kernel
theorem dX9_lots_183 : decode cX9_lots 183 = .ok (.invokevirtual 149, 3) := by decide +kernel
theorem dX9_lots_186 : decode cX9_lots 186 = .ok (.ireturn, 1) := by decide +kernel
theorem dX9_asked_0 : decode cX9_asked 0 = .ok (.aload_n 0, 1) := by decide +kernel
theorem dX9_asked_1 : decode cX9_asked 1 = .ok (.getfield 57, 3) := by decide +kernel
theorem dX9_asked_4 : decode cX9_asked 4 = .ok (.ireturn, 1) := by decide +kernel
theorem dX9_upper_0 : decode cX9_upper 0 = .ok (.aload_n 0, 1) := by decide +kernel
theorem dX9_upper_1 : decode cX9_upper 1 = .ok (.getfield 223, 3) := by decide +kernel
theorem dX9_upper_4 : decode cX9_upper 4 = .ok (.lreturn, 1) := by decide +kernel
theorem dX9_lower_0 : decode cX9_lower 0 = .ok (.aload_n 0, 1) := by decide +kernel
theorem dX9_lower_1 : decode cX9_lower 1 = .ok (.getfield 28, 3) := by decide +kernel
theorem dX9_lower_4 : decode cX9_lower 4 = .ok (.lreturn, 1) := by decide +kernel
theorem dX9_manyOf_0 : decode cX9_manyOf 0 = .ok (.iconst 0, 1) := by decide +kernel
theorem dX9_manyOf_1 : decode cX9_manyOf 1 = .ok (.istore_n 3, 1) := by decide +kernel
theorem dX9_manyOf_2 : decode cX9_manyOf 2 = .ok (.iconst 0, 1) := by decide +kernel
theorem dX9_manyOf_3 : decode cX9_manyOf 3 = .ok (.istore 4, 2) := by decide +kernel
theorem dX9_manyOf_5 : decode cX9_manyOf 5 = .ok (.iload 4, 2) := by decide +kernel
theorem dX9_manyOf_7 : decode cX9_manyOf 7 = .ok (.aload_n 0, 1) := by decide +kernel
theorem dX9_manyOf_8 : decode cX9_manyOf 8 = .ok (.getfield 7, 3) := by decide +kernel
theorem dX9_manyOf_11 : decode cX9_manyOf 11 = .ok (.iconst 0, 1) := by decide +kernel
theorem dX9_manyOf_12 : decode cX9_manyOf 12 = .ok (.iaload, 1) := by decide +kernel
theorem dX9_manyOf_13 : decode cX9_manyOf 13 = .ok (.if_icmp .ge 45, 3) := by decide +kernel
theorem dX9_manyOf_16 : decode cX9_manyOf 16 = .ok (.iload_n 3, 1) := by decide +kernel
theorem dX9_manyOf_17 : decode cX9_manyOf 17 = .ok (.aload_n 0, 1) := by decide +kernel
theorem dX9_manyOf_18 : decode cX9_manyOf 18 = .ok (.getfield 7, 3) := by decide +kernel
theorem dX9_manyOf_21 : decode cX9_manyOf 21 = .ok (.bipush 11, 2) := by decide +kernel
theorem dX9_manyOf_23 : decode cX9_manyOf 23 = .ok (.iload 4, 2) := by decide +kernel
theorem dX9_manyOf_25 : decode cX9_manyOf 25 = .ok (.iadd, 1) := by decide +kernel
theorem dX9_manyOf_26 : decode cX9_manyOf 26 = .ok (.iaload, 1) := by decide +kernel
theorem dX9_manyOf_27 : decode cX9_manyOf 27 = .ok (.iload_n 1, 1) := by decide +kernel
theorem dX9_manyOf_28 : decode cX9_manyOf 28 = .ok (.if_icmp .eq 17, 3) := by decide +kernel
theorem dX9_manyOf_31 : decode cX9_manyOf 31 = .ok (.aload_n 0, 1) := by decide +kernel
theorem dX9_manyOf_32 : decode cX9_manyOf 32 = .ok (.getfield 7, 3) := by decide +kernel
theorem dX9_manyOf_35 : decode cX9_manyOf 35 = .ok (.bipush 11, 2) := by decide +kernel
theorem dX9_manyOf_37 : decode cX9_manyOf 37 = .ok (.iload 4, 2) := by decide +kernel
theorem dX9_manyOf_39 : decode cX9_manyOf 39 = .ok (.iadd, 1) := by decide +kernel
theorem dX9_manyOf_40 : decode cX9_manyOf 40 = .ok (.iaload, 1) := by decide +kernel
theorem dX9_manyOf_41 : decode cX9_manyOf 41 = .ok (.iload_n 2, 1) := by decide +kernel
theorem dX9_manyOf_42 : decode cX9_manyOf 42 = .ok (.if_icmp .ne 7, 3) := by decide +kernel
theorem dX9_manyOf_45 : decode cX9_manyOf 45 = .ok (.iconst 1, 1) := by decide +kernel
theorem dX9_manyOf_46 : decode cX9_manyOf 46 = .ok (.goto 4, 3) := by decide +kernel
theorem dX9_manyOf_49 : decode cX9_manyOf 49 = .ok (.iconst 0, 1) := by decide +kernel
theorem dX9_manyOf_50 : decode cX9_manyOf 50 = .ok (.iadd, 1) := by decide +kernel
theorem dX9_manyOf_51 : decode cX9_manyOf 51 = .ok (.istore_n 3, 1) := by decide +kernel
theorem dX9_manyOf_52 : decode cX9_manyOf 52 = .ok (.iinc 4 1, 3) := by decide +kernel
theorem dX9_manyOf_55 : decode cX9_manyOf 55 = .ok (.goto (-50), 3) := by decide +kernel
theorem dX9_manyOf_58 : decode cX9_manyOf 58 = .ok (.iload_n 3, 1) := by decide +kernel
theorem dX9_manyOf_59 : decode cX9_manyOf 59 = .ok (.ireturn, 1) := by decide +kernel
theorem dX9_rowsThere_0 : decode cX9_rowsThere 0 = .ok (.iconst 0, 1) := by decide +kernel
theorem dX9_rowsThere_1 : decode cX9_rowsThere 1 = .ok (.istore_n 1, 1) := by decide +kernel
theorem dX9_rowsThere_2 : decode cX9_rowsThere 2 = .ok (.iconst 0, 1) := by decide +kernel
theorem dX9_rowsThere_3 : decode cX9_rowsThere 3 = .ok (.istore_n 2, 1) := by decide +kernel
theorem dX9_rowsThere_4 : decode cX9_rowsThere 4 = .ok (.iload_n 2, 1) := by decide +kernel
theorem dX9_rowsThere_5 : decode cX9_rowsThere 5 = .ok (.bipush 6, 2) := by decide +kernel
theorem dX9_rowsThere_7 : decode cX9_rowsThere 7 = .ok (.if_icmp .ge 26, 3) := by decide +kernel
theorem dX9_rowsThere_10 : decode cX9_rowsThere 10 = .ok (.iload_n 1, 1) := by decide +kernel
theorem dX9_rowsThere_11 : decode cX9_rowsThere 11 = .ok (.aload_n 0, 1) := by decide +kernel
theorem dX9_rowsThere_12 : decode cX9_rowsThere 12 = .ok (.getfield 13, 3) := by decide +kernel
theorem dX9_rowsThere_15 : decode cX9_rowsThere 15 = .ok (.iload_n 2, 1) := by decide +kernel
theorem dX9_rowsThere_16 : decode cX9_rowsThere 16 = .ok (.iaload, 1) := by decide +kernel
theorem dX9_rowsThere_17 : decode cX9_rowsThere 17 = .ok (.ifCond .ge 7, 3) := by decide +kernel
theorem dX9_rowsThere_20 : decode cX9_rowsThere 20 = .ok (.iconst 0, 1) := by decide +kernel
theorem dX9_rowsThere_21 : decode cX9_rowsThere 21 = .ok (.goto 4, 3) := by decide +kernel
theorem dX9_rowsThere_24 : decode cX9_rowsThere 24 = .ok (.iconst 1, 1) := by decide +kernel
theorem dX9_rowsThere_25 : decode cX9_rowsThere 25 = .ok (.iadd, 1) := by decide +kernel
theorem dX9_rowsThere_26 : decode cX9_rowsThere 26 = .ok (.istore_n 1, 1) := by decide +kernel
theorem dX9_rowsThere_27 : decode cX9_rowsThere 27 = .ok (.iinc 2 1, 3) := by decide +kernel
theorem dX9_rowsThere_30 : decode cX9_rowsThere 30 = .ok (.goto (-26), 3) := by decide +kernel
theorem dX9_rowsThere_33 : decode cX9_rowsThere 33 = .ok (.iload_n 1, 1) := by decide +kernel
theorem dX9_rowsThere_34 : decode cX9_rowsThere 34 = .ok (.ireturn, 1) := by decide +kernel
theorem dX9_textsThere_0 : decode cX9_textsThere 0 = .ok (.iconst 0, 1) := by decide +kernel
theorem dX9_textsThere_1 : decode cX9_textsThere 1 = .ok (.istore_n 1, 1) := by decide +kernel
theorem dX9_textsThere_2 : decode cX9_textsThere 2 = .ok (.iconst 0, 1) := by decide +kernel
theorem dX9_textsThere_3 : decode cX9_textsThere 3 = .ok (.istore_n 2, 1) := by decide +kernel
theorem dX9_textsThere_4 : decode cX9_textsThere 4 = .ok (.iload_n 2, 1) := by decide +kernel
theorem dX9_textsThere_5 : decode cX9_textsThere 5 = .ok (.iconst 4, 1) := by decide +kernel
theorem dX9_textsThere_6 : decode cX9_textsThere 6 = .ok (.if_icmp .ge 26, 3) := by decide +kernel
theorem dX9_textsThere_9 : decode cX9_textsThere 9 = .ok (.iload_n 1, 1) := by decide +kernel
theorem dX9_textsThere_10 : decode cX9_textsThere 10 = .ok (.aload_n 0, 1) := by decide +kernel
theorem dX9_textsThere_11 : decode cX9_textsThere 11 = .ok (.getfield 19, 3) := by decide +kernel
theorem dX9_textsThere_14 : decode cX9_textsThere 14 = .ok (.iload_n 2, 1) := by decide +kernel
theorem dX9_textsThere_15 : decode cX9_textsThere 15 = .ok (.iaload, 1) := by decide +kernel
theorem dX9_textsThere_16 : decode cX9_textsThere 16 = .ok (.ifCond .ge 7, 3) := by decide +kernel
theorem dX9_textsThere_19 : decode cX9_textsThere 19 = .ok (.iconst 0, 1) := by decide +kernel
theorem dX9_textsThere_20 : decode cX9_textsThere 20 = .ok (.goto 4, 3) := by decide +kernel
theorem dX9_textsThere_23 : decode cX9_textsThere 23 = .ok (.iconst 1, 1) := by decide +kernel
theorem dX9_textsThere_24 : decode cX9_textsThere 24 = .ok (.iadd, 1) := by decide +kernel
theorem dX9_textsThere_25 : decode cX9_textsThere 25 = .ok (.istore_n 1, 1) := by decide +kernel
theorem dX9_textsThere_26 : decode cX9_textsThere 26 = .ok (.iinc 2 1, 3) := by decide +kernel
theorem dX9_textsThere_29 : decode cX9_textsThere 29 = .ok (.goto (-25), 3) := by decide +kernel
theorem dX9_textsThere_32 : decode cX9_textsThere 32 = .ok (.iload_n 1, 1) := by decide +kernel
theorem dX9_textsThere_33 : decode cX9_textsThere 33 = .ok (.ireturn, 1) := by decide +kernel
theorem dX9_banksKept_0 : decode cX9_banksKept 0 = .ok (.iconst 0, 1) := by decide +kernel
theorem dX9_banksKept_1 : decode cX9_banksKept 1 = .ok (.istore_n 1, 1) := by decide +kernel
theorem dX9_banksKept_2 : decode cX9_banksKept 2 = .ok (.iconst 0, 1) := by decide +kernel
theorem dX9_banksKept_3 : decode cX9_banksKept 3 = .ok (.istore_n 2, 1) := by decide +kernel
theorem dX9_banksKept_4 : decode cX9_banksKept 4 = .ok (.iload_n 2, 1) := by decide +kernel
theorem dX9_banksKept_5 : decode cX9_banksKept 5 = .ok (.iconst 3, 1) := by decide +kernel
theorem dX9_banksKept_6 : decode cX9_banksKept 6 = .ok (.if_icmp .ge 36, 3) := by decide +kernel
theorem dX9_banksKept_9 : decode cX9_banksKept 9 = .ok (.iload_n 1, 1) := by decide +kernel
theorem dX9_banksKept_10 : decode cX9_banksKept 10 = .ok (.aload_n 0, 1) := by decide +kernel
theorem dX9_banksKept_11 : decode cX9_banksKept 11 = .ok (.getfield 7, 3) := by decide +kernel
theorem dX9_banksKept_14 : decode cX9_banksKept 14 = .ok (.sipush 444, 3) := by decide +kernel
theorem dX9_banksKept_17 : decode cX9_banksKept 17 = .ok (.sipush 444, 3) := by decide +kernel
theorem dX9_banksKept_20 : decode cX9_banksKept 20 = .ok (.iload_n 2, 1) := by decide +kernel
theorem dX9_banksKept_21 : decode cX9_banksKept 21 = .ok (.imul, 1) := by decide +kernel
theorem dX9_banksKept_22 : decode cX9_banksKept 22 = .ok (.iadd, 1) := by decide +kernel
theorem dX9_banksKept_23 : decode cX9_banksKept 23 = .ok (.iconst 0, 1) := by decide +kernel
theorem dX9_banksKept_24 : decode cX9_banksKept 24 = .ok (.iadd, 1) := by decide +kernel
theorem dX9_banksKept_25 : decode cX9_banksKept 25 = .ok (.iaload, 1) := by decide +kernel
theorem dX9_banksKept_26 : decode cX9_banksKept 26 = .ok (.ifCond .ne 7, 3) := by decide +kernel
theorem dX9_banksKept_29 : decode cX9_banksKept 29 = .ok (.iconst 0, 1) := by decide +kernel
theorem dX9_banksKept_30 : decode cX9_banksKept 30 = .ok (.goto 4, 3) := by decide +kernel
theorem dX9_banksKept_33 : decode cX9_banksKept 33 = .ok (.iconst 1, 1) := by decide +kernel
theorem dX9_banksKept_34 : decode cX9_banksKept 34 = .ok (.iadd, 1) := by decide +kernel
theorem dX9_banksKept_35 : decode cX9_banksKept 35 = .ok (.istore_n 1, 1) := by decide +kernel
theorem dX9_banksKept_36 : decode cX9_banksKept 36 = .ok (.iinc 2 1, 3) := by decide +kernel
theorem dX9_banksKept_39 : decode cX9_banksKept 39 = .ok (.goto (-35), 3) := by decide +kernel
theorem dX9_banksKept_42 : decode cX9_banksKept 42 = .ok (.iload_n 1, 1) := by decide +kernel
theorem dX9_banksKept_43 : decode cX9_banksKept 43 = .ok (.ireturn, 1) := by decide +kernel
theorem dX9_count_0 : decode cX9_count 0 = .ok (.iload_n 1, 1) := by decide +kernel
theorem dX9_count_1 : decode cX9_count 1 = .ok (.tableswitch 118 0 9 #[55, 62, 69, 77, 84, 89, 96, 103, 108, 113], 55) := by decide +kernel
theorem dX9_count_56 : decode cX9_count 56 = .ok (.aload_n 0, 1) := by decide +kernel
theorem dX9_count_57 : decode cX9_count 57 = .ok (.getfield 7, 3) := by decide +kernel
theorem dX9_count_60 : decode cX9_count 60 = .ok (.iconst 0, 1) := by decide +kernel
theorem dX9_count_61 : decode cX9_count 61 = .ok (.iaload, 1) := by decide +kernel
theorem dX9_count_62 : decode cX9_count 62 = .ok (.ireturn, 1) := by decide +kernel
theorem dX9_count_63 : decode cX9_count 63 = .ok (.aload_n 0, 1) := by decide +kernel
theorem dX9_count_64 : decode cX9_count 64 = .ok (.getfield 7, 3) := by decide +kernel
theorem dX9_count_67 : decode cX9_count 67 = .ok (.iconst 1, 1) := by decide +kernel
theorem dX9_count_68 : decode cX9_count 68 = .ok (.iaload, 1) := by decide +kernel
theorem dX9_count_69 : decode cX9_count 69 = .ok (.ireturn, 1) := by decide +kernel
theorem dX9_count_70 : decode cX9_count 70 = .ok (.aload_n 0, 1) := by decide +kernel
theorem dX9_count_71 : decode cX9_count 71 = .ok (.getfield 7, 3) := by decide +kernel
theorem dX9_count_74 : decode cX9_count 74 = .ok (.bipush 43, 2) := by decide +kernel
theorem dX9_count_76 : decode cX9_count 76 = .ok (.iaload, 1) := by decide +kernel
theorem dX9_count_77 : decode cX9_count 77 = .ok (.ireturn, 1) := by decide +kernel
theorem dX9_count_78 : decode cX9_count 78 = .ok (.aload_n 0, 1) := by decide +kernel
theorem dX9_count_79 : decode cX9_count 79 = .ok (.getfield 7, 3) := by decide +kernel
theorem dX9_count_82 : decode cX9_count 82 = .ok (.iconst 2, 1) := by decide +kernel
theorem dX9_count_83 : decode cX9_count 83 = .ok (.iaload, 1) := by decide +kernel
theorem dX9_count_84 : decode cX9_count 84 = .ok (.ireturn, 1) := by decide +kernel
theorem dX9_count_85 : decode cX9_count 85 = .ok (.aload_n 0, 1) := by decide +kernel
theorem dX9_count_86 : decode cX9_count 86 = .ok (.invokevirtual 149, 3) := by decide +kernel
theorem dX9_count_89 : decode cX9_count 89 = .ok (.ireturn, 1) := by decide +kernel
theorem dX9_count_90 : decode cX9_count 90 = .ok (.aload_n 0, 1) := by decide +kernel
theorem dX9_count_91 : decode cX9_count 91 = .ok (.iconst 3, 1) := by decide +kernel
theorem dX9_count_92 : decode cX9_count 92 = .ok (.iconst 5, 1) := by decide +kernel
theorem dX9_count_93 : decode cX9_count 93 = .ok (.invokevirtual 247, 3) := by decide +kernel
theorem dX9_count_96 : decode cX9_count 96 = .ok (.ireturn, 1) := by decide +kernel
theorem dX9_count_97 : decode cX9_count 97 = .ok (.aload_n 0, 1) := by decide +kernel
theorem dX9_count_98 : decode cX9_count 98 = .ok (.iconst 2, 1) := by decide +kernel
theorem dX9_count_99 : decode cX9_count 99 = .ok (.iconst 4, 1) := by decide +kernel
theorem dX9_count_100 : decode cX9_count 100 = .ok (.invokevirtual 247, 3) := by decide +kernel
theorem dX9_count_103 : decode cX9_count 103 = .ok (.ireturn, 1) := by decide +kernel
theorem dX9_count_104 : decode cX9_count 104 = .ok (.aload_n 0, 1) := by decide +kernel
theorem dX9_count_105 : decode cX9_count 105 = .ok (.invokevirtual 250, 3) := by decide +kernel
theorem dX9_count_108 : decode cX9_count 108 = .ok (.ireturn, 1) := by decide +kernel
theorem dX9_count_109 : decode cX9_count 109 = .ok (.aload_n 0, 1) := by decide +kernel
theorem dX9_count_110 : decode cX9_count 110 = .ok (.invokevirtual 253, 3) := by decide +kernel
theorem dX9_count_113 : decode cX9_count 113 = .ok (.ireturn, 1) := by decide +kernel
theorem dX9_count_114 : decode cX9_count 114 = .ok (.aload_n 0, 1) := by decide +kernel
theorem dX9_count_115 : decode cX9_count 115 = .ok (.invokevirtual 256, 3) := by decide +kernel
theorem dX9_count_118 : decode cX9_count 118 = .ok (.ireturn, 1) := by decide +kernel
theorem dX9_count_119 : decode cX9_count 119 = .ok (.iconst (-1), 1) := by decide +kernel
theorem dX9_count_120 : decode cX9_count 120 = .ok (.ireturn, 1) := by decide +kernel
theorem dX9_finding_0 : decode cX9_finding 0 = .ok (.aload_n 0, 1) := by decide +kernel
theorem dX9_finding_1 : decode cX9_finding 1 = .ok (.getfield 53, 3) := by decide +kernel
theorem dX9_finding_4 : decode cX9_finding 4 = .ok (.ireturn, 1) := by decide +kernel
theorem dX9_findings_0 : decode cX9_findings 0 = .ok (.iload_n 1, 1) := by decide +kernel
theorem dX9_findings_1 : decode cX9_findings 1 = .ok (.i2l, 1) := by decide +kernel
theorem dX9_findings_2 : decode cX9_findings 2 = .ok (.lconst 1, 1) := by decide +kernel
theorem dX9_findings_3 : decode cX9_findings 3 = .ok (.ldc2_w 60, 3) := by decide +kernel
theorem dX9_findings_6 : decode cX9_findings 6 = .ok (.invokestatic 62, 3) := by decide +kernel
theorem dX9_findings_9 : decode cX9_findings 9 = .ok (.ifCond .eq 12, 3) := by decide +kernel
theorem dX9_findings_12 : decode cX9_findings 12 = .ok (.aload_n 0, 1) := by decide +kernel
theorem dX9_findings_13 : decode cX9_findings 13 = .ok (.getfield 25, 3) := by decide +kernel
theorem dX9_findings_16 : decode cX9_findings 16 = .ok (.iload_n 1, 1) := by decide +kernel
theorem dX9_findings_17 : decode cX9_findings 17 = .ok (.iaload, 1) := by decide +kernel
theorem dX9_findings_18 : decode cX9_findings 18 = .ok (.goto 4, 3) := by decide +kernel
theorem dX9_findings_21 : decode cX9_findings 21 = .ok (.iconst (-1), 1) := by decide +kernel
theorem dX9_findings_22 : decode cX9_findings 22 = .ok (.ireturn, 1) := by decide +kernel
theorem dX9_mix_0 : decode cX9_mix 0 = .ok (.aload_n 0, 1) := by decide +kernel
theorem dX9_mix_1 : decode cX9_mix 1 = .ok (.ldc2_w 259, 3) := by decide +kernel
theorem dX9_mix_4 : decode cX9_mix 4 = .ok (.aload_n 0, 1) := by decide +kernel
theorem dX9_mix_5 : decode cX9_mix 5 = .ok (.getfield 261, 3) := by decide +kernel
theorem dX9_mix_8 : decode cX9_mix 8 = .ok (.lmul, 1) := by decide +kernel
theorem dX9_mix_9 : decode cX9_mix 9 = .ok (.lload_n 1, 1) := by decide +kernel
theorem dX9_mix_10 : decode cX9_mix 10 = .ok (.ladd, 1) := by decide +kernel
theorem dX9_mix_11 : decode cX9_mix 11 = .ok (.putfield 261, 3) := by decide +kernel
theorem dX9_mix_14 : decode cX9_mix 14 = .ok (.return_, 1) := by decide +kernel
theorem dX9_digest_0 : decode cX9_digest 0 = .ok (.aload_n 0, 1) := by decide +kernel
theorem dX9_digest_1 : decode cX9_digest 1 = .ok (.ldc2_w 264, 3) := by decide +kernel
theorem dX9_digest_4 : decode cX9_digest 4 = .ok (.putfield 261, 3) := by decide +kernel
theorem dX9_digest_7 : decode cX9_digest 7 = .ok (.iconst 0, 1) := by decide +kernel
theorem dX9_digest_8 : decode cX9_digest 8 = .ok (.istore_n 1, 1) := by decide +kernel
theorem dX9_digest_9 : decode cX9_digest 9 = .ok (.iload_n 1, 1) := by decide +kernel
theorem dX9_digest_10 : decode cX9_digest 10 = .ok (.bipush 10, 2) := by decide +kernel
theorem dX9_digest_12 : decode cX9_digest 12 = .ok (.if_icmp .ge 19, 3) := by decide +kernel
theorem dX9_digest_15 : decode cX9_digest 15 = .ok (.aload_n 0, 1) := by decide +kernel
theorem dX9_digest_16 : decode cX9_digest 16 = .ok (.aload_n 0, 1) := by decide +kernel
theorem dX9_digest_17 : decode cX9_digest 17 = .ok (.iload_n 1, 1) := by decide +kernel
theorem dX9_digest_18 : decode cX9_digest 18 = .ok (.invokevirtual 266, 3) := by decide +kernel
theorem dX9_digest_21 : decode cX9_digest 21 = .ok (.i2l, 1) := by decide +kernel
theorem dX9_digest_22 : decode cX9_digest 22 = .ok (.invokevirtual 269, 3) := by decide +kernel
theorem dX9_digest_25 : decode cX9_digest 25 = .ok (.iinc 1 1, 3) := by decide +kernel
theorem dX9_digest_28 : decode cX9_digest 28 = .ok (.goto (-19), 3) := by decide +kernel
theorem dX9_digest_31 : decode cX9_digest 31 = .ok (.iconst 0, 1) := by decide +kernel
theorem dX9_digest_32 : decode cX9_digest 32 = .ok (.istore_n 1, 1) := by decide +kernel
theorem dX9_digest_33 : decode cX9_digest 33 = .ok (.iload_n 1, 1) := by decide +kernel
theorem dX9_digest_34 : decode cX9_digest 34 = .ok (.aload_n 0, 1) := by decide +kernel
theorem dX9_digest_35 : decode cX9_digest 35 = .ok (.getfield 7, 3) := by decide +kernel
theorem dX9_digest_38 : decode cX9_digest 38 = .ok (.iconst 0, 1) := by decide +kernel
theorem dX9_digest_39 : decode cX9_digest 39 = .ok (.iaload, 1) := by decide +kernel
theorem dX9_digest_40 : decode cX9_digest 40 = .ok (.if_icmp .ge 34, 3) := by decide +kernel
theorem dX9_digest_43 : decode cX9_digest 43 = .ok (.iconst 0, 1) := by decide +kernel
theorem dX9_digest_44 : decode cX9_digest 44 = .ok (.istore_n 2, 1) := by decide +kernel
theorem dX9_digest_45 : decode cX9_digest 45 = .ok (.iload_n 2, 1) := by decide +kernel
theorem dX9_digest_46 : decode cX9_digest 46 = .ok (.bipush 7, 2) := by decide +kernel
theorem dX9_digest_48 : decode cX9_digest 48 = .ok (.if_icmp .ge 20, 3) := by decide +kernel
theorem dX9_digest_51 : decode cX9_digest 51 = .ok (.aload_n 0, 1) := by decide +kernel
theorem dX9_digest_52 : decode cX9_digest 52 = .ok (.aload_n 0, 1) := by decide +kernel
theorem dX9_digest_53 : decode cX9_digest 53 = .ok (.iload_n 1, 1) := by decide +kernel
theorem dX9_digest_54 : decode cX9_digest 54 = .ok (.iload_n 2, 1) := by decide +kernel
theorem dX9_digest_55 : decode cX9_digest 55 = .ok (.invokevirtual 132, 3) := by decide +kernel
theorem dX9_digest_58 : decode cX9_digest 58 = .ok (.i2l, 1) := by decide +kernel
theorem dX9_digest_59 : decode cX9_digest 59 = .ok (.invokevirtual 269, 3) := by decide +kernel
theorem dX9_digest_62 : decode cX9_digest 62 = .ok (.iinc 2 1, 3) := by decide +kernel
theorem dX9_digest_65 : decode cX9_digest 65 = .ok (.goto (-20), 3) := by decide +kernel
theorem dX9_digest_68 : decode cX9_digest 68 = .ok (.iinc 1 1, 3) := by decide +kernel
theorem dX9_digest_71 : decode cX9_digest 71 = .ok (.goto (-38), 3) := by decide +kernel
theorem dX9_digest_74 : decode cX9_digest 74 = .ok (.iconst 0, 1) := by decide +kernel
theorem dX9_digest_75 : decode cX9_digest 75 = .ok (.istore_n 1, 1) := by decide +kernel
theorem dX9_digest_76 : decode cX9_digest 76 = .ok (.iload_n 1, 1) := by decide +kernel
theorem dX9_digest_77 : decode cX9_digest 77 = .ok (.iconst 3, 1) := by decide +kernel
theorem dX9_digest_78 : decode cX9_digest 78 = .ok (.if_icmp .ge 56, 3) := by decide +kernel
theorem dX9_digest_81 : decode cX9_digest 81 = .ok (.aload_n 0, 1) := by decide +kernel
theorem dX9_digest_82 : decode cX9_digest 82 = .ok (.aload_n 0, 1) := by decide +kernel
theorem dX9_digest_83 : decode cX9_digest 83 = .ok (.getfield 7, 3) := by decide +kernel
theorem dX9_digest_86 : decode cX9_digest 86 = .ok (.sipush 444, 3) := by decide +kernel
theorem dX9_digest_89 : decode cX9_digest 89 = .ok (.sipush 444, 3) := by decide +kernel
theorem dX9_digest_92 : decode cX9_digest 92 = .ok (.iload_n 1, 1) := by decide +kernel
theorem dX9_digest_93 : decode cX9_digest 93 = .ok (.imul, 1) := by decide +kernel
theorem dX9_digest_94 : decode cX9_digest 94 = .ok (.iadd, 1) := by decide +kernel
theorem dX9_digest_95 : decode cX9_digest 95 = .ok (.iconst 0, 1) := by decide +kernel
theorem dX9_digest_96 : decode cX9_digest 96 = .ok (.iadd, 1) := by decide +kernel
theorem dX9_digest_97 : decode cX9_digest 97 = .ok (.iaload, 1) := by decide +kernel
theorem dX9_digest_98 : decode cX9_digest 98 = .ok (.ifCond .ne 9, 3) := by decide +kernel
theorem dX9_digest_101 : decode cX9_digest 101 = .ok (.ldc2_w 273, 3) := by decide +kernel
theorem dX9_digest_104 : decode cX9_digest 104 = .ok (.goto 21, 3) := by decide +kernel
theorem dX9_digest_107 : decode cX9_digest 107 = .ok (.aload_n 0, 1) := by decide +kernel
theorem dX9_digest_108 : decode cX9_digest 108 = .ok (.getfield 7, 3) := by decide +kernel
theorem dX9_digest_111 : decode cX9_digest 111 = .ok (.sipush 444, 3) := by decide +kernel
theorem dX9_digest_114 : decode cX9_digest 114 = .ok (.sipush 444, 3) := by decide +kernel
theorem dX9_digest_117 : decode cX9_digest 117 = .ok (.iload_n 1, 1) := by decide +kernel
theorem dX9_digest_118 : decode cX9_digest 118 = .ok (.imul, 1) := by decide +kernel
theorem dX9_digest_119 : decode cX9_digest 119 = .ok (.iadd, 1) := by decide +kernel
theorem dX9_digest_120 : decode cX9_digest 120 = .ok (.bipush 43, 2) := by decide +kernel
theorem dX9_digest_122 : decode cX9_digest 122 = .ok (.iadd, 1) := by decide +kernel
theorem dX9_digest_123 : decode cX9_digest 123 = .ok (.iaload, 1) := by decide +kernel
theorem dX9_digest_124 : decode cX9_digest 124 = .ok (.i2l, 1) := by decide +kernel
theorem dX9_digest_125 : decode cX9_digest 125 = .ok (.invokevirtual 269, 3) := by decide +kernel
theorem dX9_digest_128 : decode cX9_digest 128 = .ok (.iinc 1 1, 3) := by decide +kernel
theorem dX9_digest_131 : decode cX9_digest 131 = .ok (.goto (-55), 3) := by decide +kernel
theorem dX9_digest_134 : decode cX9_digest 134 = .ok (.iconst 0, 1) := by decide +kernel
theorem dX9_digest_135 : decode cX9_digest 135 = .ok (.istore_n 1, 1) := by decide +kernel
theorem dX9_digest_136 : decode cX9_digest 136 = .ok (.iload_n 1, 1) := by decide +kernel
theorem dX9_digest_137 : decode cX9_digest 137 = .ok (.bipush 6, 2) := by decide +kernel
theorem dX9_digest_139 : decode cX9_digest 139 = .ok (.if_icmp .ge 54, 3) := by decide +kernel
theorem dX9_digest_142 : decode cX9_digest 142 = .ok (.aload_n 0, 1) := by decide +kernel
theorem dX9_digest_143 : decode cX9_digest 143 = .ok (.aload_n 0, 1) := by decide +kernel
theorem dX9_digest_144 : decode cX9_digest 144 = .ok (.getfield 13, 3) := by decide +kernel
theorem dX9_digest_147 : decode cX9_digest 147 = .ok (.iload_n 1, 1) := by decide +kernel
theorem dX9_digest_148 : decode cX9_digest 148 = .ok (.iaload, 1) := by decide +kernel
theorem dX9_digest_149 : decode cX9_digest 149 = .ok (.i2l, 1) := by decide +kernel
theorem dX9_digest_150 : decode cX9_digest 150 = .ok (.invokevirtual 269, 3) := by decide +kernel
theorem dX9_digest_153 : decode cX9_digest 153 = .ok (.iconst 0, 1) := by decide +kernel
theorem dX9_digest_154 : decode cX9_digest 154 = .ok (.istore_n 2, 1) := by decide +kernel
theorem dX9_digest_155 : decode cX9_digest 155 = .ok (.iload_n 2, 1) := by decide +kernel
theorem dX9_digest_156 : decode cX9_digest 156 = .ok (.aload_n 0, 1) := by decide +kernel
theorem dX9_digest_157 : decode cX9_digest 157 = .ok (.getfield 13, 3) := by decide +kernel
theorem dX9_digest_160 : decode cX9_digest 160 = .ok (.iload_n 1, 1) := by decide +kernel
theorem dX9_digest_161 : decode cX9_digest 161 = .ok (.iaload, 1) := by decide +kernel
theorem dX9_digest_162 : decode cX9_digest 162 = .ok (.if_icmp .ge 25, 3) := by decide +kernel
theorem dX9_digest_165 : decode cX9_digest 165 = .ok (.aload_n 0, 1) := by decide +kernel
theorem dX9_digest_166 : decode cX9_digest 166 = .ok (.aload_n 0, 1) := by decide +kernel
theorem dX9_digest_167 : decode cX9_digest 167 = .ok (.getfield 16, 3) := by decide +kernel
theorem dX9_digest_170 : decode cX9_digest 170 = .ok (.bipush 40, 2) := by decide +kernel
theorem dX9_digest_172 : decode cX9_digest 172 = .ok (.iload_n 1, 1) := by decide +kernel
theorem dX9_digest_173 : decode cX9_digest 173 = .ok (.imul, 1) := by decide +kernel
theorem dX9_digest_174 : decode cX9_digest 174 = .ok (.iload_n 2, 1) := by decide +kernel
theorem dX9_digest_175 : decode cX9_digest 175 = .ok (.iadd, 1) := by decide +kernel
theorem dX9_digest_176 : decode cX9_digest 176 = .ok (.iaload, 1) := by decide +kernel
theorem dX9_digest_177 : decode cX9_digest 177 = .ok (.i2l, 1) := by decide +kernel
theorem dX9_digest_178 : decode cX9_digest 178 = .ok (.invokevirtual 269, 3) := by decide +kernel
theorem dX9_digest_181 : decode cX9_digest 181 = .ok (.iinc 2 1, 3) := by decide +kernel
theorem dX9_digest_184 : decode cX9_digest 184 = .ok (.goto (-29), 3) := by decide +kernel
theorem dX9_digest_187 : decode cX9_digest 187 = .ok (.iinc 1 1, 3) := by decide +kernel
theorem dX9_digest_190 : decode cX9_digest 190 = .ok (.goto (-54), 3) := by decide +kernel
theorem dX9_digest_193 : decode cX9_digest 193 = .ok (.iconst 0, 1) := by decide +kernel
theorem dX9_digest_194 : decode cX9_digest 194 = .ok (.istore_n 1, 1) := by decide +kernel
theorem dX9_digest_195 : decode cX9_digest 195 = .ok (.iload_n 1, 1) := by decide +kernel
theorem dX9_digest_196 : decode cX9_digest 196 = .ok (.iconst 4, 1) := by decide +kernel
theorem dX9_digest_197 : decode cX9_digest 197 = .ok (.if_icmp .ge 54, 3) := by decide +kernel
theorem dX9_digest_200 : decode cX9_digest 200 = .ok (.aload_n 0, 1) := by decide +kernel
theorem dX9_digest_201 : decode cX9_digest 201 = .ok (.aload_n 0, 1) := by decide +kernel
theorem dX9_digest_202 : decode cX9_digest 202 = .ok (.getfield 19, 3) := by decide +kernel
theorem dX9_digest_205 : decode cX9_digest 205 = .ok (.iload_n 1, 1) := by decide +kernel
theorem dX9_digest_206 : decode cX9_digest 206 = .ok (.iaload, 1) := by decide +kernel
theorem dX9_digest_207 : decode cX9_digest 207 = .ok (.i2l, 1) := by decide +kernel
theorem dX9_digest_208 : decode cX9_digest 208 = .ok (.invokevirtual 269, 3) := by decide +kernel
theorem dX9_digest_211 : decode cX9_digest 211 = .ok (.iconst 0, 1) := by decide +kernel
theorem dX9_digest_212 : decode cX9_digest 212 = .ok (.istore_n 2, 1) := by decide +kernel
theorem dX9_digest_213 : decode cX9_digest 213 = .ok (.iload_n 2, 1) := by decide +kernel
theorem dX9_digest_214 : decode cX9_digest 214 = .ok (.aload_n 0, 1) := by decide +kernel
theorem dX9_digest_215 : decode cX9_digest 215 = .ok (.getfield 19, 3) := by decide +kernel
theorem dX9_digest_218 : decode cX9_digest 218 = .ok (.iload_n 1, 1) := by decide +kernel
theorem dX9_digest_219 : decode cX9_digest 219 = .ok (.iaload, 1) := by decide +kernel
theorem dX9_digest_220 : decode cX9_digest 220 = .ok (.if_icmp .ge 25, 3) := by decide +kernel
theorem dX9_digest_223 : decode cX9_digest 223 = .ok (.aload_n 0, 1) := by decide +kernel
theorem dX9_digest_224 : decode cX9_digest 224 = .ok (.aload_n 0, 1) := by decide +kernel
theorem dX9_digest_225 : decode cX9_digest 225 = .ok (.getfield 22, 3) := by decide +kernel
theorem dX9_digest_228 : decode cX9_digest 228 = .ok (.bipush 60, 2) := by decide +kernel
theorem dX9_digest_230 : decode cX9_digest 230 = .ok (.iload_n 1, 1) := by decide +kernel
theorem dX9_digest_231 : decode cX9_digest 231 = .ok (.imul, 1) := by decide +kernel
theorem dX9_digest_232 : decode cX9_digest 232 = .ok (.iload_n 2, 1) := by decide +kernel
theorem dX9_digest_233 : decode cX9_digest 233 = .ok (.iadd, 1) := by decide +kernel
theorem dX9_digest_234 : decode cX9_digest 234 = .ok (.iaload, 1) := by decide +kernel
theorem dX9_digest_235 : decode cX9_digest 235 = .ok (.i2l, 1) := by decide +kernel
theorem dX9_digest_236 : decode cX9_digest 236 = .ok (.invokevirtual 269, 3) := by decide +kernel
theorem dX9_digest_239 : decode cX9_digest 239 = .ok (.iinc 2 1, 3) := by decide +kernel
theorem dX9_digest_242 : decode cX9_digest 242 = .ok (.goto (-29), 3) := by decide +kernel
theorem dX9_digest_245 : decode cX9_digest 245 = .ok (.iinc 1 1, 3) := by decide +kernel
theorem dX9_digest_248 : decode cX9_digest 248 = .ok (.goto (-53), 3) := by decide +kernel
theorem dX9_digest_251 : decode cX9_digest 251 = .ok (.aload_n 0, 1) := by decide +kernel
theorem dX9_digest_252 : decode cX9_digest 252 = .ok (.getfield 261, 3) := by decide +kernel
theorem dX9_digest_255 : decode cX9_digest 255 = .ok (.lreturn, 1) := by decide +kernel
end
