section
-- ===== PART A: goes FIRST, ahead of the names: the tables' words, and 'selects' of the private methods out of them =====
/-- a private method of a class that the tables say can be made, by its rows of tables_1 -/
def lw_okq (q : MethodName × Nat) : Prop := (q.1.cls ≠ "java/lang/invoke/MethodHandle" ∧ q.1.cls ≠ "java/lang/invoke/VarHandle") ∧ Cond.instantiable q.1.cls q.2 ∈ tables_1 ∧ Cond.privateMethod q.1 ∈ tables_1 ∧ Cond.instanceMethod q.1 ∈ tables_1
theorem lw_p0 : lw_okq (⟨"GlowDebts", "rowOf", "(I)LGlowDebts$Strip;"⟩, 11) := ⟨⟨by decide +kernel, by decide +kernel⟩, List.mem_of_getElem? (i := 15) (by decide +kernel), List.mem_of_getElem? (i := 140) (by decide +kernel), List.mem_of_getElem? (i := 141) (by decide +kernel)⟩
theorem lw_p1 : lw_okq (⟨"GlowDebts", "makeAnew", "(LGlowDebts$Strip;II)I"⟩, 11) := ⟨⟨by decide +kernel, by decide +kernel⟩, List.mem_of_getElem? (i := 15) (by decide +kernel), List.mem_of_getElem? (i := 144) (by decide +kernel), List.mem_of_getElem? (i := 145) (by decide +kernel)⟩
theorem lw_p2 : lw_okq (⟨"GlowDebts", "refuse", "(I)I"⟩, 11) := ⟨⟨by decide +kernel, by decide +kernel⟩, List.mem_of_getElem? (i := 15) (by decide +kernel), List.mem_of_getElem? (i := 152) (by decide +kernel), List.mem_of_getElem? (i := 153) (by decide +kernel)⟩
theorem lw_p3 : lw_okq (⟨"GlowDebts", "refusedAt", "(LGlowDebts$Strip;I)I"⟩, 11) := ⟨⟨by decide +kernel, by decide +kernel⟩, List.mem_of_getElem? (i := 15) (by decide +kernel), List.mem_of_getElem? (i := 167) (by decide +kernel), List.mem_of_getElem? (i := 168) (by decide +kernel)⟩
theorem lw_p4 : lw_okq (⟨"GlowDebts", "refusedMissing", "(LGlowDebts$Strip;)I"⟩, 11) := ⟨⟨by decide +kernel, by decide +kernel⟩, List.mem_of_getElem? (i := 15) (by decide +kernel), List.mem_of_getElem? (i := 171) (by decide +kernel), List.mem_of_getElem? (i := 172) (by decide +kernel)⟩
theorem lw_p5 : lw_okq (⟨"GlowDebts", "textOf", "(I)LGlowDebts$Strip;"⟩, 11) := ⟨⟨by decide +kernel, by decide +kernel⟩, List.mem_of_getElem? (i := 15) (by decide +kernel), List.mem_of_getElem? (i := 236) (by decide +kernel), List.mem_of_getElem? (i := 237) (by decide +kernel)⟩
theorem lw_p6 : lw_okq (⟨"GlowDebts", "keepOf", "(I)LGlowDebts$Bank;"⟩, 11) := ⟨⟨by decide +kernel, by decide +kernel⟩, List.mem_of_getElem? (i := 15) (by decide +kernel), List.mem_of_getElem? (i := 282) (by decide +kernel), List.mem_of_getElem? (i := 283) (by decide +kernel)⟩
theorem lw_p7 : lw_okq (⟨"GlowDebts$Bank", "write", "(III)V"⟩, 10) := ⟨⟨by decide +kernel, by decide +kernel⟩, List.mem_of_getElem? (i := 25) (by decide +kernel), List.mem_of_getElem? (i := 374) (by decide +kernel), List.mem_of_getElem? (i := 375) (by decide +kernel)⟩
theorem lw_p8 : lw_okq (⟨"GlowDebts$Bank", "takeBack", "(I)V"⟩, 10) := ⟨⟨by decide +kernel, by decide +kernel⟩, List.mem_of_getElem? (i := 25) (by decide +kernel), List.mem_of_getElem? (i := 419) (by decide +kernel), List.mem_of_getElem? (i := 420) (by decide +kernel)⟩
theorem lw_p9 : lw_okq (⟨"GlowDebts$Sets", "sumDebts", "(LGlowDebts$Bank;)I"⟩, 2) := ⟨⟨by decide +kernel, by decide +kernel⟩, List.mem_of_getElem? (i := 64) (by decide +kernel), List.mem_of_getElem? (i := 523) (by decide +kernel), List.mem_of_getElem? (i := 524) (by decide +kernel)⟩
theorem lw_p10 : lw_okq (⟨"GlowDebts$Sets", "sumUp", "()V"⟩, 2) := ⟨⟨by decide +kernel, by decide +kernel⟩, List.mem_of_getElem? (i := 64) (by decide +kernel), List.mem_of_getElem? (i := 530) (by decide +kernel), List.mem_of_getElem? (i := 531) (by decide +kernel)⟩
theorem lw_p11 : lw_okq (⟨"GlowDebts$Chains", "stepsOf", "(I)I"⟩, 1) := ⟨⟨by decide +kernel, by decide +kernel⟩, List.mem_of_getElem? (i := 77) (by decide +kernel), List.mem_of_getElem? (i := 578) (by decide +kernel), List.mem_of_getElem? (i := 579) (by decide +kernel)⟩
theorem lw_p12 : lw_okq (⟨"GlowDebts$Chains", "lowestNearer", "(LGlowDebts$Bank;I)I"⟩, 1) := ⟨⟨by decide +kernel, by decide +kernel⟩, List.mem_of_getElem? (i := 77) (by decide +kernel), List.mem_of_getElem? (i := 588) (by decide +kernel), List.mem_of_getElem? (i := 589) (by decide +kernel)⟩
theorem lw_p13 : lw_okq (⟨"GlowDebts$Sets", "sumGlow", "(LGlowDebts$Bank;I)V"⟩, 2) := ⟨⟨by decide +kernel, by decide +kernel⟩, List.mem_of_getElem? (i := 64) (by decide +kernel), List.mem_of_getElem? (i := 601) (by decide +kernel), List.mem_of_getElem? (i := 602) (by decide +kernel)⟩
theorem lw_p14 : lw_okq (⟨"GlowDebts", "refusedLooks", "(ILGlowDebts$Strip;)I"⟩, 11) := ⟨⟨by decide +kernel, by decide +kernel⟩, List.mem_of_getElem? (i := 15) (by decide +kernel), List.mem_of_getElem? (i := 617) (by decide +kernel), List.mem_of_getElem? (i := 618) (by decide +kernel)⟩
theorem lw_p15 : lw_okq (⟨"GlowDebts$Sets", "letOneAnswer", "(III)V"⟩, 2) := ⟨⟨by decide +kernel, by decide +kernel⟩, List.mem_of_getElem? (i := 64) (by decide +kernel), List.mem_of_getElem? (i := 680) (by decide +kernel), List.mem_of_getElem? (i := 681) (by decide +kernel)⟩
def lw_privs_1 : List (MethodName × Nat) := [(⟨"GlowDebts", "rowOf", "(I)LGlowDebts$Strip;"⟩, 11), (⟨"GlowDebts", "makeAnew", "(LGlowDebts$Strip;II)I"⟩, 11), (⟨"GlowDebts", "refuse", "(I)I"⟩, 11), (⟨"GlowDebts", "refusedAt", "(LGlowDebts$Strip;I)I"⟩, 11), (⟨"GlowDebts", "refusedMissing", "(LGlowDebts$Strip;)I"⟩, 11), (⟨"GlowDebts", "textOf", "(I)LGlowDebts$Strip;"⟩, 11), (⟨"GlowDebts", "keepOf", "(I)LGlowDebts$Bank;"⟩, 11), (⟨"GlowDebts$Bank", "write", "(III)V"⟩, 10), (⟨"GlowDebts$Bank", "takeBack", "(I)V"⟩, 10), (⟨"GlowDebts$Sets", "sumDebts", "(LGlowDebts$Bank;)I"⟩, 2), (⟨"GlowDebts$Sets", "sumUp", "()V"⟩, 2), (⟨"GlowDebts$Chains", "stepsOf", "(I)I"⟩, 1), (⟨"GlowDebts$Chains", "lowestNearer", "(LGlowDebts$Bank;I)I"⟩, 1), (⟨"GlowDebts$Sets", "sumGlow", "(LGlowDebts$Bank;I)V"⟩, 2), (⟨"GlowDebts", "refusedLooks", "(ILGlowDebts$Strip;)I"⟩, 11), (⟨"GlowDebts$Sets", "letOneAnswer", "(III)V"⟩, 2)]
theorem lw_r1 : ∀ q ∈ lw_privs_1, lw_okq q := List.forall_mem_cons.mpr ⟨lw_p0, List.forall_mem_cons.mpr ⟨lw_p1, List.forall_mem_cons.mpr ⟨lw_p2, List.forall_mem_cons.mpr ⟨lw_p3, List.forall_mem_cons.mpr ⟨lw_p4, List.forall_mem_cons.mpr ⟨lw_p5, List.forall_mem_cons.mpr ⟨lw_p6, List.forall_mem_cons.mpr ⟨lw_p7, List.forall_mem_cons.mpr ⟨lw_p8, List.forall_mem_cons.mpr ⟨lw_p9, List.forall_mem_cons.mpr ⟨lw_p10, List.forall_mem_cons.mpr ⟨lw_p11, List.forall_mem_cons.mpr ⟨lw_p12, List.forall_mem_cons.mpr ⟨lw_p13, List.forall_mem_cons.mpr ⟨lw_p14, List.forall_mem_cons.mpr ⟨lw_p15, fun _ h => absurd h List.not_mem_nil⟩⟩⟩⟩⟩⟩⟩⟩⟩⟩⟩⟩⟩⟩⟩⟩
theorem lw_p16 : lw_okq (⟨"GlowDebts$Sets", "letOneLight", "(III)V"⟩, 2) := ⟨⟨by decide +kernel, by decide +kernel⟩, List.mem_of_getElem? (i := 64) (by decide +kernel), List.mem_of_getElem? (i := 684) (by decide +kernel), List.mem_of_getElem? (i := 685) (by decide +kernel)⟩
theorem lw_p17 : lw_okq (⟨"GlowDebts", "tellInLowestTerms", "(JJ)V"⟩, 11) := ⟨⟨by decide +kernel, by decide +kernel⟩, List.mem_of_getElem? (i := 15) (by decide +kernel), List.mem_of_getElem? (i := 702) (by decide +kernel), List.mem_of_getElem? (i := 703) (by decide +kernel)⟩
theorem lw_p18 : lw_okq (⟨"GlowDebts", "howManyKept", "()I"⟩, 11) := ⟨⟨by decide +kernel, by decide +kernel⟩, List.mem_of_getElem? (i := 15) (by decide +kernel), List.mem_of_getElem? (i := 756) (by decide +kernel), List.mem_of_getElem? (i := 757) (by decide +kernel)⟩
theorem lw_p19 : lw_okq (⟨"GlowDebtsModel", "finds", "(I)I"⟩, 23) := ⟨⟨by decide +kernel, by decide +kernel⟩, List.mem_of_getElem? (i := 778) (by decide +kernel), List.mem_of_getElem? (i := 865) (by decide +kernel), List.mem_of_getElem? (i := 866) (by decide +kernel)⟩
theorem lw_p20 : lw_okq (⟨"GlowDebtsModel", "tells", "(I)I"⟩, 23) := ⟨⟨by decide +kernel, by decide +kernel⟩, List.mem_of_getElem? (i := 778) (by decide +kernel), List.mem_of_getElem? (i := 873) (by decide +kernel), List.mem_of_getElem? (i := 874) (by decide +kernel)⟩
theorem lw_p21 : lw_okq (⟨"GlowDebtsModel", "faultOf", "(I)I"⟩, 23) := ⟨⟨by decide +kernel, by decide +kernel⟩, List.mem_of_getElem? (i := 778) (by decide +kernel), List.mem_of_getElem? (i := 909) (by decide +kernel), List.mem_of_getElem? (i := 910) (by decide +kernel)⟩
theorem lw_p22 : lw_okq (⟨"GlowDebtsModel", "here", "()I"⟩, 23) := ⟨⟨by decide +kernel, by decide +kernel⟩, List.mem_of_getElem? (i := 778) (by decide +kernel), List.mem_of_getElem? (i := 913) (by decide +kernel), List.mem_of_getElem? (i := 914) (by decide +kernel)⟩
theorem lw_p23 : lw_okq (⟨"GlowDebtsModel", "takesLight", "()Z"⟩, 23) := ⟨⟨by decide +kernel, by decide +kernel⟩, List.mem_of_getElem? (i := 778) (by decide +kernel), List.mem_of_getElem? (i := 917) (by decide +kernel), List.mem_of_getElem? (i := 918) (by decide +kernel)⟩
theorem lw_p24 : lw_okq (⟨"GlowDebtsModel", "takes", "(II)Z"⟩, 23) := ⟨⟨by decide +kernel, by decide +kernel⟩, List.mem_of_getElem? (i := 778) (by decide +kernel), List.mem_of_getElem? (i := 924) (by decide +kernel), List.mem_of_getElem? (i := 925) (by decide +kernel)⟩
theorem lw_p25 : lw_okq (⟨"GlowDebtsModel", "isLight", "(I)Z"⟩, 23) := ⟨⟨by decide +kernel, by decide +kernel⟩, List.mem_of_getElem? (i := 778) (by decide +kernel), List.mem_of_getElem? (i := 936) (by decide +kernel), List.mem_of_getElem? (i := 937) (by decide +kernel)⟩
theorem lw_p26 : lw_okq (⟨"GlowDebtsModel", "lightOf", "(II)I"⟩, 23) := ⟨⟨by decide +kernel, by decide +kernel⟩, List.mem_of_getElem? (i := 778) (by decide +kernel), List.mem_of_getElem? (i := 941) (by decide +kernel), List.mem_of_getElem? (i := 942) (by decide +kernel)⟩
theorem lw_p27 : lw_okq (⟨"GlowDebtsModel", "glowOf", "(II)I"⟩, 23) := ⟨⟨by decide +kernel, by decide +kernel⟩, List.mem_of_getElem? (i := 778) (by decide +kernel), List.mem_of_getElem? (i := 945) (by decide +kernel), List.mem_of_getElem? (i := 946) (by decide +kernel)⟩
theorem lw_p28 : lw_okq (⟨"GlowDebtsModel", "minds", "()V"⟩, 23) := ⟨⟨by decide +kernel, by decide +kernel⟩, List.mem_of_getElem? (i := 778) (by decide +kernel), List.mem_of_getElem? (i := 974) (by decide +kernel), List.mem_of_getElem? (i := 975) (by decide +kernel)⟩
theorem lw_p29 : lw_okq (⟨"GlowDebtsModel", "glowAll", "()I"⟩, 23) := ⟨⟨by decide +kernel, by decide +kernel⟩, List.mem_of_getElem? (i := 778) (by decide +kernel), List.mem_of_getElem? (i := 978) (by decide +kernel), List.mem_of_getElem? (i := 979) (by decide +kernel)⟩
theorem lw_p30 : lw_okq (⟨"GlowDebtsModel", "lights", "(IZ)I"⟩, 23) := ⟨⟨by decide +kernel, by decide +kernel⟩, List.mem_of_getElem? (i := 778) (by decide +kernel), List.mem_of_getElem? (i := 989) (by decide +kernel), List.mem_of_getElem? (i := 990) (by decide +kernel)⟩
theorem lw_p31 : lw_okq (⟨"GlowDebtsModel", "bring", "(II)V"⟩, 23) := ⟨⟨by decide +kernel, by decide +kernel⟩, List.mem_of_getElem? (i := 778) (by decide +kernel), List.mem_of_getElem? (i := 1014) (by decide +kernel), List.mem_of_getElem? (i := 1015) (by decide +kernel)⟩
def lw_privs_2 : List (MethodName × Nat) := [(⟨"GlowDebts$Sets", "letOneLight", "(III)V"⟩, 2), (⟨"GlowDebts", "tellInLowestTerms", "(JJ)V"⟩, 11), (⟨"GlowDebts", "howManyKept", "()I"⟩, 11), (⟨"GlowDebtsModel", "finds", "(I)I"⟩, 23), (⟨"GlowDebtsModel", "tells", "(I)I"⟩, 23), (⟨"GlowDebtsModel", "faultOf", "(I)I"⟩, 23), (⟨"GlowDebtsModel", "here", "()I"⟩, 23), (⟨"GlowDebtsModel", "takesLight", "()Z"⟩, 23), (⟨"GlowDebtsModel", "takes", "(II)Z"⟩, 23), (⟨"GlowDebtsModel", "isLight", "(I)Z"⟩, 23), (⟨"GlowDebtsModel", "lightOf", "(II)I"⟩, 23), (⟨"GlowDebtsModel", "glowOf", "(II)I"⟩, 23), (⟨"GlowDebtsModel", "minds", "()V"⟩, 23), (⟨"GlowDebtsModel", "glowAll", "()I"⟩, 23), (⟨"GlowDebtsModel", "lights", "(IZ)I"⟩, 23), (⟨"GlowDebtsModel", "bring", "(II)V"⟩, 23)]
theorem lw_r2 : ∀ q ∈ lw_privs_2, lw_okq q := List.forall_mem_cons.mpr ⟨lw_p16, List.forall_mem_cons.mpr ⟨lw_p17, List.forall_mem_cons.mpr ⟨lw_p18, List.forall_mem_cons.mpr ⟨lw_p19, List.forall_mem_cons.mpr ⟨lw_p20, List.forall_mem_cons.mpr ⟨lw_p21, List.forall_mem_cons.mpr ⟨lw_p22, List.forall_mem_cons.mpr ⟨lw_p23, List.forall_mem_cons.mpr ⟨lw_p24, List.forall_mem_cons.mpr ⟨lw_p25, List.forall_mem_cons.mpr ⟨lw_p26, List.forall_mem_cons.mpr ⟨lw_p27, List.forall_mem_cons.mpr ⟨lw_p28, List.forall_mem_cons.mpr ⟨lw_p29, List.forall_mem_cons.mpr ⟨lw_p30, List.forall_mem_cons.mpr ⟨lw_p31, fun _ h => absurd h List.not_mem_nil⟩⟩⟩⟩⟩⟩⟩⟩⟩⟩⟩⟩⟩⟩⟩⟩
theorem lw_p32 : lw_okq (⟨"GlowDebtsModel", "brightNow", "(I)I"⟩, 23) := ⟨⟨by decide +kernel, by decide +kernel⟩, List.mem_of_getElem? (i := 778) (by decide +kernel), List.mem_of_getElem? (i := 1026) (by decide +kernel), List.mem_of_getElem? (i := 1027) (by decide +kernel)⟩
theorem lw_p33 : lw_okq (⟨"GlowDebtsModel", "brightBy", "(III)I"⟩, 23) := ⟨⟨by decide +kernel, by decide +kernel⟩, List.mem_of_getElem? (i := 778) (by decide +kernel), List.mem_of_getElem? (i := 1030) (by decide +kernel), List.mem_of_getElem? (i := 1031) (by decide +kernel)⟩
theorem lw_p34 : lw_okq (⟨"GlowDebtsModel", "gives", "(IIII)I"⟩, 23) := ⟨⟨by decide +kernel, by decide +kernel⟩, List.mem_of_getElem? (i := 778) (by decide +kernel), List.mem_of_getElem? (i := 1034) (by decide +kernel), List.mem_of_getElem? (i := 1035) (by decide +kernel)⟩
theorem lw_p35 : lw_okq (⟨"GlowDebtsModel", "alongNow", "(II)I"⟩, 23) := ⟨⟨by decide +kernel, by decide +kernel⟩, List.mem_of_getElem? (i := 778) (by decide +kernel), List.mem_of_getElem? (i := 1045) (by decide +kernel), List.mem_of_getElem? (i := 1046) (by decide +kernel)⟩
theorem lw_p36 : lw_okq (⟨"GlowDebtsModel", "debts", "()I"⟩, 23) := ⟨⟨by decide +kernel, by decide +kernel⟩, List.mem_of_getElem? (i := 778) (by decide +kernel), List.mem_of_getElem? (i := 1072) (by decide +kernel), List.mem_of_getElem? (i := 1073) (by decide +kernel)⟩
theorem lw_p37 : lw_okq (⟨"GlowDebtsModel", "isForged", "(I)Z"⟩, 23) := ⟨⟨by decide +kernel, by decide +kernel⟩, List.mem_of_getElem? (i := 778) (by decide +kernel), List.mem_of_getElem? (i := 1076) (by decide +kernel), List.mem_of_getElem? (i := 1077) (by decide +kernel)⟩
theorem lw_p38 : lw_okq (⟨"GlowDebtsModel", "owesBy", "(II)I"⟩, 23) := ⟨⟨by decide +kernel, by decide +kernel⟩, List.mem_of_getElem? (i := 778) (by decide +kernel), List.mem_of_getElem? (i := 1080) (by decide +kernel), List.mem_of_getElem? (i := 1081) (by decide +kernel)⟩
theorem lw_p39 : lw_okq (⟨"GlowDebtsModel", "isRing", "(I)Z"⟩, 23) := ⟨⟨by decide +kernel, by decide +kernel⟩, List.mem_of_getElem? (i := 778) (by decide +kernel), List.mem_of_getElem? (i := 1088) (by decide +kernel), List.mem_of_getElem? (i := 1089) (by decide +kernel)⟩
theorem lw_p40 : lw_okq (⟨"GlowDebtsModel", "against", "(I)I"⟩, 23) := ⟨⟨by decide +kernel, by decide +kernel⟩, List.mem_of_getElem? (i := 778) (by decide +kernel), List.mem_of_getElem? (i := 1116) (by decide +kernel), List.mem_of_getElem? (i := 1117) (by decide +kernel)⟩
theorem lw_p41 : lw_okq (⟨"GlowDebtsModel", "fits", "(III)Z"⟩, 23) := ⟨⟨by decide +kernel, by decide +kernel⟩, List.mem_of_getElem? (i := 778) (by decide +kernel), List.mem_of_getElem? (i := 1120) (by decide +kernel), List.mem_of_getElem? (i := 1121) (by decide +kernel)⟩
theorem lw_p42 : lw_okq (⟨"GlowDebtsModel", "kindsOf", "(II)I"⟩, 23) := ⟨⟨by decide +kernel, by decide +kernel⟩, List.mem_of_getElem? (i := 778) (by decide +kernel), List.mem_of_getElem? (i := 1128) (by decide +kernel), List.mem_of_getElem? (i := 1129) (by decide +kernel)⟩
theorem lw_p43 : lw_okq (⟨"GlowDebtsModel", "greatestPart", "(III)I"⟩, 23) := ⟨⟨by decide +kernel, by decide +kernel⟩, List.mem_of_getElem? (i := 778) (by decide +kernel), List.mem_of_getElem? (i := 1136) (by decide +kernel), List.mem_of_getElem? (i := 1137) (by decide +kernel)⟩
theorem lw_p44 : lw_okq (⟨"GlowDebtsModel", "betters", "(I)V"⟩, 23) := ⟨⟨by decide +kernel, by decide +kernel⟩, List.mem_of_getElem? (i := 778) (by decide +kernel), List.mem_of_getElem? (i := 1149) (by decide +kernel), List.mem_of_getElem? (i := 1150) (by decide +kernel)⟩
theorem lw_p45 : lw_okq (⟨"GlowDebtsModel", "chances", "(III)I"⟩, 23) := ⟨⟨by decide +kernel, by decide +kernel⟩, List.mem_of_getElem? (i := 778) (by decide +kernel), List.mem_of_getElem? (i := 1158) (by decide +kernel), List.mem_of_getElem? (i := 1159) (by decide +kernel)⟩
theorem lw_p46 : lw_okq (⟨"GlowDebtsModel", "tellsPart", "(JJ)I"⟩, 23) := ⟨⟨by decide +kernel, by decide +kernel⟩, List.mem_of_getElem? (i := 778) (by decide +kernel), List.mem_of_getElem? (i := 1162) (by decide +kernel), List.mem_of_getElem? (i := 1163) (by decide +kernel)⟩
theorem lw_p47 : lw_okq (⟨"GlowDebtsModel", "manyOf", "(II)I"⟩, 23) := ⟨⟨by decide +kernel, by decide +kernel⟩, List.mem_of_getElem? (i := 778) (by decide +kernel), List.mem_of_getElem? (i := 1196) (by decide +kernel), List.mem_of_getElem? (i := 1197) (by decide +kernel)⟩
def lw_privs_3 : List (MethodName × Nat) := [(⟨"GlowDebtsModel", "brightNow", "(I)I"⟩, 23), (⟨"GlowDebtsModel", "brightBy", "(III)I"⟩, 23), (⟨"GlowDebtsModel", "gives", "(IIII)I"⟩, 23), (⟨"GlowDebtsModel", "alongNow", "(II)I"⟩, 23), (⟨"GlowDebtsModel", "debts", "()I"⟩, 23), (⟨"GlowDebtsModel", "isForged", "(I)Z"⟩, 23), (⟨"GlowDebtsModel", "owesBy", "(II)I"⟩, 23), (⟨"GlowDebtsModel", "isRing", "(I)Z"⟩, 23), (⟨"GlowDebtsModel", "against", "(I)I"⟩, 23), (⟨"GlowDebtsModel", "fits", "(III)Z"⟩, 23), (⟨"GlowDebtsModel", "kindsOf", "(II)I"⟩, 23), (⟨"GlowDebtsModel", "greatestPart", "(III)I"⟩, 23), (⟨"GlowDebtsModel", "betters", "(I)V"⟩, 23), (⟨"GlowDebtsModel", "chances", "(III)I"⟩, 23), (⟨"GlowDebtsModel", "tellsPart", "(JJ)I"⟩, 23), (⟨"GlowDebtsModel", "manyOf", "(II)I"⟩, 23)]
theorem lw_r3 : ∀ q ∈ lw_privs_3, lw_okq q := List.forall_mem_cons.mpr ⟨lw_p32, List.forall_mem_cons.mpr ⟨lw_p33, List.forall_mem_cons.mpr ⟨lw_p34, List.forall_mem_cons.mpr ⟨lw_p35, List.forall_mem_cons.mpr ⟨lw_p36, List.forall_mem_cons.mpr ⟨lw_p37, List.forall_mem_cons.mpr ⟨lw_p38, List.forall_mem_cons.mpr ⟨lw_p39, List.forall_mem_cons.mpr ⟨lw_p40, List.forall_mem_cons.mpr ⟨lw_p41, List.forall_mem_cons.mpr ⟨lw_p42, List.forall_mem_cons.mpr ⟨lw_p43, List.forall_mem_cons.mpr ⟨lw_p44, List.forall_mem_cons.mpr ⟨lw_p45, List.forall_mem_cons.mpr ⟨lw_p46, List.forall_mem_cons.mpr ⟨lw_p47, fun _ h => absurd h List.not_mem_nil⟩⟩⟩⟩⟩⟩⟩⟩⟩⟩⟩⟩⟩⟩⟩⟩
theorem lw_p48 : lw_okq (⟨"GlowDebtsModel", "rowsThere", "()I"⟩, 23) := ⟨⟨by decide +kernel, by decide +kernel⟩, List.mem_of_getElem? (i := 778) (by decide +kernel), List.mem_of_getElem? (i := 1200) (by decide +kernel), List.mem_of_getElem? (i := 1201) (by decide +kernel)⟩
theorem lw_p49 : lw_okq (⟨"GlowDebtsModel", "textsThere", "()I"⟩, 23) := ⟨⟨by decide +kernel, by decide +kernel⟩, List.mem_of_getElem? (i := 778) (by decide +kernel), List.mem_of_getElem? (i := 1204) (by decide +kernel), List.mem_of_getElem? (i := 1205) (by decide +kernel)⟩
theorem lw_p50 : lw_okq (⟨"GlowDebtsModel", "banksKept", "()I"⟩, 23) := ⟨⟨by decide +kernel, by decide +kernel⟩, List.mem_of_getElem? (i := 778) (by decide +kernel), List.mem_of_getElem? (i := 1208) (by decide +kernel), List.mem_of_getElem? (i := 1209) (by decide +kernel)⟩
theorem lw_p51 : lw_okq (⟨"GlowDebtsModel", "mix", "(J)V"⟩, 23) := ⟨⟨by decide +kernel, by decide +kernel⟩, List.mem_of_getElem? (i := 778) (by decide +kernel), List.mem_of_getElem? (i := 1226) (by decide +kernel), List.mem_of_getElem? (i := 1227) (by decide +kernel)⟩
def lw_privs_4 : List (MethodName × Nat) := [(⟨"GlowDebtsModel", "rowsThere", "()I"⟩, 23), (⟨"GlowDebtsModel", "textsThere", "()I"⟩, 23), (⟨"GlowDebtsModel", "banksKept", "()I"⟩, 23), (⟨"GlowDebtsModel", "mix", "(J)V"⟩, 23)]
theorem lw_r4 : ∀ q ∈ lw_privs_4, lw_okq q := List.forall_mem_cons.mpr ⟨lw_p48, List.forall_mem_cons.mpr ⟨lw_p49, List.forall_mem_cons.mpr ⟨lw_p50, List.forall_mem_cons.mpr ⟨lw_p51, fun _ h => absurd h List.not_mem_nil⟩⟩⟩⟩
def lw_privs : List (MethodName × Nat) := lw_privs_1 ++ (lw_privs_2 ++ (lw_privs_3 ++ (lw_privs_4)))
def lw_tbl : List Cond := k2_sels lw_privs ++ tables_1
theorem lw_privs_ok : ∀ q ∈ lw_privs, lw_okq q := by
  show ∀ q ∈ lw_privs_1 ++ (lw_privs_2 ++ (lw_privs_3 ++ (lw_privs_4))), lw_okq q
  exact List.forall_mem_append.mpr ⟨lw_r1, List.forall_mem_append.mpr ⟨lw_r2, List.forall_mem_append.mpr ⟨lw_r3, lw_r4⟩⟩⟩
-- ===== end of PART A; then your names; then what follows =====
end
section
theorem goodIn_r {big : List Cond} (ws : List Cond) (ps : List Nat) (hp : ws = ps.filterMap (fun i => big[i]?)) (h : ws.all goodWord = true) : GoodIn big ws := by
  intro w hw
  have h1 := List.all_eq_true.mp h w hw
  rw [hp] at hw
  obtain ⟨i, -, hi⟩ := List.mem_filterMap.mp hw
  have hm : w ∈ big := by first | exact List.mem_of_getElem? hi | exact List.getElem?_mem hi
  exact ⟨hm, good_of_word h1⟩
theorem goodIn_app {big a b : List Cond} (ha : GoodIn big a) (hb : GoodIn big b) : GoodIn big (a ++ b) := fun w h => (List.mem_append.mp h).elim (ha w) (hb w)
theorem goodIn_ca {big a b : List Cond} {c : Cond} (ha : GoodIn big (c :: a)) (hb : GoodIn big b) : GoodIn big (c :: (a ++ b)) := fun w h => (List.mem_cons.mp h).elim (fun e => ha w (List.mem_cons.mpr (Or.inl e))) (fun h => (List.mem_append.mp h).elim (fun h => ha w (List.mem_cons.mpr (Or.inr h))) (hb w))
theorem goodIn_sub {big ws : List Cond} (hm : ∀ w ∈ ws, w ∈ big) (h : ws.all goodWord = true) : GoodIn big ws := fun w hw => ⟨hm w hw, good_of_word (List.all_eq_true.mp h w hw)⟩
def RX0 : String := "GlowDebts$Bank"
def TX0 : u_T := fun k => match k with
  | 0 => ("GlowDebts$Bank", "kinds", "[I", true)
  | 1 => ("GlowDebts$Bank", "owers", "[I", true)
  | 2 => ("GlowDebts$Bank", "creditors", "[I", true)
  | 3 => ("GlowDebts$Bank", "places", "[I", true)
  | 4 => ("GlowDebts$Bank", "firsts", "[I", true)
  | 5 => ("GlowDebts$Bank", "deeds", "[I", true)
  | 6 => ("GlowDebts$Bank", "size", "I", false)
  | 7 => ("GlowDebts$Bank", "litBits", "I", false)
  | 8 => ("GlowDebts$Bank", "nightNow", "I", false)
  | _ => ("GlowDebts$Bank", "done", "I", false)
def tyX0 : Nat → FieldType := fun k => match k with
  | 0 => .array .int
  | 1 => .array .int
  | 2 => .array .int
  | 3 => .array .int
  | 4 => .array .int
  | 5 => .array .int
  | 6 => .int
  | 7 => .int
  | 8 => .int
  | _ => .int
abbrev wsX00 : List Cond := u_ws RX0 TX0 10
theorem nmX0 : ∀ a, a < 10 → ∀ b, b < 10 → a ≠ b → (TX0 a).2.1 ≠ (TX0 b).2.1 := by decide +kernel
theorem tyX0_ok : ∀ k, k < 10 → parseFieldDescriptor (TX0 k).2.2.1 = some (tyX0 k) := by decide +kernel
abbrev cX0_init : ByteArray := prog_2_method_1_code
def yX0_init : MethodName := ⟨RX0, "<init>", "()V"⟩
abbrev cX0_clear : ByteArray := prog_2_method_2_code
def yX0_clear : MethodName := ⟨RX0, "clear", "()V"⟩
abbrev cX0_add : ByteArray := prog_2_method_3_code
def yX0_add : MethodName := ⟨RX0, "add", "(IIIII)V"⟩
abbrev cX0_become : ByteArray := prog_2_method_4_code
def yX0_become : MethodName := ⟨RX0, "become", "(LGlowDebts$Bank;)V"⟩
abbrev cX0_size : ByteArray := prog_2_method_5_code
def yX0_size : MethodName := ⟨RX0, "size", "()I"⟩
abbrev cX0_thisNight : ByteArray := prog_2_method_6_code
def yX0_thisNight : MethodName := ⟨RX0, "thisNight", "()I"⟩
abbrev cX0_deedsDone : ByteArray := prog_2_method_7_code
def yX0_deedsDone : MethodName := ⟨RX0, "deedsDone", "()I"⟩
abbrev cX0_litSet : ByteArray := prog_2_method_8_code
def yX0_litSet : MethodName := ⟨RX0, "litSet", "()I"⟩
abbrev cX0_has : ByteArray := prog_2_method_9_code
def yX0_has : MethodName := ⟨RX0, "has", "(I)Z"⟩
abbrev cX0_isLit : ByteArray := prog_2_method_10_code
def yX0_isLit : MethodName := ⟨RX0, "isLit", "(I)Z"⟩
abbrev cX0_isOwing : ByteArray := prog_2_method_11_code
def yX0_isOwing : MethodName := ⟨RX0, "isOwing", "(I)Z"⟩
abbrev cX0_kindOf : ByteArray := prog_2_method_12_code
def yX0_kindOf : MethodName := ⟨RX0, "kindOf", "(I)I"⟩
abbrev cX0_owerOf : ByteArray := prog_2_method_13_code
def yX0_owerOf : MethodName := ⟨RX0, "owerOf", "(I)I"⟩
abbrev cX0_creditorOf : ByteArray := prog_2_method_14_code
def yX0_creditorOf : MethodName := ⟨RX0, "creditorOf", "(I)I"⟩
abbrev cX0_placeOf : ByteArray := prog_2_method_15_code
def yX0_placeOf : MethodName := ⟨RX0, "placeOf", "(I)I"⟩
abbrev cX0_firstOf : ByteArray := prog_2_method_16_code
def yX0_firstOf : MethodName := ⟨RX0, "firstOf", "(I)I"⟩
abbrev cX0_partOf : ByteArray := prog_2_method_17_code
def yX0_partOf : MethodName := ⟨RX0, "partOf", "(II)I"⟩
abbrev cX0_howManyOf : ByteArray := prog_2_method_18_code
def yX0_howManyOf : MethodName := ⟨RX0, "howManyOf", "(I)I"⟩
abbrev cX0_glowOf : ByteArray := prog_2_method_19_code
def yX0_glowOf : MethodName := ⟨RX0, "glowOf", "(II)I"⟩
abbrev cX0_litGlow : ByteArray := prog_2_method_20_code
def yX0_litGlow : MethodName := ⟨RX0, "litGlow", "()I"⟩
abbrev cX0_faded : ByteArray := prog_2_method_21_code
def yX0_faded : MethodName := ⟨RX0, "faded", "(III)I"⟩
abbrev cX0_glowAt : ByteArray := prog_2_method_22_code
def yX0_glowAt : MethodName := ⟨RX0, "glowAt", "(III)I"⟩
abbrev cX0_brightAt : ByteArray := prog_2_method_23_code
def yX0_brightAt : MethodName := ⟨RX0, "brightAt", "(II)I"⟩
abbrev cX0_brightAlong : ByteArray := prog_2_method_24_code
def yX0_brightAlong : MethodName := ⟨RX0, "brightAlong", "(II)I"⟩
abbrev cX0_shareAlong : ByteArray := prog_2_method_25_code
def yX0_shareAlong : MethodName := ⟨RX0, "shareAlong", "(IIII)I"⟩
abbrev cX0_balanceOf : ByteArray := prog_2_method_26_code
def yX0_balanceOf : MethodName := ⟨RX0, "balanceOf", "(I)I"⟩
abbrev cX0_passNight : ByteArray := prog_2_method_27_code
def yX0_passNight : MethodName := ⟨RX0, "passNight", "()V"⟩
abbrev cX0_putOut : ByteArray := prog_2_method_28_code
def yX0_putOut : MethodName := ⟨RX0, "putOut", "(I)V"⟩
abbrev cX0_lightAgain : ByteArray := prog_2_method_29_code
def yX0_lightAgain : MethodName := ⟨RX0, "lightAgain", "(I)V"⟩
abbrev cX0_carryTo : ByteArray := prog_2_method_30_code
def yX0_carryTo : MethodName := ⟨RX0, "carryTo", "(II)V"⟩
abbrev cX0_doByLot : ByteArray := prog_2_method_31_code
def yX0_doByLot : MethodName := ⟨RX0, "doByLot", "(J)V"⟩
abbrev cX0_write : ByteArray := prog_2_method_32_code
def yX0_write : MethodName := ⟨RX0, "write", "(III)V"⟩
abbrev cX0_takeBackFrom : ByteArray := prog_2_method_33_code
def yX0_takeBackFrom : MethodName := ⟨RX0, "takeBackFrom", "(I)V"⟩
abbrev cX0_takeBack : ByteArray := prog_2_method_34_code
def yX0_takeBack : MethodName := ⟨RX0, "takeBack", "(I)V"⟩
def RX1 : String := "GlowDebts$Chains"
def TX1 : u_T := fun k => match k with
  | _ => ("GlowDebts$Chains", "steps", "[I", true)
def tyX1 : Nat → FieldType := fun k => match k with
  | _ => .array .int
abbrev wsX10 : List Cond := u_ws RX1 TX1 1
theorem nmX1 : ∀ a, a < 1 → ∀ b, b < 1 → a ≠ b → (TX1 a).2.1 ≠ (TX1 b).2.1 := by decide +kernel
theorem tyX1_ok : ∀ k, k < 1 → parseFieldDescriptor (TX1 k).2.2.1 = some (tyX1 k) := by decide +kernel
abbrev cX1_init : ByteArray := prog_3_method_1_code
def yX1_init : MethodName := ⟨RX1, "<init>", "()V"⟩
abbrev cX1_shortest : ByteArray := prog_3_method_2_code
def yX1_shortest : MethodName := ⟨RX1, "shortest", "(LGlowDebts$Bank;II)I"⟩
abbrev cX1_stepsOf : ByteArray := prog_3_method_3_code
def yX1_stepsOf : MethodName := ⟨RX1, "stepsOf", "(I)I"⟩
abbrev cX1_write : ByteArray := prog_3_method_4_code
def yX1_write : MethodName := ⟨RX1, "write", "(LGlowDebts$Bank;ILGlowDebts$Strip;)V"⟩
abbrev cX1_lowestNearer : ByteArray := prog_3_method_5_code
def yX1_lowestNearer : MethodName := ⟨RX1, "lowestNearer", "(LGlowDebts$Bank;I)I"⟩
def RX2 : String := "GlowDebts$Kinds"
def TX2 : u_T := fun k => match k with
  | _ => ("", "", "", false)
def tyX2 : Nat → FieldType := fun k => match k with
  | _ => .int
abbrev wsX20 : List Cond := u_ws RX2 TX2 0
theorem nmX2 : ∀ a, a < 0 → ∀ b, b < 0 → a ≠ b → (TX2 a).2.1 ≠ (TX2 b).2.1 := by decide +kernel
theorem tyX2_ok : ∀ k, k < 0 → parseFieldDescriptor (TX2 k).2.2.1 = some (tyX2 k) := by decide +kernel
abbrev cX2_ofLetter : ByteArray := prog_4_method_2_code
def yX2_ofLetter : MethodName := ⟨RX2, "ofLetter", "(I)I"⟩
abbrev cX2_parentOf : ByteArray := prog_4_method_3_code
def yX2_parentOf : MethodName := ⟨RX2, "parentOf", "(I)I"⟩
abbrev cX2_isOf : ByteArray := prog_4_method_4_code
def yX2_isOf : MethodName := ⟨RX2, "isOf", "(II)Z"⟩
abbrev cX2_glow : ByteArray := prog_4_method_5_code
def yX2_glow : MethodName := ⟨RX2, "glow", "(III)I"⟩
abbrev cX2_signOf : ByteArray := prog_4_method_6_code
def yX2_signOf : MethodName := ⟨RX2, "signOf", "(IIII)I"⟩
def RX3 : String := "GlowDebts$Looks"
def TX3 : u_T := fun k => match k with
  | _ => ("", "", "", false)
def tyX3 : Nat → FieldType := fun k => match k with
  | _ => .int
abbrev wsX30 : List Cond := u_ws RX3 TX3 0
theorem nmX3 : ∀ a, a < 0 → ∀ b, b < 0 → a ≠ b → (TX3 a).2.1 ≠ (TX3 b).2.1 := by decide +kernel
theorem tyX3_ok : ∀ k, k < 0 → parseFieldDescriptor (TX3 k).2.2.1 = some (tyX3 k) := by decide +kernel
abbrev cX3_arePairs : ByteArray := prog_5_method_2_code
def yX3_arePairs : MethodName := ⟨RX3, "arePairs", "(LGlowDebts$Strip;)Z"⟩
abbrev cX3_areTold : ByteArray := prog_5_method_3_code
def yX3_areTold : MethodName := ⟨RX3, "areTold", "(LGlowDebts$Strip;)Z"⟩
abbrev cX3_fit : ByteArray := prog_5_method_4_code
def yX3_fit : MethodName := ⟨RX3, "fit", "(IILGlowDebts$Strip;)Z"⟩
abbrev cX3_fittingFirsts : ByteArray := prog_5_method_5_code
def yX3_fittingFirsts : MethodName := ⟨RX3, "fittingFirsts", "(ILGlowDebts$Strip;)I"⟩
abbrev cX3_fittingKinds : ByteArray := prog_5_method_6_code
def yX3_fittingKinds : MethodName := ⟨RX3, "fittingKinds", "(ILGlowDebts$Strip;)I"⟩
abbrev cX3_tellingNight : ByteArray := prog_5_method_7_code
def yX3_tellingNight : MethodName := ⟨RX3, "tellingNight", "(II)I"⟩
abbrev cX3_largestPart : ByteArray := prog_5_method_8_code
def yX3_largestPart : MethodName := ⟨RX3, "largestPart", "(III)I"⟩
abbrev cX3_howManyGlow : ByteArray := prog_5_method_9_code
def yX3_howManyGlow : MethodName := ⟨RX3, "howManyGlow", "(IIII)I"⟩
abbrev cX3_fittingOwers : ByteArray := prog_5_method_10_code
def yX3_fittingOwers : MethodName := ⟨RX3, "fittingOwers", "(LGlowDebts$Bank;ILGlowDebts$Strip;)I"⟩
abbrev cX3_fitsOwer : ByteArray := prog_5_method_11_code
def yX3_fitsOwer : MethodName := ⟨RX3, "fitsOwer", "(LGlowDebts$Bank;IILGlowDebts$Strip;)Z"⟩
def RX4 : String := "GlowDebts$Sets"
def TX4 : u_T := fun k => match k with
  | 0 => ("GlowDebts$Sets", "weights", "[I", true)
  | _ => ("GlowDebts$Sets", "sums", "[I", true)
def tyX4 : Nat → FieldType := fun k => match k with
  | 0 => .array .int
  | _ => .array .int
abbrev wsX40 : List Cond := u_ws RX4 TX4 2
theorem nmX4 : ∀ a, a < 2 → ∀ b, b < 2 → a ≠ b → (TX4 a).2.1 ≠ (TX4 b).2.1 := by decide +kernel
theorem tyX4_ok : ∀ k, k < 2 → parseFieldDescriptor (TX4 k).2.2.1 = some (tyX4 k) := by decide +kernel
abbrev cX4_init : ByteArray := prog_6_method_1_code
def yX4_init : MethodName := ⟨RX4, "<init>", "()V"⟩
abbrev cX4_setsOf : ByteArray := prog_6_method_2_code
def yX4_setsOf : MethodName := ⟨RX4, "setsOf", "(LGlowDebts$Bank;)I"⟩
abbrev cX4_isWithin : ByteArray := prog_6_method_3_code
def yX4_isWithin : MethodName := ⟨RX4, "isWithin", "(II)Z"⟩
abbrev cX4_sumUp : ByteArray := prog_6_method_4_code
def yX4_sumUp : MethodName := ⟨RX4, "sumUp", "()V"⟩
abbrev cX4_sumGlow : ByteArray := prog_6_method_5_code
def yX4_sumGlow : MethodName := ⟨RX4, "sumGlow", "(LGlowDebts$Bank;I)V"⟩
abbrev cX4_sumDebts : ByteArray := prog_6_method_6_code
def yX4_sumDebts : MethodName := ⟨RX4, "sumDebts", "(LGlowDebts$Bank;)I"⟩
abbrev cX4_largestRing : ByteArray := prog_6_method_7_code
def yX4_largestRing : MethodName := ⟨RX4, "largestRing", "(LGlowDebts$Bank;)I"⟩
abbrev cX4_ringsWith : ByteArray := prog_6_method_8_code
def yX4_ringsWith : MethodName := ⟨RX4, "ringsWith", "(LGlowDebts$Bank;I)I"⟩
abbrev cX4_smallestRingWith : ByteArray := prog_6_method_9_code
def yX4_smallestRingWith : MethodName := ⟨RX4, "smallestRingWith", "(LGlowDebts$Bank;I)I"⟩
abbrev cX4_fewestToAnswer : ByteArray := prog_6_method_10_code
def yX4_fewestToAnswer : MethodName := ⟨RX4, "fewestToAnswer", "(LGlowDebts$Bank;II)I"⟩
abbrev cX4_afterTurns : ByteArray := prog_6_method_11_code
def yX4_afterTurns : MethodName := ⟨RX4, "afterTurns", "(LGlowDebts$Bank;II)I"⟩
abbrev cX4_letOneAnswer : ByteArray := prog_6_method_12_code
def yX4_letOneAnswer : MethodName := ⟨RX4, "letOneAnswer", "(III)V"⟩
abbrev cX4_letOneLight : ByteArray := prog_6_method_13_code
def yX4_letOneLight : MethodName := ⟨RX4, "letOneLight", "(III)V"⟩
abbrev cX4_waysToBeDark : ByteArray := prog_6_method_14_code
def yX4_waysToBeDark : MethodName := ⟨RX4, "waysToBeDark", "(LGlowDebts$Bank;III)J"⟩
abbrev cX4_power : ByteArray := prog_6_method_15_code
def yX4_power : MethodName := ⟨RX4, "power", "(II)J"⟩
def RX5 : String := "GlowDebts$Strip"
def TX5 : u_T := fun k => match k with
  | 0 => ("GlowDebts$Strip", "cells", "[I", true)
  | _ => ("GlowDebts$Strip", "size", "I", false)
def tyX5 : Nat → FieldType := fun k => match k with
  | 0 => .array .int
  | _ => .int
abbrev wsX50 : List Cond := u_ws RX5 TX5 2
theorem nmX5 : ∀ a, a < 2 → ∀ b, b < 2 → a ≠ b → (TX5 a).2.1 ≠ (TX5 b).2.1 := by decide +kernel
theorem tyX5_ok : ∀ k, k < 2 → parseFieldDescriptor (TX5 k).2.2.1 = some (tyX5 k) := by decide +kernel
abbrev cX5_init : ByteArray := prog_7_method_1_code
def yX5_init : MethodName := ⟨RX5, "<init>", "(I)V"⟩
abbrev cX5_room : ByteArray := prog_7_method_2_code
def yX5_room : MethodName := ⟨RX5, "room", "()I"⟩
abbrev cX5_size : ByteArray := prog_7_method_3_code
def yX5_size : MethodName := ⟨RX5, "size", "()I"⟩
abbrev cX5_isMissing : ByteArray := prog_7_method_4_code
def yX5_isMissing : MethodName := ⟨RX5, "isMissing", "()Z"⟩
abbrev cX5_remove : ByteArray := prog_7_method_5_code
def yX5_remove : MethodName := ⟨RX5, "remove", "()V"⟩
abbrev cX5_renew : ByteArray := prog_7_method_6_code
def yX5_renew : MethodName := ⟨RX5, "renew", "(II)V"⟩
abbrev cX5_holds : ByteArray := prog_7_method_7_code
def yX5_holds : MethodName := ⟨RX5, "holds", "(I)Z"⟩
abbrev cX5_get : ByteArray := prog_7_method_8_code
def yX5_get : MethodName := ⟨RX5, "get", "(I)I"⟩
abbrev cX5_set : ByteArray := prog_7_method_9_code
def yX5_set : MethodName := ⟨RX5, "set", "(II)V"⟩
abbrev cX5_holdsRun : ByteArray := prog_7_method_10_code
def yX5_holdsRun : MethodName := ⟨RX5, "holdsRun", "(II)Z"⟩
abbrev cX5_takeRun : ByteArray := prog_7_method_11_code
def yX5_takeRun : MethodName := ⟨RX5, "takeRun", "(ILGlowDebts$Strip;II)V"⟩
abbrev cX5_total : ByteArray := prog_7_method_12_code
def yX5_total : MethodName := ⟨RX5, "total", "()J"⟩
def RX6 : String := "GlowDebts$Ways"
def TX6 : u_T := fun k => match k with
  | _ => ("", "", "", false)
def tyX6 : Nat → FieldType := fun k => match k with
  | _ => .int
abbrev wsX60 : List Cond := u_ws RX6 TX6 0
theorem nmX6 : ∀ a, a < 0 → ∀ b, b < 0 → a ≠ b → (TX6 a).2.1 ≠ (TX6 b).2.1 := by decide +kernel
theorem tyX6_ok : ∀ k, k < 0 → parseFieldDescriptor (TX6 k).2.2.1 = some (tyX6 k) := by decide +kernel
abbrev cX6_darkest : ByteArray := prog_8_method_2_code
def yX6_darkest : MethodName := ⟨RX6, "darkest", "(LGlowDebts$Bank;)I"⟩
abbrev cX6_brightness : ByteArray := prog_8_method_3_code
def yX6_brightness : MethodName := ⟨RX6, "brightness", "(I)I"⟩
abbrev cX6_placesOnRoad : ByteArray := prog_8_method_4_code
def yX6_placesOnRoad : MethodName := ⟨RX6, "placesOnRoad", "(I)I"⟩
def RX7 : String := "GlowDebts$Wording"
def TX7 : u_T := fun k => match k with
  | _ => ("", "", "", false)
def tyX7 : Nat → FieldType := fun k => match k with
  | _ => .int
abbrev wsX70 : List Cond := u_ws RX7 TX7 0
theorem nmX7 : ∀ a, a < 0 → ∀ b, b < 0 → a ≠ b → (TX7 a).2.1 ≠ (TX7 b).2.1 := by decide +kernel
theorem tyX7_ok : ∀ k, k < 0 → parseFieldDescriptor (TX7 k).2.2.1 = some (tyX7 k) := by decide +kernel
abbrev cX7_firstFault : ByteArray := prog_9_method_2_code
def yX7_firstFault : MethodName := ⟨RX7, "firstFault", "(LGlowDebts$Strip;)I"⟩
abbrev cX7_itemFault : ByteArray := prog_9_method_3_code
def yX7_itemFault : MethodName := ⟨RX7, "itemFault", "(LGlowDebts$Strip;I)I"⟩
abbrev cX7_isFigureOf : ByteArray := prog_9_method_4_code
def yX7_isFigureOf : MethodName := ⟨RX7, "isFigureOf", "(LGlowDebts$Strip;II)Z"⟩
abbrev cX7_figureAt : ByteArray := prog_9_method_5_code
def yX7_figureAt : MethodName := ⟨RX7, "figureAt", "(LGlowDebts$Strip;I)I"⟩
abbrev cX7_readInto : ByteArray := prog_9_method_6_code
def yX7_readInto : MethodName := ⟨RX7, "readInto", "(LGlowDebts$Bank;LGlowDebts$Strip;)V"⟩
def RX8 : String := "GlowDebts"
def TX8 : u_T := fun k => match k with
  | 0 => ("GlowDebts", "rows", "[LGlowDebts$Strip;", true)
  | 1 => ("GlowDebts", "texts", "[LGlowDebts$Strip;", true)
  | 2 => ("GlowDebts", "now", "LGlowDebts$Bank;", true)
  | 3 => ("GlowDebts", "keeps", "[LGlowDebts$Bank;", true)
  | 4 => ("GlowDebts", "sets", "LGlowDebts$Sets;", true)
  | 5 => ("GlowDebts", "chains", "LGlowDebts$Chains;", true)
  | 6 => ("GlowDebts", "found", "[I", true)
  | 7 => ("GlowDebts", "latestFound", "I", false)
  | 8 => ("GlowDebts", "toldAside", "I", false)
  | 9 => ("GlowDebts", "toldUpper", "J", false)
  | _ => ("GlowDebts", "toldLower", "J", false)
def tyX8 : Nat → FieldType := fun k => match k with
  | 0 => .array (.object "GlowDebts$Strip")
  | 1 => .array (.object "GlowDebts$Strip")
  | 2 => .object "GlowDebts$Bank"
  | 3 => .array (.object "GlowDebts$Bank")
  | 4 => .object "GlowDebts$Sets"
  | 5 => .object "GlowDebts$Chains"
  | 6 => .array .int
  | 7 => .int
  | 8 => .int
  | 9 => .long
  | _ => .long
abbrev wsX80 : List Cond := u_ws RX8 TX8 11
theorem nmX8 : ∀ a, a < 11 → ∀ b, b < 11 → a ≠ b → (TX8 a).2.1 ≠ (TX8 b).2.1 := by decide +kernel
theorem tyX8_ok : ∀ k, k < 11 → parseFieldDescriptor (TX8 k).2.2.1 = some (tyX8 k) := by decide +kernel
abbrev cX8_init : ByteArray := prog_1_method_1_code
def yX8_init : MethodName := ⟨RX8, "<init>", "()V"⟩
abbrev cX8_row : ByteArray := prog_1_method_2_code
def yX8_row : MethodName := ⟨RX8, "row", "(II)I"⟩
abbrev cX8_lay : ByteArray := prog_1_method_3_code
def yX8_lay : MethodName := ⟨RX8, "lay", "(III)I"⟩
abbrev cX8_at : ByteArray := prog_1_method_4_code
def yX8_at : MethodName := ⟨RX8, "at", "(II)I"⟩
abbrev cX8_tear : ByteArray := prog_1_method_5_code
def yX8_tear : MethodName := ⟨RX8, "tear", "(I)I"⟩
abbrev cX8_copy : ByteArray := prog_1_method_6_code
def yX8_copy : MethodName := ⟨RX8, "copy", "(IIIII)I"⟩
abbrev cX8_mean : ByteArray := prog_1_method_7_code
def yX8_mean : MethodName := ⟨RX8, "mean", "(I)I"⟩
abbrev cX8_text : ByteArray := prog_1_method_8_code
def yX8_text : MethodName := ⟨RX8, "text", "(II)I"⟩
abbrev cX8_put : ByteArray := prog_1_method_9_code
def yX8_put : MethodName := ⟨RX8, "put", "(III)I"⟩
abbrev cX8_fault : ByteArray := prog_1_method_10_code
def yX8_fault : MethodName := ⟨RX8, "fault", "(I)I"⟩
abbrev cX8_bank : ByteArray := prog_1_method_11_code
def yX8_bank : MethodName := ⟨RX8, "bank", "(I)I"⟩
abbrev cX8_light : ByteArray := prog_1_method_12_code
def yX8_light : MethodName := ⟨RX8, "light", "(II)I"⟩
abbrev cX8_mark : ByteArray := prog_1_method_13_code
def yX8_mark : MethodName := ⟨RX8, "mark", "(II)I"⟩
abbrev cX8_glows : ByteArray := prog_1_method_14_code
def yX8_glows : MethodName := ⟨RX8, "glows", "(II)I"⟩
abbrev cX8_night : ByteArray := prog_1_method_15_code
def yX8_night : MethodName := ⟨RX8, "night", "()I"⟩
abbrev cX8_answer : ByteArray := prog_1_method_16_code
def yX8_answer : MethodName := ⟨RX8, "answer", "(I)I"⟩
abbrev cX8_relight : ByteArray := prog_1_method_17_code
def yX8_relight : MethodName := ⟨RX8, "relight", "(I)I"⟩
abbrev cX8_carry : ByteArray := prog_1_method_18_code
def yX8_carry : MethodName := ⟨RX8, "carry", "(II)I"⟩
abbrev cX8_undo : ByteArray := prog_1_method_19_code
def yX8_undo : MethodName := ⟨RX8, "undo", "(I)I"⟩
abbrev cX8_keep : ByteArray := prog_1_method_20_code
def yX8_keep : MethodName := ⟨RX8, "keep", "(I)I"⟩
abbrev cX8_on : ByteArray := prog_1_method_21_code
def yX8_on : MethodName := ⟨RX8, "on", "(I)I"⟩
abbrev cX8_bright : ByteArray := prog_1_method_22_code
def yX8_bright : MethodName := ⟨RX8, "bright", "(I)I"⟩
abbrev cX8_along : ByteArray := prog_1_method_23_code
def yX8_along : MethodName := ⟨RX8, "along", "(II)I"⟩
abbrev cX8_when : ByteArray := prog_1_method_24_code
def yX8_when : MethodName := ⟨RX8, "when", "(II)I"⟩
abbrev cX8_stow : ByteArray := prog_1_method_25_code
def yX8_stow : MethodName := ⟨RX8, "stow", "(III)I"⟩
abbrev cX8_dark : ByteArray := prog_1_method_26_code
def yX8_dark : MethodName := ⟨RX8, "dark", "(I)I"⟩
abbrev cX8_road : ByteArray := prog_1_method_27_code
def yX8_road : MethodName := ⟨RX8, "road", "()I"⟩
abbrev cX8_owes : ByteArray := prog_1_method_28_code
def yX8_owes : MethodName := ⟨RX8, "owes", "(I)I"⟩
abbrev cX8_ring : ByteArray := prog_1_method_29_code
def yX8_ring : MethodName := ⟨RX8, "ring", "()I"⟩
abbrev cX8_rings : ByteArray := prog_1_method_30_code
def yX8_rings : MethodName := ⟨RX8, "rings", "(I)I"⟩
abbrev cX8_least : ByteArray := prog_1_method_31_code
def yX8_least : MethodName := ⟨RX8, "least", "(I)I"⟩
abbrev cX8_chain : ByteArray := prog_1_method_32_code
def yX8_chain : MethodName := ⟨RX8, "chain", "(III)I"⟩
abbrev cX8_dim : ByteArray := prog_1_method_33_code
def yX8_dim : MethodName := ⟨RX8, "dim", "(II)I"⟩
abbrev cX8_firsts : ByteArray := prog_1_method_34_code
def yX8_firsts : MethodName := ⟨RX8, "firsts", "(II)I"⟩
abbrev cX8_kinds : ByteArray := prog_1_method_35_code
def yX8_kinds : MethodName := ⟨RX8, "kinds", "(II)I"⟩
abbrev cX8_test : ByteArray := prog_1_method_36_code
def yX8_test : MethodName := ⟨RX8, "test", "(II)I"⟩
abbrev cX8_whose : ByteArray := prog_1_method_37_code
def yX8_whose : MethodName := ⟨RX8, "whose", "(II)I"⟩
abbrev cX8_duel : ByteArray := prog_1_method_38_code
def yX8_duel : MethodName := ⟨RX8, "duel", "(II)I"⟩
abbrev cX8_odds : ByteArray := prog_1_method_39_code
def yX8_odds : MethodName := ⟨RX8, "odds", "(III)I"⟩
abbrev cX8_mid : ByteArray := prog_1_method_40_code
def yX8_mid : MethodName := ⟨RX8, "mid", "(II)I"⟩
abbrev cX8_lots : ByteArray := prog_1_method_41_code
def yX8_lots : MethodName := ⟨RX8, "lots", "(II)I"⟩
abbrev cX8_asked : ByteArray := prog_1_method_42_code
def yX8_asked : MethodName := ⟨RX8, "asked", "()I"⟩
abbrev cX8_upper : ByteArray := prog_1_method_43_code
def yX8_upper : MethodName := ⟨RX8, "upper", "()J"⟩
abbrev cX8_lower : ByteArray := prog_1_method_44_code
def yX8_lower : MethodName := ⟨RX8, "lower", "()J"⟩
abbrev cX8_count : ByteArray := prog_1_method_45_code
def yX8_count : MethodName := ⟨RX8, "count", "(I)I"⟩
abbrev cX8_finding : ByteArray := prog_1_method_46_code
def yX8_finding : MethodName := ⟨RX8, "finding", "()I"⟩
abbrev cX8_findings : ByteArray := prog_1_method_47_code
def yX8_findings : MethodName := ⟨RX8, "findings", "(I)I"⟩
abbrev cX8_digest : ByteArray := prog_1_method_48_code
def yX8_digest : MethodName := ⟨RX8, "digest", "()J"⟩
abbrev cX8_isPlace : ByteArray := prog_1_method_49_code
def yX8_isPlace : MethodName := ⟨RX8, "isPlace", "(I)Z"⟩
abbrev cX8_isPerson : ByteArray := prog_1_method_50_code
def yX8_isPerson : MethodName := ⟨RX8, "isPerson", "(I)Z"⟩
abbrev cX8_isStretch : ByteArray := prog_1_method_51_code
def yX8_isStretch : MethodName := ⟨RX8, "isStretch", "(II)Z"⟩
abbrev cX8_rowOf : ByteArray := prog_1_method_52_code
def yX8_rowOf : MethodName := ⟨RX8, "rowOf", "(I)LGlowDebts$Strip;"⟩
abbrev cX8_textOf : ByteArray := prog_1_method_53_code
def yX8_textOf : MethodName := ⟨RX8, "textOf", "(I)LGlowDebts$Strip;"⟩
abbrev cX8_keepOf : ByteArray := prog_1_method_54_code
def yX8_keepOf : MethodName := ⟨RX8, "keepOf", "(I)LGlowDebts$Bank;"⟩
abbrev cX8_refuse : ByteArray := prog_1_method_55_code
def yX8_refuse : MethodName := ⟨RX8, "refuse", "(I)I"⟩
abbrev cX8_refusedMissing : ByteArray := prog_1_method_56_code
def yX8_refusedMissing : MethodName := ⟨RX8, "refusedMissing", "(LGlowDebts$Strip;)I"⟩
abbrev cX8_refusedAt : ByteArray := prog_1_method_57_code
def yX8_refusedAt : MethodName := ⟨RX8, "refusedAt", "(LGlowDebts$Strip;I)I"⟩
abbrev cX8_refusedLooks : ByteArray := prog_1_method_58_code
def yX8_refusedLooks : MethodName := ⟨RX8, "refusedLooks", "(ILGlowDebts$Strip;)I"⟩
abbrev cX8_makeAnew : ByteArray := prog_1_method_59_code
def yX8_makeAnew : MethodName := ⟨RX8, "makeAnew", "(LGlowDebts$Strip;II)I"⟩
abbrev cX8_tellInLowestTerms : ByteArray := prog_1_method_60_code
def yX8_tellInLowestTerms : MethodName := ⟨RX8, "tellInLowestTerms", "(JJ)V"⟩
abbrev cX8_greatestDivisor : ByteArray := prog_1_method_61_code
def yX8_greatestDivisor : MethodName := ⟨RX8, "greatestDivisor", "(JJ)J"⟩
abbrev cX8_howManyThere : ByteArray := prog_1_method_62_code
def yX8_howManyThere : MethodName := ⟨RX8, "howManyThere", "([LGlowDebts$Strip;)I"⟩
abbrev cX8_howManyKept : ByteArray := prog_1_method_63_code
def yX8_howManyKept : MethodName := ⟨RX8, "howManyKept", "()I"⟩
abbrev cX8_digestOf : ByteArray := prog_1_method_64_code
def yX8_digestOf : MethodName := ⟨RX8, "digestOf", "(J[LGlowDebts$Strip;)J"⟩
def RX9 : String := "GlowDebtsModel"
def TX9 : u_T := fun k => match k with
  | 0 => ("GlowDebtsModel", "w", "[I", true)
  | 1 => ("GlowDebtsModel", "rowSize", "[I", true)
  | 2 => ("GlowDebtsModel", "ints", "[I", true)
  | 3 => ("GlowDebtsModel", "textSize", "[I", true)
  | 4 => ("GlowDebtsModel", "bytes", "[I", true)
  | 5 => ("GlowDebtsModel", "found", "I", false)
  | 6 => ("GlowDebtsModel", "finds", "[I", true)
  | 7 => ("GlowDebtsModel", "asked", "I", false)
  | 8 => ("GlowDebtsModel", "upper", "J", false)
  | 9 => ("GlowDebtsModel", "lower", "J", false)
  | 10 => ("GlowDebtsModel", "held", "[I", true)
  | 11 => ("GlowDebtsModel", "from", "I", false)
  | 12 => ("GlowDebtsModel", "place", "I", false)
  | 13 => ("GlowDebtsModel", "end", "I", false)
  | 14 => ("GlowDebtsModel", "number", "I", false)
  | 15 => ("GlowDebtsModel", "readMany", "I", false)
  | 16 => ("GlowDebtsModel", "read", "[I", true)
  | 17 => ("GlowDebtsModel", "brights", "[I", true)
  | 18 => ("GlowDebtsModel", "away", "[I", true)
  | 19 => ("GlowDebtsModel", "litBy", "[I", true)
  | 20 => ("GlowDebtsModel", "tried", "[I", true)
  | 21 => ("GlowDebtsModel", "best", "[I", true)
  | _ => ("GlowDebtsModel", "h", "J", false)
def tyX9 : Nat → FieldType := fun k => match k with
  | 0 => .array .int
  | 1 => .array .int
  | 2 => .array .int
  | 3 => .array .int
  | 4 => .array .int
  | 5 => .int
  | 6 => .array .int
  | 7 => .int
  | 8 => .long
  | 9 => .long
  | 10 => .array .int
  | 11 => .int
  | 12 => .int
  | 13 => .int
  | 14 => .int
  | 15 => .int
  | 16 => .array .int
  | 17 => .array .int
  | 18 => .array .int
  | 19 => .array .int
  | 20 => .array .int
  | 21 => .array .int
  | _ => .long
abbrev wsX90 : List Cond := u_ws RX9 TX9 23
theorem nmX9 : ∀ a, a < 23 → ∀ b, b < 23 → a ≠ b → (TX9 a).2.1 ≠ (TX9 b).2.1 := by decide +kernel
theorem tyX9_ok : ∀ k, k < 23 → parseFieldDescriptor (TX9 k).2.2.1 = some (tyX9 k) := by decide +kernel
abbrev cX9_init : ByteArray := prog_11_method_1_code
def yX9_init : MethodName := ⟨RX9, "<init>", "()V"⟩
abbrev cX9_in : ByteArray := prog_11_method_3_code
def yX9_in : MethodName := ⟨RX9, "in", "(JJJ)Z"⟩
abbrev cX9_has : ByteArray := prog_11_method_4_code
def yX9_has : MethodName := ⟨RX9, "has", "(II)Z"⟩
abbrev cX9_ones : ByteArray := prog_11_method_5_code
def yX9_ones : MethodName := ⟨RX9, "ones", "(I)I"⟩
abbrev cX9_finds : ByteArray := prog_11_method_6_code
def yX9_finds : MethodName := ⟨RX9, "finds", "(I)I"⟩
abbrev cX9_tells : ByteArray := prog_11_method_7_code
def yX9_tells : MethodName := ⟨RX9, "tells", "(I)I"⟩
abbrev cX9_bring : ByteArray := prog_11_method_8_code
def yX9_bring : MethodName := ⟨RX9, "bring", "(II)V"⟩
abbrev cX9_isRow : ByteArray := prog_11_method_9_code
def yX9_isRow : MethodName := ⟨RX9, "isRow", "(I)Z"⟩
abbrev cX9_isText : ByteArray := prog_11_method_10_code
def yX9_isText : MethodName := ⟨RX9, "isText", "(I)Z"⟩
abbrev cX9_isLight : ByteArray := prog_11_method_11_code
def yX9_isLight : MethodName := ⟨RX9, "isLight", "(I)Z"⟩
abbrev cX9_isPlace : ByteArray := prog_11_method_12_code
def yX9_isPlace : MethodName := ⟨RX9, "isPlace", "(I)Z"⟩
abbrev cX9_row : ByteArray := prog_11_method_13_code
def yX9_row : MethodName := ⟨RX9, "row", "(II)I"⟩
abbrev cX9_lay : ByteArray := prog_11_method_14_code
def yX9_lay : MethodName := ⟨RX9, "lay", "(III)I"⟩
abbrev cX9_at : ByteArray := prog_11_method_15_code
def yX9_at : MethodName := ⟨RX9, "at", "(II)I"⟩
abbrev cX9_tear : ByteArray := prog_11_method_16_code
def yX9_tear : MethodName := ⟨RX9, "tear", "(I)I"⟩
abbrev cX9_copy : ByteArray := prog_11_method_17_code
def yX9_copy : MethodName := ⟨RX9, "copy", "(IIIII)I"⟩
abbrev cX9_mean : ByteArray := prog_11_method_18_code
def yX9_mean : MethodName := ⟨RX9, "mean", "(I)I"⟩
abbrev cX9_text : ByteArray := prog_11_method_19_code
def yX9_text : MethodName := ⟨RX9, "text", "(II)I"⟩
abbrev cX9_put : ByteArray := prog_11_method_20_code
def yX9_put : MethodName := ⟨RX9, "put", "(III)I"⟩
abbrev cX9_here : ByteArray := prog_11_method_21_code
def yX9_here : MethodName := ⟨RX9, "here", "()I"⟩
abbrev cX9_kindOf : ByteArray := prog_11_method_22_code
def yX9_kindOf : MethodName := ⟨RX9, "kindOf", "(I)I"⟩
abbrev cX9_takes : ByteArray := prog_11_method_23_code
def yX9_takes : MethodName := ⟨RX9, "takes", "(II)Z"⟩
abbrev cX9_takesLight : ByteArray := prog_11_method_24_code
def yX9_takesLight : MethodName := ⟨RX9, "takesLight", "()Z"⟩
abbrev cX9_faultOf : ByteArray := prog_11_method_25_code
def yX9_faultOf : MethodName := ⟨RX9, "faultOf", "(I)I"⟩
abbrev cX9_fault : ByteArray := prog_11_method_26_code
def yX9_fault : MethodName := ⟨RX9, "fault", "(I)I"⟩
abbrev cX9_bank : ByteArray := prog_11_method_27_code
def yX9_bank : MethodName := ⟨RX9, "bank", "(I)I"⟩
abbrev cX9_dew : ByteArray := prog_11_method_28_code
def yX9_dew : MethodName := ⟨RX9, "dew", "(II)I"⟩
abbrev cX9_forged : ByteArray := prog_11_method_29_code
def yX9_forged : MethodName := ⟨RX9, "forged", "(II)I"⟩
abbrev cX9_glowBy : ByteArray := prog_11_method_30_code
def yX9_glowBy : MethodName := ⟨RX9, "glowBy", "(III)I"⟩
abbrev cX9_glowOf : ByteArray := prog_11_method_31_code
def yX9_glowOf : MethodName := ⟨RX9, "glowOf", "(II)I"⟩
abbrev cX9_light : ByteArray := prog_11_method_32_code
def yX9_light : MethodName := ⟨RX9, "light", "(II)I"⟩
abbrev cX9_lightOf : ByteArray := prog_11_method_33_code
def yX9_lightOf : MethodName := ⟨RX9, "lightOf", "(II)I"⟩
abbrev cX9_isA : ByteArray := prog_11_method_34_code
def yX9_isA : MethodName := ⟨RX9, "isA", "(II)Z"⟩
abbrev cX9_mark : ByteArray := prog_11_method_35_code
def yX9_mark : MethodName := ⟨RX9, "mark", "(II)I"⟩
abbrev cX9_glows : ByteArray := prog_11_method_36_code
def yX9_glows : MethodName := ⟨RX9, "glows", "(II)I"⟩
abbrev cX9_minds : ByteArray := prog_11_method_37_code
def yX9_minds : MethodName := ⟨RX9, "minds", "()V"⟩
abbrev cX9_glowAll : ByteArray := prog_11_method_38_code
def yX9_glowAll : MethodName := ⟨RX9, "glowAll", "()I"⟩
abbrev cX9_night : ByteArray := prog_11_method_39_code
def yX9_night : MethodName := ⟨RX9, "night", "()I"⟩
abbrev cX9_lights : ByteArray := prog_11_method_40_code
def yX9_lights : MethodName := ⟨RX9, "lights", "(IZ)I"⟩
abbrev cX9_answer : ByteArray := prog_11_method_41_code
def yX9_answer : MethodName := ⟨RX9, "answer", "(I)I"⟩
abbrev cX9_relight : ByteArray := prog_11_method_42_code
def yX9_relight : MethodName := ⟨RX9, "relight", "(I)I"⟩
abbrev cX9_carry : ByteArray := prog_11_method_43_code
def yX9_carry : MethodName := ⟨RX9, "carry", "(II)I"⟩
abbrev cX9_undo : ByteArray := prog_11_method_44_code
def yX9_undo : MethodName := ⟨RX9, "undo", "(I)I"⟩
abbrev cX9_keep : ByteArray := prog_11_method_45_code
def yX9_keep : MethodName := ⟨RX9, "keep", "(I)I"⟩
abbrev cX9_on : ByteArray := prog_11_method_46_code
def yX9_on : MethodName := ⟨RX9, "on", "(I)I"⟩
abbrev cX9_size : ByteArray := prog_11_method_47_code
def yX9_size : MethodName := ⟨RX9, "size", "(I)I"⟩
abbrev cX9_gives : ByteArray := prog_11_method_48_code
def yX9_gives : MethodName := ⟨RX9, "gives", "(IIII)I"⟩
abbrev cX9_brightBy : ByteArray := prog_11_method_49_code
def yX9_brightBy : MethodName := ⟨RX9, "brightBy", "(III)I"⟩
abbrev cX9_brightNow : ByteArray := prog_11_method_50_code
def yX9_brightNow : MethodName := ⟨RX9, "brightNow", "(I)I"⟩
abbrev cX9_alongNow : ByteArray := prog_11_method_51_code
def yX9_alongNow : MethodName := ⟨RX9, "alongNow", "(II)I"⟩
abbrev cX9_bright : ByteArray := prog_11_method_52_code
def yX9_bright : MethodName := ⟨RX9, "bright", "(I)I"⟩
abbrev cX9_along : ByteArray := prog_11_method_53_code
def yX9_along : MethodName := ⟨RX9, "along", "(II)I"⟩
abbrev cX9_when : ByteArray := prog_11_method_54_code
def yX9_when : MethodName := ⟨RX9, "when", "(II)I"⟩
abbrev cX9_stow : ByteArray := prog_11_method_55_code
def yX9_stow : MethodName := ⟨RX9, "stow", "(III)I"⟩
abbrev cX9_dark : ByteArray := prog_11_method_56_code
def yX9_dark : MethodName := ⟨RX9, "dark", "(I)I"⟩
abbrev cX9_road : ByteArray := prog_11_method_57_code
def yX9_road : MethodName := ⟨RX9, "road", "()I"⟩
abbrev cX9_isForged : ByteArray := prog_11_method_58_code
def yX9_isForged : MethodName := ⟨RX9, "isForged", "(I)Z"⟩
abbrev cX9_debts : ByteArray := prog_11_method_59_code
def yX9_debts : MethodName := ⟨RX9, "debts", "()I"⟩
abbrev cX9_owesBy : ByteArray := prog_11_method_60_code
def yX9_owesBy : MethodName := ⟨RX9, "owesBy", "(II)I"⟩
abbrev cX9_isRing : ByteArray := prog_11_method_61_code
def yX9_isRing : MethodName := ⟨RX9, "isRing", "(I)Z"⟩
abbrev cX9_owes : ByteArray := prog_11_method_62_code
def yX9_owes : MethodName := ⟨RX9, "owes", "(I)I"⟩
abbrev cX9_ring : ByteArray := prog_11_method_63_code
def yX9_ring : MethodName := ⟨RX9, "ring", "()I"⟩
abbrev cX9_rings : ByteArray := prog_11_method_64_code
def yX9_rings : MethodName := ⟨RX9, "rings", "(I)I"⟩
abbrev cX9_least : ByteArray := prog_11_method_65_code
def yX9_least : MethodName := ⟨RX9, "least", "(I)I"⟩
abbrev cX9_chain : ByteArray := prog_11_method_66_code
def yX9_chain : MethodName := ⟨RX9, "chain", "(III)I"⟩
abbrev cX9_dim : ByteArray := prog_11_method_67_code
def yX9_dim : MethodName := ⟨RX9, "dim", "(II)I"⟩
abbrev cX9_against : ByteArray := prog_11_method_68_code
def yX9_against : MethodName := ⟨RX9, "against", "(I)I"⟩
abbrev cX9_fits : ByteArray := prog_11_method_69_code
def yX9_fits : MethodName := ⟨RX9, "fits", "(III)Z"⟩
abbrev cX9_firsts : ByteArray := prog_11_method_70_code
def yX9_firsts : MethodName := ⟨RX9, "firsts", "(II)I"⟩
abbrev cX9_kindsOf : ByteArray := prog_11_method_71_code
def yX9_kindsOf : MethodName := ⟨RX9, "kindsOf", "(II)I"⟩
abbrev cX9_kinds : ByteArray := prog_11_method_72_code
def yX9_kinds : MethodName := ⟨RX9, "kinds", "(II)I"⟩
abbrev cX9_greatestPart : ByteArray := prog_11_method_73_code
def yX9_greatestPart : MethodName := ⟨RX9, "greatestPart", "(III)I"⟩
abbrev cX9_test : ByteArray := prog_11_method_74_code
def yX9_test : MethodName := ⟨RX9, "test", "(II)I"⟩
abbrev cX9_whose : ByteArray := prog_11_method_75_code
def yX9_whose : MethodName := ⟨RX9, "whose", "(II)I"⟩
abbrev cX9_duel : ByteArray := prog_11_method_76_code
def yX9_duel : MethodName := ⟨RX9, "duel", "(II)I"⟩
abbrev cX9_betters : ByteArray := prog_11_method_77_code
def yX9_betters : MethodName := ⟨RX9, "betters", "(I)V"⟩
abbrev cX9_tellsPart : ByteArray := prog_11_method_78_code
def yX9_tellsPart : MethodName := ⟨RX9, "tellsPart", "(JJ)I"⟩
abbrev cX9_chances : ByteArray := prog_11_method_79_code
def yX9_chances : MethodName := ⟨RX9, "chances", "(III)I"⟩
abbrev cX9_odds : ByteArray := prog_11_method_80_code
def yX9_odds : MethodName := ⟨RX9, "odds", "(III)I"⟩
abbrev cX9_mid : ByteArray := prog_11_method_81_code
def yX9_mid : MethodName := ⟨RX9, "mid", "(II)I"⟩
abbrev cX9_lots : ByteArray := prog_11_method_82_code
def yX9_lots : MethodName := ⟨RX9, "lots", "(II)I"⟩
abbrev cX9_asked : ByteArray := prog_11_method_83_code
def yX9_asked : MethodName := ⟨RX9, "asked", "()I"⟩
abbrev cX9_upper : ByteArray := prog_11_method_84_code
def yX9_upper : MethodName := ⟨RX9, "upper", "()J"⟩
abbrev cX9_lower : ByteArray := prog_11_method_85_code
def yX9_lower : MethodName := ⟨RX9, "lower", "()J"⟩
abbrev cX9_manyOf : ByteArray := prog_11_method_86_code
def yX9_manyOf : MethodName := ⟨RX9, "manyOf", "(II)I"⟩
abbrev cX9_rowsThere : ByteArray := prog_11_method_87_code
def yX9_rowsThere : MethodName := ⟨RX9, "rowsThere", "()I"⟩
abbrev cX9_textsThere : ByteArray := prog_11_method_88_code
def yX9_textsThere : MethodName := ⟨RX9, "textsThere", "()I"⟩
abbrev cX9_banksKept : ByteArray := prog_11_method_89_code
def yX9_banksKept : MethodName := ⟨RX9, "banksKept", "()I"⟩
abbrev cX9_count : ByteArray := prog_11_method_90_code
def yX9_count : MethodName := ⟨RX9, "count", "(I)I"⟩
abbrev cX9_finding : ByteArray := prog_11_method_91_code
def yX9_finding : MethodName := ⟨RX9, "finding", "()I"⟩
abbrev cX9_findings : ByteArray := prog_11_method_92_code
def yX9_findings : MethodName := ⟨RX9, "findings", "(I)I"⟩
abbrev cX9_mix : ByteArray := prog_11_method_93_code
def yX9_mix : MethodName := ⟨RX9, "mix", "(J)V"⟩
abbrev cX9_digest : ByteArray := prog_11_method_94_code
def yX9_digest : MethodName := ⟨RX9, "digest", "()J"⟩
def RJ6 : String := "java/lang/Integer"
def TJ6 : u_T := fun k => match k with
  | _ => ("", "", "", false)
def tyJ6 : Nat → FieldType := fun k => match k with
  | _ => .int
abbrev wsJ60 : List Cond := u_ws RJ6 TJ6 0
theorem nmJ6 : ∀ a, a < 0 → ∀ b, b < 0 → a ≠ b → (TJ6 a).2.1 ≠ (TJ6 b).2.1 := by decide +kernel
theorem tyJ6_ok : ∀ k, k < 0 → parseFieldDescriptor (TJ6 k).2.2.1 = some (tyJ6 k) := by decide +kernel
abbrev cJ6_bitCount_0f7a4 : ByteArray := prog_12_method_49_code
def yJ6_bitCount_0f7a4 : MethodName := ⟨RJ6, "bitCount", "(I)I"⟩
def RJ9 : String := "java/lang/Math"
def TJ9 : u_T := fun k => match k with
  | _ => ("", "", "", false)
def tyJ9 : Nat → FieldType := fun k => match k with
  | _ => .int
abbrev wsJ90 : List Cond := u_ws RJ9 TJ9 0
theorem nmJ9 : ∀ a, a < 0 → ∀ b, b < 0 → a ≠ b → (TJ9 a).2.1 ≠ (TJ9 b).2.1 := by decide +kernel
theorem tyJ9_ok : ∀ k, k < 0 → parseFieldDescriptor (TJ9 k).2.2.1 = some (tyJ9 k) := by decide +kernel
abbrev cJ9_abs_0f7a4 : ByteArray := prog_13_method_59_code
def yJ9_abs_0f7a4 : MethodName := ⟨RJ9, "abs", "(I)I"⟩
abbrev cJ9_max_7cf53 : ByteArray := prog_13_method_65_code
def yJ9_max_7cf53 : MethodName := ⟨RJ9, "max", "(II)I"⟩
abbrev cJ9_min_7cf53 : ByteArray := prog_13_method_69_code
def yJ9_min_7cf53 : MethodName := ⟨RJ9, "min", "(II)I"⟩
def RJ10 : String := "java/lang/System"
def TJ10 : u_T := fun k => match k with
  | _ => ("", "", "", false)
def tyJ10 : Nat → FieldType := fun k => match k with
  | _ => .int
abbrev wsJ100 : List Cond := u_ws RJ10 TJ10 0
theorem nmJ10 : ∀ a, a < 0 → ∀ b, b < 0 → a ≠ b → (TJ10 a).2.1 ≠ (TJ10 b).2.1 := by decide +kernel
theorem tyJ10_ok : ∀ k, k < 0 → parseFieldDescriptor (TJ10 k).2.2.1 = some (tyJ10 k) := by decide +kernel
def RL : String := "GlowDebtsLaw"
abbrev cL_law : ByteArray := code
def yL_law : MethodName := ⟨RL, "law", "([I)Z"⟩
abbrev vwCl : List vw_C := [(RX0, TX0, 10), (RX1, TX1, 1), (RX4, TX4, 2), (RX5, TX5, 2), (RX8, TX8, 11), (RX9, TX9, 23)]
end
section
/-! the good words of the tables: those that a callee may be given -/
def TT : List Cond := lw_tbl.filter goodWord
theorem TT_in : ∀ w ∈ TT, w ∈ lw_tbl := fun _ h => (List.mem_filter.mp h).1
theorem TT_ok : GoodIn TT TT := fun _ h => ⟨h, good_of_word (List.mem_filter.mp h).2⟩
theorem TT_of {w : Cond} (h : w ∈ tables_1) (hg : goodWord w = true) : w ∈ TT := List.mem_filter.mpr ⟨List.mem_append_right _ h, hg⟩
theorem TT_pv {w : Cond} (h : w ∈ k2_sels lw_privs) (hg : goodWord w = true) : w ∈ TT := List.mem_filter.mpr ⟨List.mem_append_left _ h, hg⟩
theorem TT_2 {a : Cond} {l : List Cond} (ha : a ∈ TT) (h : GoodIn TT l) : GoodIn TT (a :: l) := fun w hw => by
  rcases List.mem_cons.mp hw with rfl | hw
  · exact TT_ok _ ha
  · exact h w hw
theorem TT_0 : GoodIn TT [] := fun w hw => by cases hw
theorem TT_t0 {w : Cond} (h : w ∈ tables_1_1) (hg : goodWord w = true) : w ∈ TT := TT_of (List.mem_append_left _ h) hg
theorem TT_t1 {w : Cond} (h : w ∈ tables_1_2) (hg : goodWord w = true) : w ∈ TT := TT_of (List.mem_append_right _ (List.mem_append_left _ h)) hg
theorem TT_t2 {w : Cond} (h : w ∈ tables_1_3) (hg : goodWord w = true) : w ∈ TT := TT_of (List.mem_append_right _ (List.mem_append_right _ (List.mem_append_left _ h))) hg
theorem TT_t3 {w : Cond} (h : w ∈ tables_1_4) (hg : goodWord w = true) : w ∈ TT := TT_of (List.mem_append_right _ (List.mem_append_right _ (List.mem_append_right _ (List.mem_append_left _ h)))) hg
theorem TT_t4 {w : Cond} (h : w ∈ tables_1_5) (hg : goodWord w = true) : w ∈ TT := TT_of (List.mem_append_right _ (List.mem_append_right _ (List.mem_append_right _ (List.mem_append_right _ (List.mem_append_left _ h))))) hg
theorem TT_t5 {w : Cond} (h : w ∈ tables_1_6) (hg : goodWord w = true) : w ∈ TT := TT_of (List.mem_append_right _ (List.mem_append_right _ (List.mem_append_right _ (List.mem_append_right _ (List.mem_append_right _ (h)))))) hg
theorem mw_X8_1 : Cond.methodLink RX8 1 objectInit ∈ TT := TT_t0 (List.mem_of_getElem? (i := 19) (by decide +kernel)) (by decide +kernel)
theorem fw_X8_11 : Cond.fieldLink RX8 11 "GlowDebts" "rows" "[LGlowDebts$Strip;" ∈ TT := TT_t0 (List.mem_of_getElem? (i := 101) (by decide +kernel)) (by decide +kernel)
theorem fw_X8_15 : Cond.fieldLink RX8 15 "GlowDebts" "texts" "[LGlowDebts$Strip;" ∈ TT := TT_t0 (List.mem_of_getElem? (i := 102) (by decide +kernel)) (by decide +kernel)
theorem fw_X8_21 : Cond.fieldLink RX8 21 "GlowDebts" "now" "LGlowDebts$Bank;" ∈ TT := TT_t0 (List.mem_of_getElem? (i := 103) (by decide +kernel)) (by decide +kernel)
theorem fw_X8_25 : Cond.fieldLink RX8 25 "GlowDebts" "keeps" "[LGlowDebts$Bank;" ∈ TT := TT_t0 (List.mem_of_getElem? (i := 104) (by decide +kernel)) (by decide +kernel)
theorem fw_X8_32 : Cond.fieldLink RX8 32 "GlowDebts" "sets" "LGlowDebts$Sets;" ∈ TT := TT_t0 (List.mem_of_getElem? (i := 105) (by decide +kernel)) (by decide +kernel)
theorem fw_X8_39 : Cond.fieldLink RX8 39 "GlowDebts" "chains" "LGlowDebts$Chains;" ∈ TT := TT_t0 (List.mem_of_getElem? (i := 106) (by decide +kernel)) (by decide +kernel)
theorem fw_X8_43 : Cond.fieldLink RX8 43 "GlowDebts" "found" "[I" ∈ TT := TT_t0 (List.mem_of_getElem? (i := 107) (by decide +kernel)) (by decide +kernel)
theorem fw_X8_47 : Cond.fieldLink RX8 47 "GlowDebts" "latestFound" "I" ∈ TT := TT_t0 (List.mem_of_getElem? (i := 108) (by decide +kernel)) (by decide +kernel)
theorem fw_X8_51 : Cond.fieldLink RX8 51 "GlowDebts" "toldAside" "I" ∈ TT := TT_t0 (List.mem_of_getElem? (i := 109) (by decide +kernel)) (by decide +kernel)
theorem fw_X8_54 : Cond.fieldLink RX8 54 "GlowDebts" "toldUpper" "J" ∈ TT := TT_t0 (List.mem_of_getElem? (i := 110) (by decide +kernel)) (by decide +kernel)
theorem fw_X8_58 : Cond.fieldLink RX8 58 "GlowDebts" "toldLower" "J" ∈ TT := TT_t0 (List.mem_of_getElem? (i := 111) (by decide +kernel)) (by decide +kernel)
theorem mw_X8_61 : Cond.methodLink RX8 61 yX5_init ∈ TT := TT_t0 (List.mem_of_getElem? (i := 87) (by decide +kernel)) (by decide +kernel)
theorem mw_X8_64 : Cond.methodLink RX8 64 yX8_rowOf ∈ TT := TT_t0 (List.mem_of_getElem? (i := 139) (by decide +kernel)) (by decide +kernel)
theorem mw_X8_68 : Cond.methodLink RX8 68 yX8_makeAnew ∈ TT := TT_t0 (List.mem_of_getElem? (i := 143) (by decide +kernel)) (by decide +kernel)
theorem mw_X8_72 : Cond.methodLink RX8 72 yX8_refusedAt ∈ TT := TT_t0 (List.mem_of_getElem? (i := 166) (by decide +kernel)) (by decide +kernel)
theorem mw_X8_76 : Cond.methodLink RX8 76 yX5_get ∈ TT := TT_t0 (List.mem_of_getElem? (i := 182) (by decide +kernel)) (by decide +kernel)
theorem mw_X8_80 : Cond.methodLink RX8 80 yX5_set ∈ TT := TT_t0 (List.mem_of_getElem? (i := 187) (by decide +kernel)) (by decide +kernel)
theorem mw_X8_84 : Cond.methodLink RX8 84 yX8_refusedMissing ∈ TT := TT_t0 (List.mem_of_getElem? (i := 170) (by decide +kernel)) (by decide +kernel)
theorem mw_X8_88 : Cond.methodLink RX8 88 yX5_remove ∈ TT := TT_t0 (List.mem_of_getElem? (i := 199) (by decide +kernel)) (by decide +kernel)
theorem mw_X8_91 : Cond.methodLink RX8 91 yX8_refuse ∈ TT := TT_t0 (List.mem_of_getElem? (i := 151) (by decide +kernel)) (by decide +kernel)
theorem mw_X8_94 : Cond.methodLink RX8 94 yX5_isMissing ∈ TT := TT_t0 (List.mem_of_getElem? (i := 174) (by decide +kernel)) (by decide +kernel)
theorem mw_X8_98 : Cond.methodLink RX8 98 yX5_holdsRun ∈ TT := TT_t0 (List.mem_of_getElem? (i := 207) (by decide +kernel)) (by decide +kernel)
theorem mw_X8_102 : Cond.methodLink RX8 102 yX5_takeRun ∈ TT := TT_t0 (List.mem_of_getElem? (i := 211) (by decide +kernel)) (by decide +kernel)
theorem mw_X8_106 : Cond.methodLink RX8 106 yX5_size ∈ TT := TT_t0 (List.mem_of_getElem? (i := 223) (by decide +kernel)) (by decide +kernel)
theorem mw_X8_110 : Cond.methodLink RX8 110 yX5_total ∈ TT := TT_t0 (List.mem_of_getElem? (i := 227) (by decide +kernel)) (by decide +kernel)
theorem mw_X8_114 : Cond.methodLink RX8 114 yX8_textOf ∈ TT := TT_t0 (List.mem_of_getElem? (i := 235) (by decide +kernel)) (by decide +kernel)
theorem mw_X8_117 : Cond.methodLink RX8 117 yX7_firstFault ∈ TT := TT_t1 (List.mem_of_getElem? (i := 7) (by decide +kernel)) (by decide +kernel)
theorem mw_X8_122 : Cond.methodLink RX8 122 yX7_readInto ∈ TT := TT_t1 (List.mem_of_getElem? (i := 30) (by decide +kernel)) (by decide +kernel)
theorem mw_X8_126 : Cond.methodLink RX8 126 yX8_keepOf ∈ TT := TT_t1 (List.mem_of_getElem? (i := 41) (by decide +kernel)) (by decide +kernel)
theorem mw_X8_130 : Cond.methodLink RX8 130 yX0_clear ∈ TT := TT_t1 (List.mem_of_getElem? (i := 45) (by decide +kernel)) (by decide +kernel)
theorem mw_X8_133 : Cond.methodLink RX8 133 yX0_size ∈ TT := TT_t1 (List.mem_of_getElem? (i := 46) (by decide +kernel)) (by decide +kernel)
theorem mw_X8_134 : Cond.methodLink RX8 134 yX0_has ∈ TT := TT_t1 (List.mem_of_getElem? (i := 54) (by decide +kernel)) (by decide +kernel)
theorem mw_X8_138 : Cond.methodLink RX8 138 yX0_partOf ∈ TT := TT_t1 (List.mem_of_getElem? (i := 58) (by decide +kernel)) (by decide +kernel)
theorem mw_X8_142 : Cond.methodLink RX8 142 yX0_kindOf ∈ TT := TT_t1 (List.mem_of_getElem? (i := 100) (by decide +kernel)) (by decide +kernel)
theorem mw_X8_145 : Cond.methodLink RX8 145 yX2_isOf ∈ TT := TT_t1 (List.mem_of_getElem? (i := 101) (by decide +kernel)) (by decide +kernel)
theorem mw_X8_150 : Cond.methodLink RX8 150 yX0_firstOf ∈ TT := TT_t1 (List.mem_of_getElem? (i := 107) (by decide +kernel)) (by decide +kernel)
theorem mw_X8_153 : Cond.methodLink RX8 153 yX0_thisNight ∈ TT := TT_t1 (List.mem_of_getElem? (i := 108) (by decide +kernel)) (by decide +kernel)
theorem mw_X8_156 : Cond.methodLink RX8 156 yX2_signOf ∈ TT := TT_t1 (List.mem_of_getElem? (i := 112) (by decide +kernel)) (by decide +kernel)
theorem mw_X8_160 : Cond.methodLink RX8 160 yX0_glowOf ∈ TT := TT_t1 (List.mem_of_getElem? (i := 120) (by decide +kernel)) (by decide +kernel)
theorem mw_X8_163 : Cond.methodLink RX8 163 yX0_deedsDone ∈ TT := TT_t1 (List.mem_of_getElem? (i := 125) (by decide +kernel)) (by decide +kernel)
theorem mw_X8_166 : Cond.methodLink RX8 166 yX0_passNight ∈ TT := TT_t1 (List.mem_of_getElem? (i := 129) (by decide +kernel)) (by decide +kernel)
theorem mw_X8_169 : Cond.methodLink RX8 169 yX0_litGlow ∈ TT := TT_t1 (List.mem_of_getElem? (i := 137) (by decide +kernel)) (by decide +kernel)
theorem mw_X8_172 : Cond.methodLink RX8 172 yX0_isLit ∈ TT := TT_t1 (List.mem_of_getElem? (i := 145) (by decide +kernel)) (by decide +kernel)
theorem mw_X8_175 : Cond.methodLink RX8 175 yX0_putOut ∈ TT := TT_t1 (List.mem_of_getElem? (i := 146) (by decide +kernel)) (by decide +kernel)
theorem mw_X8_178 : Cond.methodLink RX8 178 yX0_lightAgain ∈ TT := TT_t1 (List.mem_of_getElem? (i := 154) (by decide +kernel)) (by decide +kernel)
theorem mw_X8_181 : Cond.methodLink RX8 181 yX8_isPlace ∈ TT := TT_t1 (List.mem_of_getElem? (i := 162) (by decide +kernel)) (by decide +kernel)
theorem mw_X8_184 : Cond.methodLink RX8 184 yX0_placeOf ∈ TT := TT_t1 (List.mem_of_getElem? (i := 165) (by decide +kernel)) (by decide +kernel)
theorem mw_X8_187 : Cond.methodLink RX8 187 yX0_carryTo ∈ TT := TT_t1 (List.mem_of_getElem? (i := 166) (by decide +kernel)) (by decide +kernel)
theorem mw_X8_190 : Cond.methodLink RX8 190 yX0_takeBackFrom ∈ TT := TT_t1 (List.mem_of_getElem? (i := 174) (by decide +kernel)) (by decide +kernel)
theorem mw_X8_193 : Cond.methodLink RX8 193 yX0_become ∈ TT := TT_t1 (List.mem_of_getElem? (i := 186) (by decide +kernel)) (by decide +kernel)
theorem mw_X8_197 : Cond.methodLink RX8 197 yX0_brightAt ∈ TT := TT_t1 (List.mem_of_getElem? (i := 199) (by decide +kernel)) (by decide +kernel)
theorem mw_X8_200 : Cond.methodLink RX8 200 yX8_isStretch ∈ TT := TT_t1 (List.mem_of_getElem? (i := 218) (by decide +kernel)) (by decide +kernel)
theorem mw_X8_203 : Cond.methodLink RX8 203 yX0_brightAlong ∈ TT := TT_t1 (List.mem_of_getElem? (i := 221) (by decide +kernel)) (by decide +kernel)
theorem mw_X8_206 : Cond.methodLink RX8 206 yX0_shareAlong ∈ TT := TT_t1 (List.mem_of_getElem? (i := 234) (by decide +kernel)) (by decide +kernel)
theorem mw_X8_209 : Cond.methodLink RX8 209 yX6_darkest ∈ TT := TT_t2 (List.mem_of_getElem? (i := 6) (by decide +kernel)) (by decide +kernel)
theorem mw_X8_215 : Cond.methodLink RX8 215 yX6_placesOnRoad ∈ TT := TT_t2 (List.mem_of_getElem? (i := 12) (by decide +kernel)) (by decide +kernel)
theorem mw_X8_218 : Cond.methodLink RX8 218 yX6_brightness ∈ TT := TT_t2 (List.mem_of_getElem? (i := 15) (by decide +kernel)) (by decide +kernel)
theorem mw_X8_221 : Cond.methodLink RX8 221 yX8_isPerson ∈ TT := TT_t2 (List.mem_of_getElem? (i := 22) (by decide +kernel)) (by decide +kernel)
theorem mw_X8_224 : Cond.methodLink RX8 224 yX0_balanceOf ∈ TT := TT_t2 (List.mem_of_getElem? (i := 25) (by decide +kernel)) (by decide +kernel)
theorem mw_X8_227 : Cond.methodLink RX8 227 yX4_largestRing ∈ TT := TT_t2 (List.mem_of_getElem? (i := 38) (by decide +kernel)) (by decide +kernel)
theorem mw_X8_230 : Cond.methodLink RX8 230 yJ6_bitCount_0f7a4 ∈ TT := TT_t2 (List.mem_of_getElem? (i := 67) (by decide +kernel)) (by decide +kernel)
theorem mw_X8_235 : Cond.methodLink RX8 235 yX4_ringsWith ∈ TT := TT_t2 (List.mem_of_getElem? (i := 72) (by decide +kernel)) (by decide +kernel)
theorem mw_X8_239 : Cond.methodLink RX8 239 yX4_smallestRingWith ∈ TT := TT_t2 (List.mem_of_getElem? (i := 80) (by decide +kernel)) (by decide +kernel)
theorem mw_X8_242 : Cond.methodLink RX8 242 yX1_shortest ∈ TT := TT_t2 (List.mem_of_getElem? (i := 88) (by decide +kernel)) (by decide +kernel)
theorem mw_X8_246 : Cond.methodLink RX8 246 yX1_write ∈ TT := TT_t2 (List.mem_of_getElem? (i := 101) (by decide +kernel)) (by decide +kernel)
theorem mw_X8_250 : Cond.methodLink RX8 250 yX4_fewestToAnswer ∈ TT := TT_t2 (List.mem_of_getElem? (i := 116) (by decide +kernel)) (by decide +kernel)
theorem mw_X8_253 : Cond.methodLink RX8 253 yX8_refusedLooks ∈ TT := TT_t2 (List.mem_of_getElem? (i := 136) (by decide +kernel)) (by decide +kernel)
theorem mw_X8_257 : Cond.methodLink RX8 257 yX3_fittingFirsts ∈ TT := TT_t2 (List.mem_of_getElem? (i := 145) (by decide +kernel)) (by decide +kernel)
theorem mw_X8_262 : Cond.methodLink RX8 262 yX3_fittingKinds ∈ TT := TT_t2 (List.mem_of_getElem? (i := 156) (by decide +kernel)) (by decide +kernel)
theorem mw_X8_265 : Cond.methodLink RX8 265 yX3_tellingNight ∈ TT := TT_t2 (List.mem_of_getElem? (i := 163) (by decide +kernel)) (by decide +kernel)
theorem mw_X8_268 : Cond.methodLink RX8 268 yX3_largestPart ∈ TT := TT_t2 (List.mem_of_getElem? (i := 173) (by decide +kernel)) (by decide +kernel)
theorem mw_X8_272 : Cond.methodLink RX8 272 yX3_areTold ∈ TT := TT_t2 (List.mem_of_getElem? (i := 178) (by decide +kernel)) (by decide +kernel)
theorem mw_X8_276 : Cond.methodLink RX8 276 yX3_fittingOwers ∈ TT := TT_t2 (List.mem_of_getElem? (i := 181) (by decide +kernel)) (by decide +kernel)
theorem mw_X8_280 : Cond.methodLink RX8 280 yX4_afterTurns ∈ TT := TT_t2 (List.mem_of_getElem? (i := 195) (by decide +kernel)) (by decide +kernel)
theorem mw_X8_283 : Cond.methodLink RX8 283 yX4_waysToBeDark ∈ TT := TT_t2 (List.mem_of_getElem? (i := 212) (by decide +kernel)) (by decide +kernel)
theorem mw_X8_287 : Cond.methodLink RX8 287 yX0_litSet ∈ TT := TT_t2 (List.mem_of_getElem? (i := 219) (by decide +kernel)) (by decide +kernel)
theorem mw_X8_290 : Cond.methodLink RX8 290 yX4_power ∈ TT := TT_t2 (List.mem_of_getElem? (i := 220) (by decide +kernel)) (by decide +kernel)
theorem mw_X8_294 : Cond.methodLink RX8 294 yX8_tellInLowestTerms ∈ TT := TT_t2 (List.mem_of_getElem? (i := 221) (by decide +kernel)) (by decide +kernel)
theorem kw_X8_298 : Cond.constantLong RX8 298 (12) ∈ TT := TT_t2 (List.mem_of_getElem? (i := 232) (by decide +kernel)) (by decide +kernel)
theorem kw_X8_300 : Cond.constant RX8 300 (2147483646) ∈ TT := TT_t2 (List.mem_of_getElem? (i := 237) (by decide +kernel)) (by decide +kernel)
theorem kw_X8_301 : Cond.constantLong RX8 301 (48271) ∈ TT := TT_t2 (List.mem_of_getElem? (i := 238) (by decide +kernel)) (by decide +kernel)
theorem kw_X8_303 : Cond.constantLong RX8 303 (2147483647) ∈ TT := TT_t2 (List.mem_of_getElem? (i := 239) (by decide +kernel)) (by decide +kernel)
theorem mw_X8_305 : Cond.methodLink RX8 305 yX0_doByLot ∈ TT := TT_t3 (List.mem_of_getElem? (i := 0) (by decide +kernel)) (by decide +kernel)
theorem mw_X8_309 : Cond.methodLink RX8 309 yX0_howManyOf ∈ TT := TT_t3 (List.mem_of_getElem? (i := 28) (by decide +kernel)) (by decide +kernel)
theorem mw_X8_312 : Cond.methodLink RX8 312 yX8_howManyThere ∈ TT := TT_t3 (List.mem_of_getElem? (i := 32) (by decide +kernel)) (by decide +kernel)
theorem mw_X8_316 : Cond.methodLink RX8 316 yX8_howManyKept ∈ TT := TT_t3 (List.mem_of_getElem? (i := 35) (by decide +kernel)) (by decide +kernel)
theorem kw_X8_319 : Cond.constantLong RX8 319 (17) ∈ TT := TT_t3 (List.mem_of_getElem? (i := 51) (by decide +kernel)) (by decide +kernel)
theorem kw_X8_321 : Cond.constantLong RX8 321 (31) ∈ TT := TT_t3 (List.mem_of_getElem? (i := 52) (by decide +kernel)) (by decide +kernel)
theorem mw_X8_323 : Cond.methodLink RX8 323 yX8_count ∈ TT := TT_t3 (List.mem_of_getElem? (i := 53) (by decide +kernel)) (by decide +kernel)
theorem mw_X8_326 : Cond.methodLink RX8 326 yX8_digestOf ∈ TT := TT_t3 (List.mem_of_getElem? (i := 54) (by decide +kernel)) (by decide +kernel)
theorem mw_X8_330 : Cond.methodLink RX8 330 yX5_holds ∈ TT := TT_t0 (List.mem_of_getElem? (i := 178) (by decide +kernel)) (by decide +kernel)
theorem mw_X8_333 : Cond.methodLink RX8 333 yX3_arePairs ∈ TT := TT_t2 (List.mem_of_getElem? (i := 140) (by decide +kernel)) (by decide +kernel)
theorem mw_X8_336 : Cond.methodLink RX8 336 yX5_room ∈ TT := TT_t0 (List.mem_of_getElem? (i := 147) (by decide +kernel)) (by decide +kernel)
theorem mw_X8_339 : Cond.methodLink RX8 339 yX5_renew ∈ TT := TT_t0 (List.mem_of_getElem? (i := 155) (by decide +kernel)) (by decide +kernel)
theorem mw_X8_342 : Cond.methodLink RX8 342 yX8_greatestDivisor ∈ TT := TT_t2 (List.mem_of_getElem? (i := 225) (by decide +kernel)) (by decide +kernel)
theorem mw_X9_1 : Cond.methodLink RX9 1 objectInit ∈ TT := TT_t3 (List.mem_of_getElem? (i := 62) (by decide +kernel)) (by decide +kernel)
theorem fw_X9_7 : Cond.fieldLink RX9 7 "GlowDebtsModel" "w" "[I" ∈ TT := TT_t3 (List.mem_of_getElem? (i := 63) (by decide +kernel)) (by decide +kernel)
theorem fw_X9_13 : Cond.fieldLink RX9 13 "GlowDebtsModel" "rowSize" "[I" ∈ TT := TT_t3 (List.mem_of_getElem? (i := 64) (by decide +kernel)) (by decide +kernel)
theorem fw_X9_16 : Cond.fieldLink RX9 16 "GlowDebtsModel" "ints" "[I" ∈ TT := TT_t3 (List.mem_of_getElem? (i := 65) (by decide +kernel)) (by decide +kernel)
theorem fw_X9_19 : Cond.fieldLink RX9 19 "GlowDebtsModel" "textSize" "[I" ∈ TT := TT_t3 (List.mem_of_getElem? (i := 66) (by decide +kernel)) (by decide +kernel)
theorem fw_X9_22 : Cond.fieldLink RX9 22 "GlowDebtsModel" "bytes" "[I" ∈ TT := TT_t3 (List.mem_of_getElem? (i := 67) (by decide +kernel)) (by decide +kernel)
theorem fw_X9_25 : Cond.fieldLink RX9 25 "GlowDebtsModel" "finds" "[I" ∈ TT := TT_t3 (List.mem_of_getElem? (i := 69) (by decide +kernel)) (by decide +kernel)
theorem fw_X9_28 : Cond.fieldLink RX9 28 "GlowDebtsModel" "lower" "J" ∈ TT := TT_t3 (List.mem_of_getElem? (i := 72) (by decide +kernel)) (by decide +kernel)
theorem fw_X9_32 : Cond.fieldLink RX9 32 "GlowDebtsModel" "held" "[I" ∈ TT := TT_t3 (List.mem_of_getElem? (i := 73) (by decide +kernel)) (by decide +kernel)
theorem fw_X9_35 : Cond.fieldLink RX9 35 "GlowDebtsModel" "read" "[I" ∈ TT := TT_t3 (List.mem_of_getElem? (i := 79) (by decide +kernel)) (by decide +kernel)
theorem fw_X9_38 : Cond.fieldLink RX9 38 "GlowDebtsModel" "brights" "[I" ∈ TT := TT_t3 (List.mem_of_getElem? (i := 80) (by decide +kernel)) (by decide +kernel)
theorem fw_X9_41 : Cond.fieldLink RX9 41 "GlowDebtsModel" "away" "[I" ∈ TT := TT_t3 (List.mem_of_getElem? (i := 81) (by decide +kernel)) (by decide +kernel)
theorem fw_X9_44 : Cond.fieldLink RX9 44 "GlowDebtsModel" "litBy" "[I" ∈ TT := TT_t3 (List.mem_of_getElem? (i := 82) (by decide +kernel)) (by decide +kernel)
theorem fw_X9_47 : Cond.fieldLink RX9 47 "GlowDebtsModel" "tried" "[I" ∈ TT := TT_t3 (List.mem_of_getElem? (i := 83) (by decide +kernel)) (by decide +kernel)
theorem fw_X9_50 : Cond.fieldLink RX9 50 "GlowDebtsModel" "best" "[I" ∈ TT := TT_t3 (List.mem_of_getElem? (i := 84) (by decide +kernel)) (by decide +kernel)
theorem fw_X9_53 : Cond.fieldLink RX9 53 "GlowDebtsModel" "found" "I" ∈ TT := TT_t3 (List.mem_of_getElem? (i := 68) (by decide +kernel)) (by decide +kernel)
theorem fw_X9_57 : Cond.fieldLink RX9 57 "GlowDebtsModel" "asked" "I" ∈ TT := TT_t3 (List.mem_of_getElem? (i := 70) (by decide +kernel)) (by decide +kernel)
theorem kw_X9_60 : Cond.constantLong RX9 60 (5) ∈ TT := TT_t3 (List.mem_of_getElem? (i := 140) (by decide +kernel)) (by decide +kernel)
theorem mw_X9_62 : Cond.methodLink RX9 62 yX9_in ∈ TT := TT_t3 (List.mem_of_getElem? (i := 141) (by decide +kernel)) (by decide +kernel)
theorem kw_X9_66 : Cond.constantLong RX9 66 (3) ∈ TT := TT_t3 (List.mem_of_getElem? (i := 179) (by decide +kernel)) (by decide +kernel)
theorem kw_X9_68 : Cond.constantLong RX9 68 (9) ∈ TT := TT_t4 (List.mem_of_getElem? (i := 43) (by decide +kernel)) (by decide +kernel)
theorem mw_X9_70 : Cond.methodLink RX9 70 yX9_isRow ∈ TT := TT_t3 (List.mem_of_getElem? (i := 137) (by decide +kernel)) (by decide +kernel)
theorem mw_X9_74 : Cond.methodLink RX9 74 yX9_finds ∈ TT := TT_t3 (List.mem_of_getElem? (i := 144) (by decide +kernel)) (by decide +kernel)
theorem mw_X9_77 : Cond.methodLink RX9 77 yX9_tells ∈ TT := TT_t3 (List.mem_of_getElem? (i := 152) (by decide +kernel)) (by decide +kernel)
theorem mw_X9_80 : Cond.methodLink RX9 80 yX9_isText ∈ TT := TT_t3 (List.mem_of_getElem? (i := 176) (by decide +kernel)) (by decide +kernel)
theorem fw_X9_83 : Cond.fieldLink RX9 83 "GlowDebtsModel" "place" "I" ∈ TT := TT_t3 (List.mem_of_getElem? (i := 75) (by decide +kernel)) (by decide +kernel)
theorem fw_X9_86 : Cond.fieldLink RX9 86 "GlowDebtsModel" "end" "I" ∈ TT := TT_t3 (List.mem_of_getElem? (i := 76) (by decide +kernel)) (by decide +kernel)
theorem fw_X9_89 : Cond.fieldLink RX9 89 "GlowDebtsModel" "from" "I" ∈ TT := TT_t3 (List.mem_of_getElem? (i := 74) (by decide +kernel)) (by decide +kernel)
theorem mw_X9_92 : Cond.methodLink RX9 92 yX9_here ∈ TT := TT_t3 (List.mem_of_getElem? (i := 192) (by decide +kernel)) (by decide +kernel)
theorem fw_X9_96 : Cond.fieldLink RX9 96 "GlowDebtsModel" "number" "I" ∈ TT := TT_t3 (List.mem_of_getElem? (i := 77) (by decide +kernel)) (by decide +kernel)
theorem mw_X9_99 : Cond.methodLink RX9 99 yX9_kindOf ∈ TT := TT_t3 (List.mem_of_getElem? (i := 200) (by decide +kernel)) (by decide +kernel)
theorem fw_X9_102 : Cond.fieldLink RX9 102 "GlowDebtsModel" "readMany" "I" ∈ TT := TT_t3 (List.mem_of_getElem? (i := 78) (by decide +kernel)) (by decide +kernel)
theorem mw_X9_105 : Cond.methodLink RX9 105 yX9_takes ∈ TT := TT_t3 (List.mem_of_getElem? (i := 203) (by decide +kernel)) (by decide +kernel)
theorem mw_X9_109 : Cond.methodLink RX9 109 yX9_takesLight ∈ TT := TT_t3 (List.mem_of_getElem? (i := 196) (by decide +kernel)) (by decide +kernel)
theorem mw_X9_113 : Cond.methodLink RX9 113 yX9_faultOf ∈ TT := TT_t3 (List.mem_of_getElem? (i := 188) (by decide +kernel)) (by decide +kernel)
theorem mw_X9_116 : Cond.methodLink RX9 116 yX9_dew ∈ TT := TT_t3 (List.mem_of_getElem? (i := 231) (by decide +kernel)) (by decide +kernel)
theorem mw_X9_120 : Cond.methodLink RX9 120 yX9_forged ∈ TT := TT_t3 (List.mem_of_getElem? (i := 234) (by decide +kernel)) (by decide +kernel)
theorem mw_X9_123 : Cond.methodLink RX9 123 yX9_glowBy ∈ TT := TT_t3 (List.mem_of_getElem? (i := 228) (by decide +kernel)) (by decide +kernel)
theorem mw_X9_127 : Cond.methodLink RX9 127 yX9_isLight ∈ TT := TT_t3 (List.mem_of_getElem? (i := 215) (by decide +kernel)) (by decide +kernel)
theorem kw_X9_130 : Cond.constantLong RX9 130 (6) ∈ TT := TT_t3 (List.mem_of_getElem? (i := 219) (by decide +kernel)) (by decide +kernel)
theorem mw_X9_132 : Cond.methodLink RX9 132 yX9_lightOf ∈ TT := TT_t3 (List.mem_of_getElem? (i := 220) (by decide +kernel)) (by decide +kernel)
theorem mw_X9_135 : Cond.methodLink RX9 135 yX9_glowOf ∈ TT := TT_t3 (List.mem_of_getElem? (i := 224) (by decide +kernel)) (by decide +kernel)
theorem mw_X9_138 : Cond.methodLink RX9 138 yX9_isA ∈ TT := TT_t4 (List.mem_of_getElem? (i := 1) (by decide +kernel)) (by decide +kernel)
theorem kw_X9_141 : Cond.constantLong RX9 141 (99) ∈ TT := TT_t4 (List.mem_of_getElem? (i := 8) (by decide +kernel)) (by decide +kernel)
theorem mw_X9_143 : Cond.methodLink RX9 143 yX9_has ∈ TT := TT_t4 (List.mem_of_getElem? (i := 21) (by decide +kernel)) (by decide +kernel)
theorem mw_X9_146 : Cond.methodLink RX9 146 yX9_minds ∈ TT := TT_t4 (List.mem_of_getElem? (i := 13) (by decide +kernel)) (by decide +kernel)
theorem mw_X9_149 : Cond.methodLink RX9 149 yX9_glowAll ∈ TT := TT_t4 (List.mem_of_getElem? (i := 17) (by decide +kernel)) (by decide +kernel)
theorem mw_X9_152 : Cond.methodLink RX9 152 yX9_lights ∈ TT := TT_t4 (List.mem_of_getElem? (i := 28) (by decide +kernel)) (by decide +kernel)
theorem mw_X9_156 : Cond.methodLink RX9 156 yX9_isPlace ∈ TT := TT_t4 (List.mem_of_getElem? (i := 40) (by decide +kernel)) (by decide +kernel)
theorem kw_X9_159 : Cond.constantLong RX9 159 (2) ∈ TT := TT_t4 (List.mem_of_getElem? (i := 52) (by decide +kernel)) (by decide +kernel)
theorem mw_X9_161 : Cond.methodLink RX9 161 yX9_bring ∈ TT := TT_t4 (List.mem_of_getElem? (i := 53) (by decide +kernel)) (by decide +kernel)
theorem mw_X9_165 : Cond.methodLink RX9 165 yX9_size ∈ TT := TT_t4 (List.mem_of_getElem? (i := 77) (by decide +kernel)) (by decide +kernel)
theorem mw_X9_168 : Cond.methodLink RX9 168 yX9_gives ∈ TT := TT_t4 (List.mem_of_getElem? (i := 73) (by decide +kernel)) (by decide +kernel)
theorem mw_X9_172 : Cond.methodLink RX9 172 yX9_brightBy ∈ TT := TT_t4 (List.mem_of_getElem? (i := 69) (by decide +kernel)) (by decide +kernel)
theorem mw_X9_175 : Cond.methodLink RX9 175 yX9_brightNow ∈ TT := TT_t4 (List.mem_of_getElem? (i := 65) (by decide +kernel)) (by decide +kernel)
theorem mw_X9_178 : Cond.methodLink RX9 178 yX9_alongNow ∈ TT := TT_t4 (List.mem_of_getElem? (i := 84) (by decide +kernel)) (by decide +kernel)
theorem kw_X9_181 : Cond.constantLong RX9 181 (200) ∈ TT := TT_t4 (List.mem_of_getElem? (i := 92) (by decide +kernel)) (by decide +kernel)
theorem kw_X9_183 : Cond.constant RX9 183 (1000000) ∈ TT := TT_t4 (List.mem_of_getElem? (i := 97) (by decide +kernel)) (by decide +kernel)
theorem kw_X9_184 : Cond.constantLong RX9 184 (10) ∈ TT := TT_t4 (List.mem_of_getElem? (i := 102) (by decide +kernel)) (by decide +kernel)
theorem mw_X9_186 : Cond.methodLink RX9 186 yX9_isForged ∈ TT := TT_t4 (List.mem_of_getElem? (i := 115) (by decide +kernel)) (by decide +kernel)
theorem mw_X9_189 : Cond.methodLink RX9 189 yX9_debts ∈ TT := TT_t4 (List.mem_of_getElem? (i := 111) (by decide +kernel)) (by decide +kernel)
theorem mw_X9_192 : Cond.methodLink RX9 192 yX9_owesBy ∈ TT := TT_t4 (List.mem_of_getElem? (i := 119) (by decide +kernel)) (by decide +kernel)
theorem mw_X9_195 : Cond.methodLink RX9 195 yX9_isRing ∈ TT := TT_t4 (List.mem_of_getElem? (i := 127) (by decide +kernel)) (by decide +kernel)
theorem mw_X9_198 : Cond.methodLink RX9 198 yX9_ones ∈ TT := TT_t4 (List.mem_of_getElem? (i := 131) (by decide +kernel)) (by decide +kernel)
theorem mw_X9_201 : Cond.methodLink RX9 201 yX9_row ∈ TT := TT_t4 (List.mem_of_getElem? (i := 146) (by decide +kernel)) (by decide +kernel)
theorem mw_X9_204 : Cond.methodLink RX9 204 yX9_against ∈ TT := TT_t4 (List.mem_of_getElem? (i := 155) (by decide +kernel)) (by decide +kernel)
theorem mw_X9_207 : Cond.methodLink RX9 207 yX9_fits ∈ TT := TT_t4 (List.mem_of_getElem? (i := 159) (by decide +kernel)) (by decide +kernel)
theorem mw_X9_211 : Cond.methodLink RX9 211 yX9_kindsOf ∈ TT := TT_t4 (List.mem_of_getElem? (i := 167) (by decide +kernel)) (by decide +kernel)
theorem mw_X9_214 : Cond.methodLink RX9 214 yX9_greatestPart ∈ TT := TT_t4 (List.mem_of_getElem? (i := 175) (by decide +kernel)) (by decide +kernel)
theorem kw_X9_217 : Cond.constantLong RX9 217 (4) ∈ TT := TT_t4 (List.mem_of_getElem? (i := 187) (by decide +kernel)) (by decide +kernel)
theorem mw_X9_219 : Cond.methodLink RX9 219 yX9_betters ∈ TT := TT_t4 (List.mem_of_getElem? (i := 188) (by decide +kernel)) (by decide +kernel)
theorem fw_X9_223 : Cond.fieldLink RX9 223 "GlowDebtsModel" "upper" "J" ∈ TT := TT_t3 (List.mem_of_getElem? (i := 71) (by decide +kernel)) (by decide +kernel)
theorem kw_X9_226 : Cond.constantLong RX9 226 (12) ∈ TT := TT_t4 (List.mem_of_getElem? (i := 196) (by decide +kernel)) (by decide +kernel)
theorem mw_X9_228 : Cond.methodLink RX9 228 yX9_tellsPart ∈ TT := TT_t4 (List.mem_of_getElem? (i := 201) (by decide +kernel)) (by decide +kernel)
theorem mw_X9_232 : Cond.methodLink RX9 232 yX9_chances ∈ TT := TT_t4 (List.mem_of_getElem? (i := 197) (by decide +kernel)) (by decide +kernel)
theorem kw_X9_235 : Cond.constantLong RX9 235 (20) ∈ TT := TT_t4 (List.mem_of_getElem? (i := 213) (by decide +kernel)) (by decide +kernel)
theorem kw_X9_237 : Cond.constantLong RX9 237 (2147483646) ∈ TT := TT_t4 (List.mem_of_getElem? (i := 214) (by decide +kernel)) (by decide +kernel)
theorem kw_X9_239 : Cond.constantLong RX9 239 (48271) ∈ TT := TT_t4 (List.mem_of_getElem? (i := 215) (by decide +kernel)) (by decide +kernel)
theorem kw_X9_241 : Cond.constantLong RX9 241 (2147483647) ∈ TT := TT_t4 (List.mem_of_getElem? (i := 216) (by decide +kernel)) (by decide +kernel)
theorem kw_X9_243 : Cond.constantLong RX9 243 (8) ∈ TT := TT_t4 (List.mem_of_getElem? (i := 217) (by decide +kernel)) (by decide +kernel)
theorem kw_X9_245 : Cond.constantLong RX9 245 (64) ∈ TT := TT_t4 (List.mem_of_getElem? (i := 218) (by decide +kernel)) (by decide +kernel)
theorem mw_X9_247 : Cond.methodLink RX9 247 yX9_manyOf ∈ TT := TT_t4 (List.mem_of_getElem? (i := 235) (by decide +kernel)) (by decide +kernel)
theorem mw_X9_250 : Cond.methodLink RX9 250 yX9_rowsThere ∈ TT := TT_t4 (List.mem_of_getElem? (i := 239) (by decide +kernel)) (by decide +kernel)
theorem mw_X9_253 : Cond.methodLink RX9 253 yX9_textsThere ∈ TT := TT_t5 (List.mem_of_getElem? (i := 3) (by decide +kernel)) (by decide +kernel)
theorem mw_X9_256 : Cond.methodLink RX9 256 yX9_banksKept ∈ TT := TT_t5 (List.mem_of_getElem? (i := 7) (by decide +kernel)) (by decide +kernel)
theorem kw_X9_259 : Cond.constantLong RX9 259 (31) ∈ TT := TT_t5 (List.mem_of_getElem? (i := 29) (by decide +kernel)) (by decide +kernel)
theorem fw_X9_261 : Cond.fieldLink RX9 261 "GlowDebtsModel" "h" "J" ∈ TT := TT_t3 (List.mem_of_getElem? (i := 85) (by decide +kernel)) (by decide +kernel)
theorem kw_X9_264 : Cond.constantLong RX9 264 (17) ∈ TT := TT_t5 (List.mem_of_getElem? (i := 23) (by decide +kernel)) (by decide +kernel)
theorem mw_X9_266 : Cond.methodLink RX9 266 yX9_count ∈ TT := TT_t5 (List.mem_of_getElem? (i := 24) (by decide +kernel)) (by decide +kernel)
theorem mw_X9_269 : Cond.methodLink RX9 269 yX9_mix ∈ TT := TT_t5 (List.mem_of_getElem? (i := 25) (by decide +kernel)) (by decide +kernel)
theorem kw_X9_273 : Cond.constantLong RX9 273 (-1) ∈ TT := TT_t5 (List.mem_of_getElem? (i := 30) (by decide +kernel)) (by decide +kernel)
theorem mw_X0_3 : Cond.methodLink RX0 3 objectInit ∈ TT := TT_t0 (List.mem_of_getElem? (i := 29) (by decide +kernel)) (by decide +kernel)
theorem fw_X0_9 : Cond.fieldLink RX0 9 "GlowDebts$Bank" "kinds" "[I" ∈ TT := TT_t0 (List.mem_of_getElem? (i := 30) (by decide +kernel)) (by decide +kernel)
theorem fw_X0_15 : Cond.fieldLink RX0 15 "GlowDebts$Bank" "owers" "[I" ∈ TT := TT_t0 (List.mem_of_getElem? (i := 31) (by decide +kernel)) (by decide +kernel)
theorem fw_X0_18 : Cond.fieldLink RX0 18 "GlowDebts$Bank" "creditors" "[I" ∈ TT := TT_t0 (List.mem_of_getElem? (i := 32) (by decide +kernel)) (by decide +kernel)
theorem fw_X0_21 : Cond.fieldLink RX0 21 "GlowDebts$Bank" "places" "[I" ∈ TT := TT_t0 (List.mem_of_getElem? (i := 33) (by decide +kernel)) (by decide +kernel)
theorem fw_X0_24 : Cond.fieldLink RX0 24 "GlowDebts$Bank" "firsts" "[I" ∈ TT := TT_t0 (List.mem_of_getElem? (i := 34) (by decide +kernel)) (by decide +kernel)
theorem fw_X0_27 : Cond.fieldLink RX0 27 "GlowDebts$Bank" "deeds" "[I" ∈ TT := TT_t0 (List.mem_of_getElem? (i := 35) (by decide +kernel)) (by decide +kernel)
theorem fw_X0_30 : Cond.fieldLink RX0 30 "GlowDebts$Bank" "size" "I" ∈ TT := TT_t0 (List.mem_of_getElem? (i := 36) (by decide +kernel)) (by decide +kernel)
theorem fw_X0_34 : Cond.fieldLink RX0 34 "GlowDebts$Bank" "litBits" "I" ∈ TT := TT_t0 (List.mem_of_getElem? (i := 37) (by decide +kernel)) (by decide +kernel)
theorem fw_X0_37 : Cond.fieldLink RX0 37 "GlowDebts$Bank" "nightNow" "I" ∈ TT := TT_t0 (List.mem_of_getElem? (i := 38) (by decide +kernel)) (by decide +kernel)
theorem fw_X0_40 : Cond.fieldLink RX0 40 "GlowDebts$Bank" "done" "I" ∈ TT := TT_t0 (List.mem_of_getElem? (i := 39) (by decide +kernel)) (by decide +kernel)
theorem mw_X0_43 : Cond.methodLink RX0 43 arraycopyName ∈ TT := TT_t1 (List.mem_of_getElem? (i := 190) (by decide +kernel)) (by decide +kernel)
theorem mw_X0_49 : Cond.methodLink RX0 49 yX0_has ∈ TT := TT_t1 (List.mem_of_getElem? (i := 66) (by decide +kernel)) (by decide +kernel)
theorem mw_X0_53 : Cond.methodLink RX0 53 yX0_isLit ∈ TT := TT_t1 (List.mem_of_getElem? (i := 83) (by decide +kernel)) (by decide +kernel)
theorem mw_X0_56 : Cond.methodLink RX0 56 yX0_kindOf ∈ TT := TT_t1 (List.mem_of_getElem? (i := 62) (by decide +kernel)) (by decide +kernel)
theorem mw_X0_60 : Cond.methodLink RX0 60 yX2_isOf ∈ TT := TT_t2 (List.mem_of_getElem? (i := 33) (by decide +kernel)) (by decide +kernel)
theorem mw_X0_66 : Cond.methodLink RX0 66 yX0_owerOf ∈ TT := TT_t1 (List.mem_of_getElem? (i := 67) (by decide +kernel)) (by decide +kernel)
theorem mw_X0_69 : Cond.methodLink RX0 69 yX0_creditorOf ∈ TT := TT_t1 (List.mem_of_getElem? (i := 71) (by decide +kernel)) (by decide +kernel)
theorem mw_X0_72 : Cond.methodLink RX0 72 yX0_placeOf ∈ TT := TT_t1 (List.mem_of_getElem? (i := 75) (by decide +kernel)) (by decide +kernel)
theorem mw_X0_75 : Cond.methodLink RX0 75 yX0_firstOf ∈ TT := TT_t1 (List.mem_of_getElem? (i := 79) (by decide +kernel)) (by decide +kernel)
theorem mw_X0_78 : Cond.methodLink RX0 78 yX0_glowOf ∈ TT := TT_t1 (List.mem_of_getElem? (i := 87) (by decide +kernel)) (by decide +kernel)
theorem mw_X0_82 : Cond.methodLink RX0 82 yX2_glow ∈ TT := TT_t1 (List.mem_of_getElem? (i := 91) (by decide +kernel)) (by decide +kernel)
theorem mw_X0_86 : Cond.methodLink RX0 86 Lib.Math.abs.name ∈ TT := TT_t1 (List.mem_of_getElem? (i := 210) (by decide +kernel)) (by decide +kernel)
theorem mw_X0_91 : Cond.methodLink RX0 91 Lib.Math.max.name ∈ TT := TT_t1 (List.mem_of_getElem? (i := 213) (by decide +kernel)) (by decide +kernel)
theorem mw_X0_94 : Cond.methodLink RX0 94 yX0_faded ∈ TT := TT_t1 (List.mem_of_getElem? (i := 207) (by decide +kernel)) (by decide +kernel)
theorem mw_X0_97 : Cond.methodLink RX0 97 yX0_glowAt ∈ TT := TT_t1 (List.mem_of_getElem? (i := 203) (by decide +kernel)) (by decide +kernel)
theorem mw_X0_100 : Cond.methodLink RX0 100 yX0_brightAt ∈ TT := TT_t1 (List.mem_of_getElem? (i := 225) (by decide +kernel)) (by decide +kernel)
theorem mw_X0_103 : Cond.methodLink RX0 103 yX0_isOwing ∈ TT := TT_t2 (List.mem_of_getElem? (i := 29) (by decide +kernel)) (by decide +kernel)
theorem mw_X0_106 : Cond.methodLink RX0 106 yX0_write ∈ TT := TT_t1 (List.mem_of_getElem? (i := 133) (by decide +kernel)) (by decide +kernel)
theorem kw_X0_110 : Cond.constantLong RX0 110 (8) ∈ TT := TT_t3 (List.mem_of_getElem? (i := 4) (by decide +kernel)) (by decide +kernel)
theorem kw_X0_112 : Cond.constantLong RX0 112 (4) ∈ TT := TT_t3 (List.mem_of_getElem? (i := 5) (by decide +kernel)) (by decide +kernel)
theorem mw_X0_114 : Cond.methodLink RX0 114 yX0_passNight ∈ TT := TT_t3 (List.mem_of_getElem? (i := 6) (by decide +kernel)) (by decide +kernel)
theorem kw_X0_117 : Cond.constantLong RX0 117 (64) ∈ TT := TT_t3 (List.mem_of_getElem? (i := 7) (by decide +kernel)) (by decide +kernel)
theorem kw_X0_119 : Cond.constantLong RX0 119 (10) ∈ TT := TT_t3 (List.mem_of_getElem? (i := 8) (by decide +kernel)) (by decide +kernel)
theorem mw_X0_121 : Cond.methodLink RX0 121 yX0_carryTo ∈ TT := TT_t3 (List.mem_of_getElem? (i := 9) (by decide +kernel)) (by decide +kernel)
theorem mw_X0_125 : Cond.methodLink RX0 125 yX0_putOut ∈ TT := TT_t3 (List.mem_of_getElem? (i := 10) (by decide +kernel)) (by decide +kernel)
theorem mw_X0_129 : Cond.methodLink RX0 129 yX0_lightAgain ∈ TT := TT_t3 (List.mem_of_getElem? (i := 11) (by decide +kernel)) (by decide +kernel)
theorem mw_X0_132 : Cond.methodLink RX0 132 yX0_takeBack ∈ TT := TT_t1 (List.mem_of_getElem? (i := 178) (by decide +kernel)) (by decide +kernel)
theorem mw_X1_3 : Cond.methodLink RX1 3 objectInit ∈ TT := TT_t0 (List.mem_of_getElem? (i := 81) (by decide +kernel)) (by decide +kernel)
theorem fw_X1_9 : Cond.fieldLink RX1 9 "GlowDebts$Chains" "steps" "[I" ∈ TT := TT_t0 (List.mem_of_getElem? (i := 82) (by decide +kernel)) (by decide +kernel)
theorem mw_X1_15 : Cond.methodLink RX1 15 yX0_size ∈ TT := TT_t2 (List.mem_of_getElem? (i := 92) (by decide +kernel)) (by decide +kernel)
theorem mw_X1_21 : Cond.methodLink RX1 21 yX0_owerOf ∈ TT := TT_t2 (List.mem_of_getElem? (i := 93) (by decide +kernel)) (by decide +kernel)
theorem mw_X1_25 : Cond.methodLink RX1 25 yX0_isOwing ∈ TT := TT_t2 (List.mem_of_getElem? (i := 94) (by decide +kernel)) (by decide +kernel)
theorem mw_X1_32 : Cond.methodLink RX1 32 yX0_creditorOf ∈ TT := TT_t2 (List.mem_of_getElem? (i := 96) (by decide +kernel)) (by decide +kernel)
theorem mw_X1_35 : Cond.methodLink RX1 35 yX1_stepsOf ∈ TT := TT_t2 (List.mem_of_getElem? (i := 97) (by decide +kernel)) (by decide +kernel)
theorem mw_X1_38 : Cond.methodLink RX1 38 yX5_renew ∈ TT := TT_t2 (List.mem_of_getElem? (i := 105) (by decide +kernel)) (by decide +kernel)
theorem mw_X1_44 : Cond.methodLink RX1 44 yX5_size ∈ TT := TT_t2 (List.mem_of_getElem? (i := 106) (by decide +kernel)) (by decide +kernel)
theorem mw_X1_45 : Cond.methodLink RX1 45 yX1_lowestNearer ∈ TT := TT_t2 (List.mem_of_getElem? (i := 107) (by decide +kernel)) (by decide +kernel)
theorem mw_X1_49 : Cond.methodLink RX1 49 yX5_set ∈ TT := TT_t2 (List.mem_of_getElem? (i := 111) (by decide +kernel)) (by decide +kernel)
theorem fw_X2_9 : Cond.fieldLink RX2 9 "GlowDebts$Kinds" "LETTERS" "[I" ∈ TT := TT_t1 (List.mem_of_getElem? (i := 18) (by decide +kernel)) (by decide +kernel)
theorem mw_X2_15 : Cond.methodLink RX2 15 yX2_parentOf ∈ TT := TT_t1 (List.mem_of_getElem? (i := 104) (by decide +kernel)) (by decide +kernel)
theorem mw_X2_19 : Cond.methodLink RX2 19 Lib.Math.min.name ∈ TT := TT_t1 (List.mem_of_getElem? (i := 94) (by decide +kernel)) (by decide +kernel)
theorem mw_X2_25 : Cond.methodLink RX2 25 Lib.Math.max.name ∈ TT := TT_t1 (List.mem_of_getElem? (i := 95) (by decide +kernel)) (by decide +kernel)
theorem mw_X2_28 : Cond.methodLink RX2 28 yX2_glow ∈ TT := TT_t1 (List.mem_of_getElem? (i := 115) (by decide +kernel)) (by decide +kernel)
theorem mw_X3_9 : Cond.methodLink RX3 9 yX5_size ∈ TT := TT_t2 (List.mem_of_getElem? (i := 143) (by decide +kernel)) (by decide +kernel)
theorem mw_X3_15 : Cond.methodLink RX3 15 yX5_get ∈ TT := TT_t2 (List.mem_of_getElem? (i := 144) (by decide +kernel)) (by decide +kernel)
theorem mw_X3_19 : Cond.methodLink RX3 19 yX2_glow ∈ TT := TT_t2 (List.mem_of_getElem? (i := 151) (by decide +kernel)) (by decide +kernel)
theorem mw_X3_25 : Cond.methodLink RX3 25 yX3_fit ∈ TT := TT_t2 (List.mem_of_getElem? (i := 148) (by decide +kernel)) (by decide +kernel)
theorem mw_X3_31 : Cond.methodLink RX3 31 yX3_largestPart ∈ TT := TT_t2 (List.mem_of_getElem? (i := 166) (by decide +kernel)) (by decide +kernel)
theorem mw_X3_34 : Cond.methodLink RX3 34 yX3_howManyGlow ∈ TT := TT_t2 (List.mem_of_getElem? (i := 169) (by decide +kernel)) (by decide +kernel)
theorem mw_X3_38 : Cond.methodLink RX3 38 Lib.Math.max.name ∈ TT := TT_t2 (List.mem_of_getElem? (i := 172) (by decide +kernel)) (by decide +kernel)
theorem mw_X3_44 : Cond.methodLink RX3 44 yX0_creditorOf ∈ TT := TT_t2 (List.mem_of_getElem? (i := 184) (by decide +kernel)) (by decide +kernel)
theorem mw_X3_49 : Cond.methodLink RX3 49 yX3_fitsOwer ∈ TT := TT_t2 (List.mem_of_getElem? (i := 185) (by decide +kernel)) (by decide +kernel)
theorem mw_X3_53 : Cond.methodLink RX3 53 yX0_isOwing ∈ TT := TT_t2 (List.mem_of_getElem? (i := 188) (by decide +kernel)) (by decide +kernel)
theorem mw_X3_57 : Cond.methodLink RX3 57 yX0_balanceOf ∈ TT := TT_t2 (List.mem_of_getElem? (i := 189) (by decide +kernel)) (by decide +kernel)
theorem mw_X3_60 : Cond.methodLink RX3 60 yX0_owerOf ∈ TT := TT_t2 (List.mem_of_getElem? (i := 190) (by decide +kernel)) (by decide +kernel)
theorem mw_X4_3 : Cond.methodLink RX4 3 objectInit ∈ TT := TT_t0 (List.mem_of_getElem? (i := 68) (by decide +kernel)) (by decide +kernel)
theorem fw_X4_9 : Cond.fieldLink RX4 9 "GlowDebts$Sets" "weights" "[I" ∈ TT := TT_t0 (List.mem_of_getElem? (i := 69) (by decide +kernel)) (by decide +kernel)
theorem fw_X4_15 : Cond.fieldLink RX4 15 "GlowDebts$Sets" "sums" "[I" ∈ TT := TT_t0 (List.mem_of_getElem? (i := 70) (by decide +kernel)) (by decide +kernel)
theorem mw_X4_18 : Cond.methodLink RX4 18 yX0_size ∈ TT := TT_t2 (List.mem_of_getElem? (i := 56) (by decide +kernel)) (by decide +kernel)
theorem mw_X4_24 : Cond.methodLink RX4 24 Lib.Math.min.name ∈ TT := TT_t2 (List.mem_of_getElem? (i := 57) (by decide +kernel)) (by decide +kernel)
theorem mw_X4_30 : Cond.methodLink RX4 30 yX0_has ∈ TT := TT_t2 (List.mem_of_getElem? (i := 124) (by decide +kernel)) (by decide +kernel)
theorem mw_X4_34 : Cond.methodLink RX4 34 yX0_thisNight ∈ TT := TT_t2 (List.mem_of_getElem? (i := 125) (by decide +kernel)) (by decide +kernel)
theorem mw_X4_37 : Cond.methodLink RX4 37 yX0_glowAt ∈ TT := TT_t2 (List.mem_of_getElem? (i := 126) (by decide +kernel)) (by decide +kernel)
theorem mw_X4_41 : Cond.methodLink RX4 41 yX4_sumUp ∈ TT := TT_t2 (List.mem_of_getElem? (i := 49) (by decide +kernel)) (by decide +kernel)
theorem mw_X4_44 : Cond.methodLink RX4 44 yX0_isOwing ∈ TT := TT_t2 (List.mem_of_getElem? (i := 46) (by decide +kernel)) (by decide +kernel)
theorem mw_X4_47 : Cond.methodLink RX4 47 yX0_owerOf ∈ TT := TT_t2 (List.mem_of_getElem? (i := 47) (by decide +kernel)) (by decide +kernel)
theorem mw_X4_51 : Cond.methodLink RX4 51 yX0_creditorOf ∈ TT := TT_t2 (List.mem_of_getElem? (i := 48) (by decide +kernel)) (by decide +kernel)
theorem mw_X4_54 : Cond.methodLink RX4 54 yX4_sumDebts ∈ TT := TT_t2 (List.mem_of_getElem? (i := 42) (by decide +kernel)) (by decide +kernel)
theorem mw_X4_58 : Cond.methodLink RX4 58 yX4_setsOf ∈ TT := TT_t2 (List.mem_of_getElem? (i := 53) (by decide +kernel)) (by decide +kernel)
theorem mw_X4_61 : Cond.methodLink RX4 61 yX4_isWithin ∈ TT := TT_t2 (List.mem_of_getElem? (i := 58) (by decide +kernel)) (by decide +kernel)
theorem mw_X4_65 : Cond.methodLink RX4 65 yJ6_bitCount_0f7a4 ∈ TT := TT_t2 (List.mem_of_getElem? (i := 61) (by decide +kernel)) (by decide +kernel)
theorem mw_X4_70 : Cond.methodLink RX4 70 yX4_sumGlow ∈ TT := TT_t2 (List.mem_of_getElem? (i := 120) (by decide +kernel)) (by decide +kernel)
theorem mw_X4_74 : Cond.methodLink RX4 74 yX0_litSet ∈ TT := TT_t2 (List.mem_of_getElem? (i := 127) (by decide +kernel)) (by decide +kernel)
theorem mw_X4_77 : Cond.methodLink RX4 77 yX0_brightAt ∈ TT := TT_t2 (List.mem_of_getElem? (i := 131) (by decide +kernel)) (by decide +kernel)
theorem mw_X4_80 : Cond.methodLink RX4 80 yX4_letOneAnswer ∈ TT := TT_t2 (List.mem_of_getElem? (i := 199) (by decide +kernel)) (by decide +kernel)
theorem mw_X4_84 : Cond.methodLink RX4 84 yX4_letOneLight ∈ TT := TT_t2 (List.mem_of_getElem? (i := 203) (by decide +kernel)) (by decide +kernel)
theorem mw_X4_87 : Cond.methodLink RX4 87 Lib.Math.max.name ∈ TT := TT_t2 (List.mem_of_getElem? (i := 207) (by decide +kernel)) (by decide +kernel)
theorem mw_X4_90 : Cond.methodLink RX4 90 yX4_power ∈ TT := TT_t2 (List.mem_of_getElem? (i := 216) (by decide +kernel)) (by decide +kernel)
theorem mw_X5_1 : Cond.methodLink RX5 1 objectInit ∈ TT := TT_t0 (List.mem_of_getElem? (i := 90) (by decide +kernel)) (by decide +kernel)
theorem fw_X5_9 : Cond.fieldLink RX5 9 "GlowDebts$Strip" "size" "I" ∈ TT := TT_t0 (List.mem_of_getElem? (i := 95) (by decide +kernel)) (by decide +kernel)
theorem mw_X5_13 : Cond.methodLink RX5 13 Lib.Math.max.name ∈ TT := TT_t0 (List.mem_of_getElem? (i := 91) (by decide +kernel)) (by decide +kernel)
theorem fw_X5_19 : Cond.fieldLink RX5 19 "GlowDebts$Strip" "cells" "[I" ∈ TT := TT_t0 (List.mem_of_getElem? (i := 94) (by decide +kernel)) (by decide +kernel)
theorem mw_X5_23 : Cond.methodLink RX5 23 Lib.Math.min.name ∈ TT := TT_t0 (List.mem_of_getElem? (i := 159) (by decide +kernel)) (by decide +kernel)
theorem mw_X5_26 : Cond.methodLink RX5 26 yX5_holds ∈ TT := TT_t0 (List.mem_of_getElem? (i := 186) (by decide +kernel)) (by decide +kernel)
theorem mw_X5_30 : Cond.methodLink RX5 30 yX5_holdsRun ∈ TT := TT_t0 (List.mem_of_getElem? (i := 215) (by decide +kernel)) (by decide +kernel)
theorem mw_X5_34 : Cond.methodLink RX5 34 arraycopyName ∈ TT := TT_t0 (List.mem_of_getElem? (i := 216) (by decide +kernel)) (by decide +kernel)
theorem mw_X6_11 : Cond.methodLink RX6 11 yX0_thisNight ∈ TT := TT_t2 (List.mem_of_getElem? (i := 9) (by decide +kernel)) (by decide +kernel)
theorem mw_X6_17 : Cond.methodLink RX6 17 yX0_brightAt ∈ TT := TT_t2 (List.mem_of_getElem? (i := 10) (by decide +kernel)) (by decide +kernel)
theorem mw_X6_21 : Cond.methodLink RX6 21 Lib.Math.min.name ∈ TT := TT_t2 (List.mem_of_getElem? (i := 11) (by decide +kernel)) (by decide +kernel)
theorem mw_X7_9 : Cond.methodLink RX7 9 yX5_size ∈ TT := TT_t1 (List.mem_of_getElem? (i := 10) (by decide +kernel)) (by decide +kernel)
theorem mw_X7_15 : Cond.methodLink RX7 15 yX5_get ∈ TT := TT_t1 (List.mem_of_getElem? (i := 11) (by decide +kernel)) (by decide +kernel)
theorem mw_X7_19 : Cond.methodLink RX7 19 yX7_itemFault ∈ TT := TT_t1 (List.mem_of_getElem? (i := 12) (by decide +kernel)) (by decide +kernel)
theorem mw_X7_25 : Cond.methodLink RX7 25 yX2_ofLetter ∈ TT := TT_t1 (List.mem_of_getElem? (i := 15) (by decide +kernel)) (by decide +kernel)
theorem mw_X7_30 : Cond.methodLink RX7 30 yX7_isFigureOf ∈ TT := TT_t1 (List.mem_of_getElem? (i := 20) (by decide +kernel)) (by decide +kernel)
theorem mw_X7_34 : Cond.methodLink RX7 34 yX7_figureAt ∈ TT := TT_t1 (List.mem_of_getElem? (i := 23) (by decide +kernel)) (by decide +kernel)
theorem mw_X7_37 : Cond.methodLink RX7 37 yX0_clear ∈ TT := TT_t1 (List.mem_of_getElem? (i := 33) (by decide +kernel)) (by decide +kernel)
theorem mw_X7_42 : Cond.methodLink RX7 42 yX0_add ∈ TT := TT_t1 (List.mem_of_getElem? (i := 37) (by decide +kernel)) (by decide +kernel)
theorem mw_L_9 : Cond.methodLink RL 9 yX8_init ∈ TT := TT_t0 (List.mem_of_getElem? (i := 16) (by decide +kernel)) (by decide +kernel)
theorem mw_L_12 : Cond.methodLink RL 12 yX9_init ∈ TT := TT_t3 (List.mem_of_getElem? (i := 59) (by decide +kernel)) (by decide +kernel)
theorem mw_L_13 : Cond.methodLink RL 13 yX8_row ∈ TT := TT_t0 (List.mem_of_getElem? (i := 135) (by decide +kernel)) (by decide +kernel)
theorem mw_L_17 : Cond.methodLink RL 17 yX9_row ∈ TT := TT_t3 (List.mem_of_getElem? (i := 133) (by decide +kernel)) (by decide +kernel)
theorem mw_L_18 : Cond.methodLink RL 18 yX8_lay ∈ TT := TT_t0 (List.mem_of_getElem? (i := 162) (by decide +kernel)) (by decide +kernel)
theorem mw_L_22 : Cond.methodLink RL 22 yX9_lay ∈ TT := TT_t3 (List.mem_of_getElem? (i := 148) (by decide +kernel)) (by decide +kernel)
theorem mw_L_23 : Cond.methodLink RL 23 yX8_at ∈ TT := TT_t0 (List.mem_of_getElem? (i := 191) (by decide +kernel)) (by decide +kernel)
theorem mw_L_26 : Cond.methodLink RL 26 yX9_at ∈ TT := TT_t3 (List.mem_of_getElem? (i := 156) (by decide +kernel)) (by decide +kernel)
theorem mw_L_27 : Cond.methodLink RL 27 yX8_tear ∈ TT := TT_t0 (List.mem_of_getElem? (i := 195) (by decide +kernel)) (by decide +kernel)
theorem mw_L_31 : Cond.methodLink RL 31 yX9_tear ∈ TT := TT_t3 (List.mem_of_getElem? (i := 160) (by decide +kernel)) (by decide +kernel)
theorem mw_L_32 : Cond.methodLink RL 32 yX8_copy ∈ TT := TT_t0 (List.mem_of_getElem? (i := 203) (by decide +kernel)) (by decide +kernel)
theorem mw_L_36 : Cond.methodLink RL 36 yX9_copy ∈ TT := TT_t3 (List.mem_of_getElem? (i := 164) (by decide +kernel)) (by decide +kernel)
theorem mw_L_37 : Cond.methodLink RL 37 yX8_mean ∈ TT := TT_t0 (List.mem_of_getElem? (i := 219) (by decide +kernel)) (by decide +kernel)
theorem mw_L_40 : Cond.methodLink RL 40 yX9_mean ∈ TT := TT_t3 (List.mem_of_getElem? (i := 168) (by decide +kernel)) (by decide +kernel)
theorem mw_L_41 : Cond.methodLink RL 41 yX8_text ∈ TT := TT_t0 (List.mem_of_getElem? (i := 231) (by decide +kernel)) (by decide +kernel)
theorem mw_L_44 : Cond.methodLink RL 44 yX9_text ∈ TT := TT_t3 (List.mem_of_getElem? (i := 172) (by decide +kernel)) (by decide +kernel)
theorem mw_L_45 : Cond.methodLink RL 45 yX8_put ∈ TT := TT_t0 (List.mem_of_getElem? (i := 239) (by decide +kernel)) (by decide +kernel)
theorem mw_L_48 : Cond.methodLink RL 48 yX9_put ∈ TT := TT_t3 (List.mem_of_getElem? (i := 180) (by decide +kernel)) (by decide +kernel)
theorem mw_L_49 : Cond.methodLink RL 49 yX8_fault ∈ TT := TT_t1 (List.mem_of_getElem? (i := 3) (by decide +kernel)) (by decide +kernel)
theorem mw_L_52 : Cond.methodLink RL 52 yX9_fault ∈ TT := TT_t3 (List.mem_of_getElem? (i := 184) (by decide +kernel)) (by decide +kernel)
theorem mw_L_53 : Cond.methodLink RL 53 yX8_bank ∈ TT := TT_t1 (List.mem_of_getElem? (i := 26) (by decide +kernel)) (by decide +kernel)
theorem mw_L_56 : Cond.methodLink RL 56 yX9_bank ∈ TT := TT_t3 (List.mem_of_getElem? (i := 207) (by decide +kernel)) (by decide +kernel)
theorem mw_L_57 : Cond.methodLink RL 57 yX8_light ∈ TT := TT_t1 (List.mem_of_getElem? (i := 50) (by decide +kernel)) (by decide +kernel)
theorem mw_L_60 : Cond.methodLink RL 60 yX9_light ∈ TT := TT_t3 (List.mem_of_getElem? (i := 211) (by decide +kernel)) (by decide +kernel)
theorem mw_L_61 : Cond.methodLink RL 61 yX8_mark ∈ TT := TT_t1 (List.mem_of_getElem? (i := 96) (by decide +kernel)) (by decide +kernel)
theorem mw_L_64 : Cond.methodLink RL 64 yX9_mark ∈ TT := TT_t3 (List.mem_of_getElem? (i := 237) (by decide +kernel)) (by decide +kernel)
theorem mw_L_65 : Cond.methodLink RL 65 yX8_glows ∈ TT := TT_t1 (List.mem_of_getElem? (i := 116) (by decide +kernel)) (by decide +kernel)
theorem mw_L_68 : Cond.methodLink RL 68 yX9_glows ∈ TT := TT_t4 (List.mem_of_getElem? (i := 4) (by decide +kernel)) (by decide +kernel)
theorem mw_L_69 : Cond.methodLink RL 69 yX8_night ∈ TT := TT_t1 (List.mem_of_getElem? (i := 121) (by decide +kernel)) (by decide +kernel)
theorem mw_L_73 : Cond.methodLink RL 73 yX9_night ∈ TT := TT_t4 (List.mem_of_getElem? (i := 9) (by decide +kernel)) (by decide +kernel)
theorem mw_L_74 : Cond.methodLink RL 74 yX8_answer ∈ TT := TT_t1 (List.mem_of_getElem? (i := 141) (by decide +kernel)) (by decide +kernel)
theorem mw_L_77 : Cond.methodLink RL 77 yX9_answer ∈ TT := TT_t4 (List.mem_of_getElem? (i := 24) (by decide +kernel)) (by decide +kernel)
theorem mw_L_78 : Cond.methodLink RL 78 yX8_relight ∈ TT := TT_t1 (List.mem_of_getElem? (i := 150) (by decide +kernel)) (by decide +kernel)
theorem mw_L_81 : Cond.methodLink RL 81 yX9_relight ∈ TT := TT_t4 (List.mem_of_getElem? (i := 32) (by decide +kernel)) (by decide +kernel)
theorem mw_L_82 : Cond.methodLink RL 82 yX8_carry ∈ TT := TT_t1 (List.mem_of_getElem? (i := 158) (by decide +kernel)) (by decide +kernel)
theorem mw_L_85 : Cond.methodLink RL 85 yX9_carry ∈ TT := TT_t4 (List.mem_of_getElem? (i := 36) (by decide +kernel)) (by decide +kernel)
theorem mw_L_86 : Cond.methodLink RL 86 yX8_undo ∈ TT := TT_t1 (List.mem_of_getElem? (i := 170) (by decide +kernel)) (by decide +kernel)
theorem mw_L_89 : Cond.methodLink RL 89 yX9_undo ∈ TT := TT_t4 (List.mem_of_getElem? (i := 44) (by decide +kernel)) (by decide +kernel)
theorem mw_L_90 : Cond.methodLink RL 90 yX8_keep ∈ TT := TT_t1 (List.mem_of_getElem? (i := 182) (by decide +kernel)) (by decide +kernel)
theorem mw_L_93 : Cond.methodLink RL 93 yX9_keep ∈ TT := TT_t4 (List.mem_of_getElem? (i := 48) (by decide +kernel)) (by decide +kernel)
theorem mw_L_94 : Cond.methodLink RL 94 yX8_on ∈ TT := TT_t1 (List.mem_of_getElem? (i := 191) (by decide +kernel)) (by decide +kernel)
theorem mw_L_97 : Cond.methodLink RL 97 yX9_on ∈ TT := TT_t4 (List.mem_of_getElem? (i := 57) (by decide +kernel)) (by decide +kernel)
theorem mw_L_98 : Cond.methodLink RL 98 yX8_bright ∈ TT := TT_t1 (List.mem_of_getElem? (i := 195) (by decide +kernel)) (by decide +kernel)
theorem mw_L_101 : Cond.methodLink RL 101 yX9_bright ∈ TT := TT_t4 (List.mem_of_getElem? (i := 61) (by decide +kernel)) (by decide +kernel)
theorem mw_L_102 : Cond.methodLink RL 102 yX8_along ∈ TT := TT_t1 (List.mem_of_getElem? (i := 214) (by decide +kernel)) (by decide +kernel)
theorem mw_L_105 : Cond.methodLink RL 105 yX9_along ∈ TT := TT_t4 (List.mem_of_getElem? (i := 80) (by decide +kernel)) (by decide +kernel)
theorem mw_L_106 : Cond.methodLink RL 106 yX8_when ∈ TT := TT_t1 (List.mem_of_getElem? (i := 226) (by decide +kernel)) (by decide +kernel)
theorem mw_L_109 : Cond.methodLink RL 109 yX9_when ∈ TT := TT_t4 (List.mem_of_getElem? (i := 88) (by decide +kernel)) (by decide +kernel)
theorem mw_L_110 : Cond.methodLink RL 110 yX8_stow ∈ TT := TT_t1 (List.mem_of_getElem? (i := 230) (by decide +kernel)) (by decide +kernel)
theorem mw_L_113 : Cond.methodLink RL 113 yX9_stow ∈ TT := TT_t4 (List.mem_of_getElem? (i := 93) (by decide +kernel)) (by decide +kernel)
theorem mw_L_114 : Cond.methodLink RL 114 yX8_dark ∈ TT := TT_t1 (List.mem_of_getElem? (i := 238) (by decide +kernel)) (by decide +kernel)
theorem mw_L_117 : Cond.methodLink RL 117 yX9_dark ∈ TT := TT_t4 (List.mem_of_getElem? (i := 98) (by decide +kernel)) (by decide +kernel)
theorem mw_L_118 : Cond.methodLink RL 118 yX8_road ∈ TT := TT_t2 (List.mem_of_getElem? (i := 2) (by decide +kernel)) (by decide +kernel)
theorem mw_L_121 : Cond.methodLink RL 121 yX9_road ∈ TT := TT_t4 (List.mem_of_getElem? (i := 103) (by decide +kernel)) (by decide +kernel)
theorem mw_L_122 : Cond.methodLink RL 122 yX8_owes ∈ TT := TT_t2 (List.mem_of_getElem? (i := 18) (by decide +kernel)) (by decide +kernel)
theorem mw_L_125 : Cond.methodLink RL 125 yX9_owes ∈ TT := TT_t4 (List.mem_of_getElem? (i := 107) (by decide +kernel)) (by decide +kernel)
theorem mw_L_126 : Cond.methodLink RL 126 yX8_ring ∈ TT := TT_t2 (List.mem_of_getElem? (i := 34) (by decide +kernel)) (by decide +kernel)
theorem mw_L_129 : Cond.methodLink RL 129 yX9_ring ∈ TT := TT_t4 (List.mem_of_getElem? (i := 123) (by decide +kernel)) (by decide +kernel)
theorem mw_L_130 : Cond.methodLink RL 130 yX8_rings ∈ TT := TT_t2 (List.mem_of_getElem? (i := 68) (by decide +kernel)) (by decide +kernel)
theorem mw_L_133 : Cond.methodLink RL 133 yX9_rings ∈ TT := TT_t4 (List.mem_of_getElem? (i := 134) (by decide +kernel)) (by decide +kernel)
theorem mw_L_134 : Cond.methodLink RL 134 yX8_least ∈ TT := TT_t2 (List.mem_of_getElem? (i := 76) (by decide +kernel)) (by decide +kernel)
theorem mw_L_137 : Cond.methodLink RL 137 yX9_least ∈ TT := TT_t4 (List.mem_of_getElem? (i := 138) (by decide +kernel)) (by decide +kernel)
theorem mw_L_138 : Cond.methodLink RL 138 yX8_chain ∈ TT := TT_t2 (List.mem_of_getElem? (i := 84) (by decide +kernel)) (by decide +kernel)
theorem mw_L_141 : Cond.methodLink RL 141 yX9_chain ∈ TT := TT_t4 (List.mem_of_getElem? (i := 142) (by decide +kernel)) (by decide +kernel)
theorem mw_L_142 : Cond.methodLink RL 142 yX8_dim ∈ TT := TT_t2 (List.mem_of_getElem? (i := 112) (by decide +kernel)) (by decide +kernel)
theorem mw_L_145 : Cond.methodLink RL 145 yX9_dim ∈ TT := TT_t4 (List.mem_of_getElem? (i := 147) (by decide +kernel)) (by decide +kernel)
theorem mw_L_146 : Cond.methodLink RL 146 yX8_firsts ∈ TT := TT_t2 (List.mem_of_getElem? (i := 132) (by decide +kernel)) (by decide +kernel)
theorem mw_L_149 : Cond.methodLink RL 149 yX9_firsts ∈ TT := TT_t4 (List.mem_of_getElem? (i := 151) (by decide +kernel)) (by decide +kernel)
theorem mw_L_150 : Cond.methodLink RL 150 yX8_kinds ∈ TT := TT_t2 (List.mem_of_getElem? (i := 152) (by decide +kernel)) (by decide +kernel)
theorem mw_L_153 : Cond.methodLink RL 153 yX9_kinds ∈ TT := TT_t4 (List.mem_of_getElem? (i := 163) (by decide +kernel)) (by decide +kernel)
theorem mw_L_154 : Cond.methodLink RL 154 yX8_test ∈ TT := TT_t2 (List.mem_of_getElem? (i := 159) (by decide +kernel)) (by decide +kernel)
theorem mw_L_157 : Cond.methodLink RL 157 yX9_test ∈ TT := TT_t4 (List.mem_of_getElem? (i := 171) (by decide +kernel)) (by decide +kernel)
theorem mw_L_158 : Cond.methodLink RL 158 yX8_whose ∈ TT := TT_t2 (List.mem_of_getElem? (i := 174) (by decide +kernel)) (by decide +kernel)
theorem mw_L_161 : Cond.methodLink RL 161 yX9_whose ∈ TT := TT_t4 (List.mem_of_getElem? (i := 179) (by decide +kernel)) (by decide +kernel)
theorem mw_L_162 : Cond.methodLink RL 162 yX8_duel ∈ TT := TT_t2 (List.mem_of_getElem? (i := 191) (by decide +kernel)) (by decide +kernel)
theorem mw_L_165 : Cond.methodLink RL 165 yX9_duel ∈ TT := TT_t4 (List.mem_of_getElem? (i := 183) (by decide +kernel)) (by decide +kernel)
theorem mw_L_166 : Cond.methodLink RL 166 yX8_odds ∈ TT := TT_t2 (List.mem_of_getElem? (i := 208) (by decide +kernel)) (by decide +kernel)
theorem mw_L_169 : Cond.methodLink RL 169 yX9_odds ∈ TT := TT_t4 (List.mem_of_getElem? (i := 192) (by decide +kernel)) (by decide +kernel)
theorem mw_L_170 : Cond.methodLink RL 170 yX8_mid ∈ TT := TT_t2 (List.mem_of_getElem? (i := 228) (by decide +kernel)) (by decide +kernel)
theorem mw_L_173 : Cond.methodLink RL 173 yX9_mid ∈ TT := TT_t4 (List.mem_of_getElem? (i := 205) (by decide +kernel)) (by decide +kernel)
theorem mw_L_174 : Cond.methodLink RL 174 yX8_lots ∈ TT := TT_t2 (List.mem_of_getElem? (i := 233) (by decide +kernel)) (by decide +kernel)
theorem mw_L_177 : Cond.methodLink RL 177 yX9_lots ∈ TT := TT_t4 (List.mem_of_getElem? (i := 209) (by decide +kernel)) (by decide +kernel)
theorem mw_L_178 : Cond.methodLink RL 178 yX8_asked ∈ TT := TT_t3 (List.mem_of_getElem? (i := 12) (by decide +kernel)) (by decide +kernel)
theorem mw_L_181 : Cond.methodLink RL 181 yX9_asked ∈ TT := TT_t4 (List.mem_of_getElem? (i := 219) (by decide +kernel)) (by decide +kernel)
theorem mw_L_182 : Cond.methodLink RL 182 yX8_upper ∈ TT := TT_t3 (List.mem_of_getElem? (i := 16) (by decide +kernel)) (by decide +kernel)
theorem mw_L_186 : Cond.methodLink RL 186 yX9_upper ∈ TT := TT_t4 (List.mem_of_getElem? (i := 223) (by decide +kernel)) (by decide +kernel)
theorem mw_L_187 : Cond.methodLink RL 187 yX8_lower ∈ TT := TT_t3 (List.mem_of_getElem? (i := 20) (by decide +kernel)) (by decide +kernel)
theorem mw_L_190 : Cond.methodLink RL 190 yX9_lower ∈ TT := TT_t4 (List.mem_of_getElem? (i := 227) (by decide +kernel)) (by decide +kernel)
theorem mw_L_191 : Cond.methodLink RL 191 yX8_count ∈ TT := TT_t3 (List.mem_of_getElem? (i := 24) (by decide +kernel)) (by decide +kernel)
theorem mw_L_194 : Cond.methodLink RL 194 yX9_count ∈ TT := TT_t4 (List.mem_of_getElem? (i := 231) (by decide +kernel)) (by decide +kernel)
theorem mw_L_195 : Cond.methodLink RL 195 yX8_finding ∈ TT := TT_t3 (List.mem_of_getElem? (i := 39) (by decide +kernel)) (by decide +kernel)
theorem mw_L_198 : Cond.methodLink RL 198 yX9_finding ∈ TT := TT_t5 (List.mem_of_getElem? (i := 11) (by decide +kernel)) (by decide +kernel)
theorem mw_L_199 : Cond.methodLink RL 199 yX8_findings ∈ TT := TT_t3 (List.mem_of_getElem? (i := 43) (by decide +kernel)) (by decide +kernel)
theorem mw_L_202 : Cond.methodLink RL 202 yX9_findings ∈ TT := TT_t5 (List.mem_of_getElem? (i := 15) (by decide +kernel)) (by decide +kernel)
theorem mw_L_203 : Cond.methodLink RL 203 yX8_digest ∈ TT := TT_t3 (List.mem_of_getElem? (i := 47) (by decide +kernel)) (by decide +kernel)
theorem mw_L_206 : Cond.methodLink RL 206 yX9_digest ∈ TT := TT_t5 (List.mem_of_getElem? (i := 19) (by decide +kernel)) (by decide +kernel)
theorem ix_X0 : ∀ w ∈ u_ws RX0 TX0 10, w ∈ TT := by
  have h1 : ∀ w ∈ u_ws RX0 TX0 10, w ∈ tables_1 := by decide +kernel
  have h2 : (u_ws RX0 TX0 10).all goodWord = true := by decide +kernel
  exact fun w h => TT_of (h1 w h) (List.all_eq_true.mp h2 w h)
theorem ix_X1 : ∀ w ∈ u_ws RX1 TX1 1, w ∈ TT := by
  have h1 : ∀ w ∈ u_ws RX1 TX1 1, w ∈ tables_1 := by decide +kernel
  have h2 : (u_ws RX1 TX1 1).all goodWord = true := by decide +kernel
  exact fun w h => TT_of (h1 w h) (List.all_eq_true.mp h2 w h)
theorem ix_X4 : ∀ w ∈ u_ws RX4 TX4 2, w ∈ TT := by
  have h1 : ∀ w ∈ u_ws RX4 TX4 2, w ∈ tables_1 := by decide +kernel
  have h2 : (u_ws RX4 TX4 2).all goodWord = true := by decide +kernel
  exact fun w h => TT_of (h1 w h) (List.all_eq_true.mp h2 w h)
theorem ix_X5 : ∀ w ∈ u_ws RX5 TX5 2, w ∈ TT := by
  have h1 : ∀ w ∈ u_ws RX5 TX5 2, w ∈ tables_1 := by decide +kernel
  have h2 : (u_ws RX5 TX5 2).all goodWord = true := by decide +kernel
  exact fun w h => TT_of (h1 w h) (List.all_eq_true.mp h2 w h)
theorem ix_X8 : ∀ w ∈ u_ws RX8 TX8 11, w ∈ TT := by
  have h1 : ∀ w ∈ u_ws RX8 TX8 11, w ∈ tables_1 := by decide +kernel
  have h2 : (u_ws RX8 TX8 11).all goodWord = true := by decide +kernel
  exact fun w h => TT_of (h1 w h) (List.all_eq_true.mp h2 w h)
theorem ix_X9 : ∀ w ∈ u_ws RX9 TX9 23, w ∈ TT := by
  have h1 : ∀ w ∈ u_ws RX9 TX9 23, w ∈ tables_1 := by decide +kernel
  have h2 : (u_ws RX9 TX9 23).all goodWord = true := by decide +kernel
  exact fun w h => TT_of (h1 w h) (List.all_eq_true.mp h2 w h)
abbrev Ym : Type := MethodName × ByteArray × Nat × Option FieldType × Nat
def JV (J : Ym) (n : Nat) : Prop := (J.1.cls ≠ "java/lang/invoke/MethodHandle" ∧ J.1.cls ≠ "java/lang/invoke/VarHandle" ∧ (parseMethodDescriptor J.1.desc).map (fun d => d.parameters.length) = some n) ∧ GoodIn TT [.instanceMethod J.1, .selects J.1.cls J.1 J.1, .initialized J.1.cls, .code J.1 J.2.1 J.2.2.1 J.2.2.2.1]
def JS (J : Ym) (n : Nat) : Prop := (J.1.cls ≠ "java/lang/invoke/MethodHandle" ∧ J.1.cls ≠ "java/lang/invoke/VarHandle" ∧ (parseMethodDescriptor J.1.desc).map (fun d => d.parameters.length) = some n) ∧ GoodIn TT [.static J.1, .initialized J.1.cls, .code J.1 J.2.1 J.2.2.1 J.2.2.2.1]
theorem in_c {c : String} (h : Cond.initialized c ∈ TT) : Cond.initialized c ∈ TT := h
theorem in_X0 : Cond.initialized "GlowDebts$Bank" ∈ TT := TT_t0 (List.mem_of_getElem? (i := 2) (by decide +kernel)) (by decide +kernel)
theorem in_X1 : Cond.initialized "GlowDebts$Chains" ∈ TT := TT_t0 (List.mem_of_getElem? (i := 4) (by decide +kernel)) (by decide +kernel)
theorem in_X2 : Cond.initialized "GlowDebts$Kinds" ∈ TT := TT_t0 (List.mem_of_getElem? (i := 10) (by decide +kernel)) (by decide +kernel)
theorem in_X3 : Cond.initialized "GlowDebts$Looks" ∈ TT := TT_t0 (List.mem_of_getElem? (i := 13) (by decide +kernel)) (by decide +kernel)
theorem in_X4 : Cond.initialized "GlowDebts$Sets" ∈ TT := TT_t0 (List.mem_of_getElem? (i := 3) (by decide +kernel)) (by decide +kernel)
theorem in_X5 : Cond.initialized "GlowDebts$Strip" ∈ TT := TT_t0 (List.mem_of_getElem? (i := 5) (by decide +kernel)) (by decide +kernel)
theorem in_X6 : Cond.initialized "GlowDebts$Ways" ∈ TT := TT_t0 (List.mem_of_getElem? (i := 11) (by decide +kernel)) (by decide +kernel)
theorem in_X7 : Cond.initialized "GlowDebts$Wording" ∈ TT := TT_t0 (List.mem_of_getElem? (i := 9) (by decide +kernel)) (by decide +kernel)
theorem in_X8 : Cond.initialized "GlowDebts" ∈ TT := TT_t0 (List.mem_of_getElem? (i := 1) (by decide +kernel)) (by decide +kernel)
theorem in_X9 : Cond.initialized "GlowDebtsModel" ∈ TT := TT_t0 (List.mem_of_getElem? (i := 7) (by decide +kernel)) (by decide +kernel)
theorem in_J6 : Cond.initialized "java/lang/Integer" ∈ TT := TT_t0 (List.mem_of_getElem? (i := 12) (by decide +kernel)) (by decide +kernel)
theorem in_J9 : Cond.initialized "java/lang/Math" ∈ TT := TT_t0 (List.mem_of_getElem? (i := 6) (by decide +kernel)) (by decide +kernel)
theorem in_J10 : Cond.initialized "java/lang/System" ∈ TT := TT_t0 (List.mem_of_getElem? (i := 8) (by decide +kernel)) (by decide +kernel)
theorem in_L : Cond.initialized "GlowDebtsLaw" ∈ TT := TT_t0 (List.mem_of_getElem? (i := 0) (by decide +kernel)) (by decide +kernel)
abbrev i_X8_row : Ym := (yX8_row, cX8_row, 3, (some .int), 3)
theorem j_X8_row : JV i_X8_row 2 := ⟨⟨by decide +kernel, by decide +kernel, by decide +kernel⟩, TT_2 (TT_t0 (List.mem_of_getElem? (i := 136) (by decide +kernel)) (by decide +kernel)) (TT_2 (TT_t0 (List.mem_of_getElem? (i := 137) (by decide +kernel)) (by decide +kernel)) (TT_2 in_X8 (TT_2 (TT_t0 (List.mem_of_getElem? (i := 138) (by decide +kernel)) (by decide +kernel)) TT_0)))⟩
abbrev i_X8_lay : Ym := (yX8_lay, cX8_lay, 6, (some .int), 3)
theorem j_X8_lay : JV i_X8_lay 3 := ⟨⟨by decide +kernel, by decide +kernel, by decide +kernel⟩, TT_2 (TT_t0 (List.mem_of_getElem? (i := 163) (by decide +kernel)) (by decide +kernel)) (TT_2 (TT_t0 (List.mem_of_getElem? (i := 164) (by decide +kernel)) (by decide +kernel)) (TT_2 in_X8 (TT_2 (TT_t0 (List.mem_of_getElem? (i := 165) (by decide +kernel)) (by decide +kernel)) TT_0)))⟩
abbrev i_X8_at : Ym := (yX8_at, cX8_at, 5, (some .int), 3)
theorem j_X8_at : JV i_X8_at 2 := ⟨⟨by decide +kernel, by decide +kernel, by decide +kernel⟩, TT_2 (TT_t0 (List.mem_of_getElem? (i := 192) (by decide +kernel)) (by decide +kernel)) (TT_2 (TT_t0 (List.mem_of_getElem? (i := 193) (by decide +kernel)) (by decide +kernel)) (TT_2 in_X8 (TT_2 (TT_t0 (List.mem_of_getElem? (i := 194) (by decide +kernel)) (by decide +kernel)) TT_0)))⟩
abbrev i_X8_tear : Ym := (yX8_tear, cX8_tear, 4, (some .int), 2)
theorem j_X8_tear : JV i_X8_tear 1 := ⟨⟨by decide +kernel, by decide +kernel, by decide +kernel⟩, TT_2 (TT_t0 (List.mem_of_getElem? (i := 196) (by decide +kernel)) (by decide +kernel)) (TT_2 (TT_t0 (List.mem_of_getElem? (i := 197) (by decide +kernel)) (by decide +kernel)) (TT_2 in_X8 (TT_2 (TT_t0 (List.mem_of_getElem? (i := 198) (by decide +kernel)) (by decide +kernel)) TT_0)))⟩
abbrev i_X8_copy : Ym := (yX8_copy, cX8_copy, 8, (some .int), 2)
theorem j_X8_copy : JV i_X8_copy 5 := ⟨⟨by decide +kernel, by decide +kernel, by decide +kernel⟩, TT_2 (TT_t0 (List.mem_of_getElem? (i := 204) (by decide +kernel)) (by decide +kernel)) (TT_2 (TT_t0 (List.mem_of_getElem? (i := 205) (by decide +kernel)) (by decide +kernel)) (TT_2 in_X8 (TT_2 (TT_t0 (List.mem_of_getElem? (i := 206) (by decide +kernel)) (by decide +kernel)) TT_0)))⟩
abbrev i_X8_mean : Ym := (yX8_mean, cX8_mean, 5, (some .int), 2)
theorem j_X8_mean : JV i_X8_mean 1 := ⟨⟨by decide +kernel, by decide +kernel, by decide +kernel⟩, TT_2 (TT_t0 (List.mem_of_getElem? (i := 220) (by decide +kernel)) (by decide +kernel)) (TT_2 (TT_t0 (List.mem_of_getElem? (i := 221) (by decide +kernel)) (by decide +kernel)) (TT_2 in_X8 (TT_2 (TT_t0 (List.mem_of_getElem? (i := 222) (by decide +kernel)) (by decide +kernel)) TT_0)))⟩
abbrev i_X8_text : Ym := (yX8_text, cX8_text, 3, (some .int), 3)
theorem j_X8_text : JV i_X8_text 2 := ⟨⟨by decide +kernel, by decide +kernel, by decide +kernel⟩, TT_2 (TT_t0 (List.mem_of_getElem? (i := 232) (by decide +kernel)) (by decide +kernel)) (TT_2 (TT_t0 (List.mem_of_getElem? (i := 233) (by decide +kernel)) (by decide +kernel)) (TT_2 in_X8 (TT_2 (TT_t0 (List.mem_of_getElem? (i := 234) (by decide +kernel)) (by decide +kernel)) TT_0)))⟩
abbrev i_X8_put : Ym := (yX8_put, cX8_put, 7, (some .int), 3)
theorem j_X8_put : JV i_X8_put 3 := ⟨⟨by decide +kernel, by decide +kernel, by decide +kernel⟩, TT_2 (TT_t1 (List.mem_of_getElem? (i := 0) (by decide +kernel)) (by decide +kernel)) (TT_2 (TT_t1 (List.mem_of_getElem? (i := 1) (by decide +kernel)) (by decide +kernel)) (TT_2 in_X8 (TT_2 (TT_t1 (List.mem_of_getElem? (i := 2) (by decide +kernel)) (by decide +kernel)) TT_0)))⟩
abbrev i_X8_fault : Ym := (yX8_fault, cX8_fault, 4, (some .int), 6)
theorem j_X8_fault : JV i_X8_fault 1 := ⟨⟨by decide +kernel, by decide +kernel, by decide +kernel⟩, TT_2 (TT_t1 (List.mem_of_getElem? (i := 4) (by decide +kernel)) (by decide +kernel)) (TT_2 (TT_t1 (List.mem_of_getElem? (i := 5) (by decide +kernel)) (by decide +kernel)) (TT_2 in_X8 (TT_2 (TT_t1 (List.mem_of_getElem? (i := 6) (by decide +kernel)) (by decide +kernel)) TT_0)))⟩
abbrev i_X8_bank : Ym := (yX8_bank, cX8_bank, 6, (some .int), 6)
theorem j_X8_bank : JV i_X8_bank 1 := ⟨⟨by decide +kernel, by decide +kernel, by decide +kernel⟩, TT_2 (TT_t1 (List.mem_of_getElem? (i := 27) (by decide +kernel)) (by decide +kernel)) (TT_2 (TT_t1 (List.mem_of_getElem? (i := 28) (by decide +kernel)) (by decide +kernel)) (TT_2 in_X8 (TT_2 (TT_t1 (List.mem_of_getElem? (i := 29) (by decide +kernel)) (by decide +kernel)) TT_0)))⟩
abbrev i_X8_light : Ym := (yX8_light, cX8_light, 3, (some .int), 4)
theorem j_X8_light : JV i_X8_light 2 := ⟨⟨by decide +kernel, by decide +kernel, by decide +kernel⟩, TT_2 (TT_t1 (List.mem_of_getElem? (i := 51) (by decide +kernel)) (by decide +kernel)) (TT_2 (TT_t1 (List.mem_of_getElem? (i := 52) (by decide +kernel)) (by decide +kernel)) (TT_2 in_X8 (TT_2 (TT_t1 (List.mem_of_getElem? (i := 53) (by decide +kernel)) (by decide +kernel)) TT_0)))⟩
abbrev i_X8_mark : Ym := (yX8_mark, cX8_mark, 3, (some .int), 3)
theorem j_X8_mark : JV i_X8_mark 2 := ⟨⟨by decide +kernel, by decide +kernel, by decide +kernel⟩, TT_2 (TT_t1 (List.mem_of_getElem? (i := 97) (by decide +kernel)) (by decide +kernel)) (TT_2 (TT_t1 (List.mem_of_getElem? (i := 98) (by decide +kernel)) (by decide +kernel)) (TT_2 in_X8 (TT_2 (TT_t1 (List.mem_of_getElem? (i := 99) (by decide +kernel)) (by decide +kernel)) TT_0)))⟩
abbrev i_X8_glows : Ym := (yX8_glows, cX8_glows, 3, (some .int), 3)
theorem j_X8_glows : JV i_X8_glows 2 := ⟨⟨by decide +kernel, by decide +kernel, by decide +kernel⟩, TT_2 (TT_t1 (List.mem_of_getElem? (i := 117) (by decide +kernel)) (by decide +kernel)) (TT_2 (TT_t1 (List.mem_of_getElem? (i := 118) (by decide +kernel)) (by decide +kernel)) (TT_2 in_X8 (TT_2 (TT_t1 (List.mem_of_getElem? (i := 119) (by decide +kernel)) (by decide +kernel)) TT_0)))⟩
abbrev i_X8_night : Ym := (yX8_night, cX8_night, 1, (some .int), 4)
theorem j_X8_night : JV i_X8_night 0 := ⟨⟨by decide +kernel, by decide +kernel, by decide +kernel⟩, TT_2 (TT_t1 (List.mem_of_getElem? (i := 122) (by decide +kernel)) (by decide +kernel)) (TT_2 (TT_t1 (List.mem_of_getElem? (i := 123) (by decide +kernel)) (by decide +kernel)) (TT_2 in_X8 (TT_2 (TT_t1 (List.mem_of_getElem? (i := 124) (by decide +kernel)) (by decide +kernel)) TT_0)))⟩
abbrev i_X8_answer : Ym := (yX8_answer, cX8_answer, 2, (some .int), 3)
theorem j_X8_answer : JV i_X8_answer 1 := ⟨⟨by decide +kernel, by decide +kernel, by decide +kernel⟩, TT_2 (TT_t1 (List.mem_of_getElem? (i := 142) (by decide +kernel)) (by decide +kernel)) (TT_2 (TT_t1 (List.mem_of_getElem? (i := 143) (by decide +kernel)) (by decide +kernel)) (TT_2 in_X8 (TT_2 (TT_t1 (List.mem_of_getElem? (i := 144) (by decide +kernel)) (by decide +kernel)) TT_0)))⟩
abbrev i_X8_relight : Ym := (yX8_relight, cX8_relight, 2, (some .int), 3)
theorem j_X8_relight : JV i_X8_relight 1 := ⟨⟨by decide +kernel, by decide +kernel, by decide +kernel⟩, TT_2 (TT_t1 (List.mem_of_getElem? (i := 151) (by decide +kernel)) (by decide +kernel)) (TT_2 (TT_t1 (List.mem_of_getElem? (i := 152) (by decide +kernel)) (by decide +kernel)) (TT_2 in_X8 (TT_2 (TT_t1 (List.mem_of_getElem? (i := 153) (by decide +kernel)) (by decide +kernel)) TT_0)))⟩
abbrev i_X8_carry : Ym := (yX8_carry, cX8_carry, 4, (some .int), 2)
theorem j_X8_carry : JV i_X8_carry 2 := ⟨⟨by decide +kernel, by decide +kernel, by decide +kernel⟩, TT_2 (TT_t1 (List.mem_of_getElem? (i := 159) (by decide +kernel)) (by decide +kernel)) (TT_2 (TT_t1 (List.mem_of_getElem? (i := 160) (by decide +kernel)) (by decide +kernel)) (TT_2 in_X8 (TT_2 (TT_t1 (List.mem_of_getElem? (i := 161) (by decide +kernel)) (by decide +kernel)) TT_0)))⟩
abbrev i_X8_undo : Ym := (yX8_undo, cX8_undo, 3, (some .int), 3)
theorem j_X8_undo : JV i_X8_undo 1 := ⟨⟨by decide +kernel, by decide +kernel, by decide +kernel⟩, TT_2 (TT_t1 (List.mem_of_getElem? (i := 171) (by decide +kernel)) (by decide +kernel)) (TT_2 (TT_t1 (List.mem_of_getElem? (i := 172) (by decide +kernel)) (by decide +kernel)) (TT_2 in_X8 (TT_2 (TT_t1 (List.mem_of_getElem? (i := 173) (by decide +kernel)) (by decide +kernel)) TT_0)))⟩
abbrev i_X8_keep : Ym := (yX8_keep, cX8_keep, 3, (some .int), 2)
theorem j_X8_keep : JV i_X8_keep 1 := ⟨⟨by decide +kernel, by decide +kernel, by decide +kernel⟩, TT_2 (TT_t1 (List.mem_of_getElem? (i := 183) (by decide +kernel)) (by decide +kernel)) (TT_2 (TT_t1 (List.mem_of_getElem? (i := 184) (by decide +kernel)) (by decide +kernel)) (TT_2 in_X8 (TT_2 (TT_t1 (List.mem_of_getElem? (i := 185) (by decide +kernel)) (by decide +kernel)) TT_0)))⟩
abbrev i_X8_on : Ym := (yX8_on, cX8_on, 3, (some .int), 2)
theorem j_X8_on : JV i_X8_on 1 := ⟨⟨by decide +kernel, by decide +kernel, by decide +kernel⟩, TT_2 (TT_t1 (List.mem_of_getElem? (i := 192) (by decide +kernel)) (by decide +kernel)) (TT_2 (TT_t1 (List.mem_of_getElem? (i := 193) (by decide +kernel)) (by decide +kernel)) (TT_2 in_X8 (TT_2 (TT_t1 (List.mem_of_getElem? (i := 194) (by decide +kernel)) (by decide +kernel)) TT_0)))⟩
abbrev i_X8_bright : Ym := (yX8_bright, cX8_bright, 2, (some .int), 5)
theorem j_X8_bright : JV i_X8_bright 1 := ⟨⟨by decide +kernel, by decide +kernel, by decide +kernel⟩, TT_2 (TT_t1 (List.mem_of_getElem? (i := 196) (by decide +kernel)) (by decide +kernel)) (TT_2 (TT_t1 (List.mem_of_getElem? (i := 197) (by decide +kernel)) (by decide +kernel)) (TT_2 in_X8 (TT_2 (TT_t1 (List.mem_of_getElem? (i := 198) (by decide +kernel)) (by decide +kernel)) TT_0)))⟩
abbrev i_X8_along : Ym := (yX8_along, cX8_along, 3, (some .int), 6)
theorem j_X8_along : JV i_X8_along 2 := ⟨⟨by decide +kernel, by decide +kernel, by decide +kernel⟩, TT_2 (TT_t1 (List.mem_of_getElem? (i := 215) (by decide +kernel)) (by decide +kernel)) (TT_2 (TT_t1 (List.mem_of_getElem? (i := 216) (by decide +kernel)) (by decide +kernel)) (TT_2 in_X8 (TT_2 (TT_t1 (List.mem_of_getElem? (i := 217) (by decide +kernel)) (by decide +kernel)) TT_0)))⟩
abbrev i_X8_when : Ym := (yX8_when, cX8_when, 5, (some .int), 5)
theorem j_X8_when : JV i_X8_when 2 := ⟨⟨by decide +kernel, by decide +kernel, by decide +kernel⟩, TT_2 (TT_t1 (List.mem_of_getElem? (i := 227) (by decide +kernel)) (by decide +kernel)) (TT_2 (TT_t1 (List.mem_of_getElem? (i := 228) (by decide +kernel)) (by decide +kernel)) (TT_2 in_X8 (TT_2 (TT_t1 (List.mem_of_getElem? (i := 229) (by decide +kernel)) (by decide +kernel)) TT_0)))⟩
abbrev i_X8_stow : Ym := (yX8_stow, cX8_stow, 9, (some .int), 6)
theorem j_X8_stow : JV i_X8_stow 3 := ⟨⟨by decide +kernel, by decide +kernel, by decide +kernel⟩, TT_2 (TT_t1 (List.mem_of_getElem? (i := 231) (by decide +kernel)) (by decide +kernel)) (TT_2 (TT_t1 (List.mem_of_getElem? (i := 232) (by decide +kernel)) (by decide +kernel)) (TT_2 in_X8 (TT_2 (TT_t1 (List.mem_of_getElem? (i := 233) (by decide +kernel)) (by decide +kernel)) TT_0)))⟩
abbrev i_X8_dark : Ym := (yX8_dark, cX8_dark, 6, (some .int), 6)
theorem j_X8_dark : JV i_X8_dark 1 := ⟨⟨by decide +kernel, by decide +kernel, by decide +kernel⟩, TT_2 (TT_t1 (List.mem_of_getElem? (i := 239) (by decide +kernel)) (by decide +kernel)) (TT_2 (TT_t2 (List.mem_of_getElem? (i := 0) (by decide +kernel)) (by decide +kernel)) (TT_2 in_X8 (TT_2 (TT_t2 (List.mem_of_getElem? (i := 1) (by decide +kernel)) (by decide +kernel)) TT_0)))⟩
abbrev i_X8_road : Ym := (yX8_road, cX8_road, 2, (some .int), 6)
theorem j_X8_road : JV i_X8_road 0 := ⟨⟨by decide +kernel, by decide +kernel, by decide +kernel⟩, TT_2 (TT_t2 (List.mem_of_getElem? (i := 3) (by decide +kernel)) (by decide +kernel)) (TT_2 (TT_t2 (List.mem_of_getElem? (i := 4) (by decide +kernel)) (by decide +kernel)) (TT_2 in_X8 (TT_2 (TT_t2 (List.mem_of_getElem? (i := 5) (by decide +kernel)) (by decide +kernel)) TT_0)))⟩
abbrev i_X8_owes : Ym := (yX8_owes, cX8_owes, 2, (some .int), 4)
theorem j_X8_owes : JV i_X8_owes 1 := ⟨⟨by decide +kernel, by decide +kernel, by decide +kernel⟩, TT_2 (TT_t2 (List.mem_of_getElem? (i := 19) (by decide +kernel)) (by decide +kernel)) (TT_2 (TT_t2 (List.mem_of_getElem? (i := 20) (by decide +kernel)) (by decide +kernel)) (TT_2 in_X8 (TT_2 (TT_t2 (List.mem_of_getElem? (i := 21) (by decide +kernel)) (by decide +kernel)) TT_0)))⟩
abbrev i_X8_ring : Ym := (yX8_ring, cX8_ring, 2, (some .int), 5)
theorem j_X8_ring : JV i_X8_ring 0 := ⟨⟨by decide +kernel, by decide +kernel, by decide +kernel⟩, TT_2 (TT_t2 (List.mem_of_getElem? (i := 35) (by decide +kernel)) (by decide +kernel)) (TT_2 (TT_t2 (List.mem_of_getElem? (i := 36) (by decide +kernel)) (by decide +kernel)) (TT_2 in_X8 (TT_2 (TT_t2 (List.mem_of_getElem? (i := 37) (by decide +kernel)) (by decide +kernel)) TT_0)))⟩
abbrev i_X8_rings : Ym := (yX8_rings, cX8_rings, 2, (some .int), 5)
theorem j_X8_rings : JV i_X8_rings 1 := ⟨⟨by decide +kernel, by decide +kernel, by decide +kernel⟩, TT_2 (TT_t2 (List.mem_of_getElem? (i := 69) (by decide +kernel)) (by decide +kernel)) (TT_2 (TT_t2 (List.mem_of_getElem? (i := 70) (by decide +kernel)) (by decide +kernel)) (TT_2 in_X8 (TT_2 (TT_t2 (List.mem_of_getElem? (i := 71) (by decide +kernel)) (by decide +kernel)) TT_0)))⟩
abbrev i_X8_least : Ym := (yX8_least, cX8_least, 3, (some .int), 5)
theorem j_X8_least : JV i_X8_least 1 := ⟨⟨by decide +kernel, by decide +kernel, by decide +kernel⟩, TT_2 (TT_t2 (List.mem_of_getElem? (i := 77) (by decide +kernel)) (by decide +kernel)) (TT_2 (TT_t2 (List.mem_of_getElem? (i := 78) (by decide +kernel)) (by decide +kernel)) (TT_2 in_X8 (TT_2 (TT_t2 (List.mem_of_getElem? (i := 79) (by decide +kernel)) (by decide +kernel)) TT_0)))⟩
abbrev i_X8_chain : Ym := (yX8_chain, cX8_chain, 6, (some .int), 5)
theorem j_X8_chain : JV i_X8_chain 3 := ⟨⟨by decide +kernel, by decide +kernel, by decide +kernel⟩, TT_2 (TT_t2 (List.mem_of_getElem? (i := 85) (by decide +kernel)) (by decide +kernel)) (TT_2 (TT_t2 (List.mem_of_getElem? (i := 86) (by decide +kernel)) (by decide +kernel)) (TT_2 in_X8 (TT_2 (TT_t2 (List.mem_of_getElem? (i := 87) (by decide +kernel)) (by decide +kernel)) TT_0)))⟩
abbrev i_X8_dim : Ym := (yX8_dim, cX8_dim, 4, (some .int), 6)
theorem j_X8_dim : JV i_X8_dim 2 := ⟨⟨by decide +kernel, by decide +kernel, by decide +kernel⟩, TT_2 (TT_t2 (List.mem_of_getElem? (i := 113) (by decide +kernel)) (by decide +kernel)) (TT_2 (TT_t2 (List.mem_of_getElem? (i := 114) (by decide +kernel)) (by decide +kernel)) (TT_2 in_X8 (TT_2 (TT_t2 (List.mem_of_getElem? (i := 115) (by decide +kernel)) (by decide +kernel)) TT_0)))⟩
abbrev i_X8_firsts : Ym := (yX8_firsts, cX8_firsts, 5, (some .int), 4)
theorem j_X8_firsts : JV i_X8_firsts 2 := ⟨⟨by decide +kernel, by decide +kernel, by decide +kernel⟩, TT_2 (TT_t2 (List.mem_of_getElem? (i := 133) (by decide +kernel)) (by decide +kernel)) (TT_2 (TT_t2 (List.mem_of_getElem? (i := 134) (by decide +kernel)) (by decide +kernel)) (TT_2 in_X8 (TT_2 (TT_t2 (List.mem_of_getElem? (i := 135) (by decide +kernel)) (by decide +kernel)) TT_0)))⟩
abbrev i_X8_kinds : Ym := (yX8_kinds, cX8_kinds, 5, (some .int), 4)
theorem j_X8_kinds : JV i_X8_kinds 2 := ⟨⟨by decide +kernel, by decide +kernel, by decide +kernel⟩, TT_2 (TT_t2 (List.mem_of_getElem? (i := 153) (by decide +kernel)) (by decide +kernel)) (TT_2 (TT_t2 (List.mem_of_getElem? (i := 154) (by decide +kernel)) (by decide +kernel)) (TT_2 in_X8 (TT_2 (TT_t2 (List.mem_of_getElem? (i := 155) (by decide +kernel)) (by decide +kernel)) TT_0)))⟩
abbrev i_X8_test : Ym := (yX8_test, cX8_test, 8, (some .int), 5)
theorem j_X8_test : JV i_X8_test 2 := ⟨⟨by decide +kernel, by decide +kernel, by decide +kernel⟩, TT_2 (TT_t2 (List.mem_of_getElem? (i := 160) (by decide +kernel)) (by decide +kernel)) (TT_2 (TT_t2 (List.mem_of_getElem? (i := 161) (by decide +kernel)) (by decide +kernel)) (TT_2 in_X8 (TT_2 (TT_t2 (List.mem_of_getElem? (i := 162) (by decide +kernel)) (by decide +kernel)) TT_0)))⟩
abbrev i_X8_whose : Ym := (yX8_whose, cX8_whose, 4, (some .int), 6)
theorem j_X8_whose : JV i_X8_whose 2 := ⟨⟨by decide +kernel, by decide +kernel, by decide +kernel⟩, TT_2 (TT_t2 (List.mem_of_getElem? (i := 175) (by decide +kernel)) (by decide +kernel)) (TT_2 (TT_t2 (List.mem_of_getElem? (i := 176) (by decide +kernel)) (by decide +kernel)) (TT_2 in_X8 (TT_2 (TT_t2 (List.mem_of_getElem? (i := 177) (by decide +kernel)) (by decide +kernel)) TT_0)))⟩
abbrev i_X8_duel : Ym := (yX8_duel, cX8_duel, 3, (some .int), 6)
theorem j_X8_duel : JV i_X8_duel 2 := ⟨⟨by decide +kernel, by decide +kernel, by decide +kernel⟩, TT_2 (TT_t2 (List.mem_of_getElem? (i := 192) (by decide +kernel)) (by decide +kernel)) (TT_2 (TT_t2 (List.mem_of_getElem? (i := 193) (by decide +kernel)) (by decide +kernel)) (TT_2 in_X8 (TT_2 (TT_t2 (List.mem_of_getElem? (i := 194) (by decide +kernel)) (by decide +kernel)) TT_0)))⟩
abbrev i_X8_odds : Ym := (yX8_odds, cX8_odds, 6, (some .int), 6)
theorem j_X8_odds : JV i_X8_odds 3 := ⟨⟨by decide +kernel, by decide +kernel, by decide +kernel⟩, TT_2 (TT_t2 (List.mem_of_getElem? (i := 209) (by decide +kernel)) (by decide +kernel)) (TT_2 (TT_t2 (List.mem_of_getElem? (i := 210) (by decide +kernel)) (by decide +kernel)) (TT_2 in_X8 (TT_2 (TT_t2 (List.mem_of_getElem? (i := 211) (by decide +kernel)) (by decide +kernel)) TT_0)))⟩
abbrev i_X8_mid : Ym := (yX8_mid, cX8_mid, 5, (some .int), 5)
theorem j_X8_mid : JV i_X8_mid 2 := ⟨⟨by decide +kernel, by decide +kernel, by decide +kernel⟩, TT_2 (TT_t2 (List.mem_of_getElem? (i := 229) (by decide +kernel)) (by decide +kernel)) (TT_2 (TT_t2 (List.mem_of_getElem? (i := 230) (by decide +kernel)) (by decide +kernel)) (TT_2 in_X8 (TT_2 (TT_t2 (List.mem_of_getElem? (i := 231) (by decide +kernel)) (by decide +kernel)) TT_0)))⟩
abbrev i_X8_lots : Ym := (yX8_lots, cX8_lots, 6, (some .int), 4)
theorem j_X8_lots : JV i_X8_lots 2 := ⟨⟨by decide +kernel, by decide +kernel, by decide +kernel⟩, TT_2 (TT_t2 (List.mem_of_getElem? (i := 234) (by decide +kernel)) (by decide +kernel)) (TT_2 (TT_t2 (List.mem_of_getElem? (i := 235) (by decide +kernel)) (by decide +kernel)) (TT_2 in_X8 (TT_2 (TT_t2 (List.mem_of_getElem? (i := 236) (by decide +kernel)) (by decide +kernel)) TT_0)))⟩
abbrev i_X8_asked : Ym := (yX8_asked, cX8_asked, 1, (some .int), 0)
theorem j_X8_asked : JV i_X8_asked 0 := ⟨⟨by decide +kernel, by decide +kernel, by decide +kernel⟩, TT_2 (TT_t3 (List.mem_of_getElem? (i := 13) (by decide +kernel)) (by decide +kernel)) (TT_2 (TT_t3 (List.mem_of_getElem? (i := 14) (by decide +kernel)) (by decide +kernel)) (TT_2 in_X8 (TT_2 (TT_t3 (List.mem_of_getElem? (i := 15) (by decide +kernel)) (by decide +kernel)) TT_0)))⟩
abbrev i_X8_upper : Ym := (yX8_upper, cX8_upper, 1, (some .long), 0)
theorem j_X8_upper : JV i_X8_upper 0 := ⟨⟨by decide +kernel, by decide +kernel, by decide +kernel⟩, TT_2 (TT_t3 (List.mem_of_getElem? (i := 17) (by decide +kernel)) (by decide +kernel)) (TT_2 (TT_t3 (List.mem_of_getElem? (i := 18) (by decide +kernel)) (by decide +kernel)) (TT_2 in_X8 (TT_2 (TT_t3 (List.mem_of_getElem? (i := 19) (by decide +kernel)) (by decide +kernel)) TT_0)))⟩
abbrev i_X8_lower : Ym := (yX8_lower, cX8_lower, 1, (some .long), 0)
theorem j_X8_lower : JV i_X8_lower 0 := ⟨⟨by decide +kernel, by decide +kernel, by decide +kernel⟩, TT_2 (TT_t3 (List.mem_of_getElem? (i := 21) (by decide +kernel)) (by decide +kernel)) (TT_2 (TT_t3 (List.mem_of_getElem? (i := 22) (by decide +kernel)) (by decide +kernel)) (TT_2 in_X8 (TT_2 (TT_t3 (List.mem_of_getElem? (i := 23) (by decide +kernel)) (by decide +kernel)) TT_0)))⟩
abbrev i_X8_count : Ym := (yX8_count, cX8_count, 2, (some .int), 4)
theorem j_X8_count : JV i_X8_count 1 := ⟨⟨by decide +kernel, by decide +kernel, by decide +kernel⟩, TT_2 (TT_t3 (List.mem_of_getElem? (i := 25) (by decide +kernel)) (by decide +kernel)) (TT_2 (TT_t3 (List.mem_of_getElem? (i := 26) (by decide +kernel)) (by decide +kernel)) (TT_2 in_X8 (TT_2 (TT_t3 (List.mem_of_getElem? (i := 27) (by decide +kernel)) (by decide +kernel)) TT_0)))⟩
abbrev i_X8_finding : Ym := (yX8_finding, cX8_finding, 1, (some .int), 0)
theorem j_X8_finding : JV i_X8_finding 0 := ⟨⟨by decide +kernel, by decide +kernel, by decide +kernel⟩, TT_2 (TT_t3 (List.mem_of_getElem? (i := 40) (by decide +kernel)) (by decide +kernel)) (TT_2 (TT_t3 (List.mem_of_getElem? (i := 41) (by decide +kernel)) (by decide +kernel)) (TT_2 in_X8 (TT_2 (TT_t3 (List.mem_of_getElem? (i := 42) (by decide +kernel)) (by decide +kernel)) TT_0)))⟩
abbrev i_X8_findings : Ym := (yX8_findings, cX8_findings, 2, (some .int), 0)
theorem j_X8_findings : JV i_X8_findings 1 := ⟨⟨by decide +kernel, by decide +kernel, by decide +kernel⟩, TT_2 (TT_t3 (List.mem_of_getElem? (i := 44) (by decide +kernel)) (by decide +kernel)) (TT_2 (TT_t3 (List.mem_of_getElem? (i := 45) (by decide +kernel)) (by decide +kernel)) (TT_2 in_X8 (TT_2 (TT_t3 (List.mem_of_getElem? (i := 46) (by decide +kernel)) (by decide +kernel)) TT_0)))⟩
abbrev i_X8_digest : Ym := (yX8_digest, cX8_digest, 5, (some .long), 5)
theorem j_X8_digest : JV i_X8_digest 0 := ⟨⟨by decide +kernel, by decide +kernel, by decide +kernel⟩, TT_2 (TT_t3 (List.mem_of_getElem? (i := 48) (by decide +kernel)) (by decide +kernel)) (TT_2 (TT_t3 (List.mem_of_getElem? (i := 49) (by decide +kernel)) (by decide +kernel)) (TT_2 in_X8 (TT_2 (TT_t3 (List.mem_of_getElem? (i := 50) (by decide +kernel)) (by decide +kernel)) TT_0)))⟩
abbrev i_X8_isPlace : Ym := (yX8_isPlace, cX8_isPlace, 1, (some .boolean), 0)
theorem j_X8_isPlace : JS i_X8_isPlace 1 := ⟨⟨by decide +kernel, by decide +kernel, by decide +kernel⟩, TT_2 (TT_t1 (List.mem_of_getElem? (i := 163) (by decide +kernel)) (by decide +kernel)) (TT_2 in_X8 (TT_2 (TT_t1 (List.mem_of_getElem? (i := 164) (by decide +kernel)) (by decide +kernel)) TT_0))⟩
abbrev i_X8_isPerson : Ym := (yX8_isPerson, cX8_isPerson, 1, (some .boolean), 0)
theorem j_X8_isPerson : JS i_X8_isPerson 1 := ⟨⟨by decide +kernel, by decide +kernel, by decide +kernel⟩, TT_2 (TT_t2 (List.mem_of_getElem? (i := 23) (by decide +kernel)) (by decide +kernel)) (TT_2 in_X8 (TT_2 (TT_t2 (List.mem_of_getElem? (i := 24) (by decide +kernel)) (by decide +kernel)) TT_0))⟩
abbrev i_X8_isStretch : Ym := (yX8_isStretch, cX8_isStretch, 2, (some .boolean), 1)
theorem j_X8_isStretch : JS i_X8_isStretch 2 := ⟨⟨by decide +kernel, by decide +kernel, by decide +kernel⟩, TT_2 (TT_t1 (List.mem_of_getElem? (i := 219) (by decide +kernel)) (by decide +kernel)) (TT_2 in_X8 (TT_2 (TT_t1 (List.mem_of_getElem? (i := 220) (by decide +kernel)) (by decide +kernel)) TT_0))⟩
abbrev i_X8_rowOf : Ym := (yX8_rowOf, cX8_rowOf, 2, (some (.object "GlowDebts$Strip")), 0)
theorem j_X8_rowOf : JV i_X8_rowOf 1 := ⟨⟨by decide +kernel, by decide +kernel, by decide +kernel⟩, TT_2 (TT_t0 (List.mem_of_getElem? (i := 141) (by decide +kernel)) (by decide +kernel)) (TT_2 (TT_pv (List.mem_of_getElem? (i := 0) (by decide +kernel)) (by decide +kernel)) (TT_2 in_X8 (TT_2 (TT_t0 (List.mem_of_getElem? (i := 142) (by decide +kernel)) (by decide +kernel)) TT_0)))⟩
abbrev i_X8_textOf : Ym := (yX8_textOf, cX8_textOf, 2, (some (.object "GlowDebts$Strip")), 0)
theorem j_X8_textOf : JV i_X8_textOf 1 := ⟨⟨by decide +kernel, by decide +kernel, by decide +kernel⟩, TT_2 (TT_t0 (List.mem_of_getElem? (i := 237) (by decide +kernel)) (by decide +kernel)) (TT_2 (TT_pv (List.mem_of_getElem? (i := 5) (by decide +kernel)) (by decide +kernel)) (TT_2 in_X8 (TT_2 (TT_t0 (List.mem_of_getElem? (i := 238) (by decide +kernel)) (by decide +kernel)) TT_0)))⟩
abbrev i_X8_keepOf : Ym := (yX8_keepOf, cX8_keepOf, 2, (some (.object "GlowDebts$Bank")), 0)
theorem j_X8_keepOf : JV i_X8_keepOf 1 := ⟨⟨by decide +kernel, by decide +kernel, by decide +kernel⟩, TT_2 (TT_t1 (List.mem_of_getElem? (i := 43) (by decide +kernel)) (by decide +kernel)) (TT_2 (TT_pv (List.mem_of_getElem? (i := 6) (by decide +kernel)) (by decide +kernel)) (TT_2 in_X8 (TT_2 (TT_t1 (List.mem_of_getElem? (i := 44) (by decide +kernel)) (by decide +kernel)) TT_0)))⟩
abbrev i_X8_refuse : Ym := (yX8_refuse, cX8_refuse, 2, (some .int), 0)
theorem j_X8_refuse : JV i_X8_refuse 1 := ⟨⟨by decide +kernel, by decide +kernel, by decide +kernel⟩, TT_2 (TT_t0 (List.mem_of_getElem? (i := 153) (by decide +kernel)) (by decide +kernel)) (TT_2 (TT_pv (List.mem_of_getElem? (i := 2) (by decide +kernel)) (by decide +kernel)) (TT_2 in_X8 (TT_2 (TT_t0 (List.mem_of_getElem? (i := 154) (by decide +kernel)) (by decide +kernel)) TT_0)))⟩
abbrev i_X8_refusedMissing : Ym := (yX8_refusedMissing, cX8_refusedMissing, 2, (some .int), 1)
theorem j_X8_refusedMissing : JV i_X8_refusedMissing 1 := ⟨⟨by decide +kernel, by decide +kernel, by decide +kernel⟩, TT_2 (TT_t0 (List.mem_of_getElem? (i := 172) (by decide +kernel)) (by decide +kernel)) (TT_2 (TT_pv (List.mem_of_getElem? (i := 4) (by decide +kernel)) (by decide +kernel)) (TT_2 in_X8 (TT_2 (TT_t0 (List.mem_of_getElem? (i := 173) (by decide +kernel)) (by decide +kernel)) TT_0)))⟩
abbrev i_X8_refusedAt : Ym := (yX8_refusedAt, cX8_refusedAt, 4, (some .int), 2)
theorem j_X8_refusedAt : JV i_X8_refusedAt 2 := ⟨⟨by decide +kernel, by decide +kernel, by decide +kernel⟩, TT_2 (TT_t0 (List.mem_of_getElem? (i := 168) (by decide +kernel)) (by decide +kernel)) (TT_2 (TT_pv (List.mem_of_getElem? (i := 3) (by decide +kernel)) (by decide +kernel)) (TT_2 in_X8 (TT_2 (TT_t0 (List.mem_of_getElem? (i := 169) (by decide +kernel)) (by decide +kernel)) TT_0)))⟩
abbrev i_X8_refusedLooks : Ym := (yX8_refusedLooks, cX8_refusedLooks, 3, (some .int), 3)
theorem j_X8_refusedLooks : JV i_X8_refusedLooks 2 := ⟨⟨by decide +kernel, by decide +kernel, by decide +kernel⟩, TT_2 (TT_t2 (List.mem_of_getElem? (i := 138) (by decide +kernel)) (by decide +kernel)) (TT_2 (TT_pv (List.mem_of_getElem? (i := 14) (by decide +kernel)) (by decide +kernel)) (TT_2 in_X8 (TT_2 (TT_t2 (List.mem_of_getElem? (i := 139) (by decide +kernel)) (by decide +kernel)) TT_0)))⟩
abbrev i_X8_makeAnew : Ym := (yX8_makeAnew, cX8_makeAnew, 4, (some .int), 2)
theorem j_X8_makeAnew : JV i_X8_makeAnew 3 := ⟨⟨by decide +kernel, by decide +kernel, by decide +kernel⟩, TT_2 (TT_t0 (List.mem_of_getElem? (i := 145) (by decide +kernel)) (by decide +kernel)) (TT_2 (TT_pv (List.mem_of_getElem? (i := 1) (by decide +kernel)) (by decide +kernel)) (TT_2 in_X8 (TT_2 (TT_t0 (List.mem_of_getElem? (i := 146) (by decide +kernel)) (by decide +kernel)) TT_0)))⟩
abbrev i_X8_tellInLowestTerms : Ym := (yX8_tellInLowestTerms, cX8_tellInLowestTerms, 7, none, 1)
theorem j_X8_tellInLowestTerms : JV i_X8_tellInLowestTerms 2 := ⟨⟨by decide +kernel, by decide +kernel, by decide +kernel⟩, TT_2 (TT_t2 (List.mem_of_getElem? (i := 223) (by decide +kernel)) (by decide +kernel)) (TT_2 (TT_pv (List.mem_of_getElem? (i := 17) (by decide +kernel)) (by decide +kernel)) (TT_2 in_X8 (TT_2 (TT_t2 (List.mem_of_getElem? (i := 224) (by decide +kernel)) (by decide +kernel)) TT_0)))⟩
abbrev i_X8_greatestDivisor : Ym := (yX8_greatestDivisor, cX8_greatestDivisor, 11, (some .long), 0)
theorem j_X8_greatestDivisor : JS i_X8_greatestDivisor 2 := ⟨⟨by decide +kernel, by decide +kernel, by decide +kernel⟩, TT_2 (TT_t2 (List.mem_of_getElem? (i := 226) (by decide +kernel)) (by decide +kernel)) (TT_2 in_X8 (TT_2 (TT_t2 (List.mem_of_getElem? (i := 227) (by decide +kernel)) (by decide +kernel)) TT_0))⟩
abbrev i_X8_howManyThere : Ym := (yX8_howManyThere, cX8_howManyThere, 6, (some .int), 1)
theorem j_X8_howManyThere : JS i_X8_howManyThere 1 := ⟨⟨by decide +kernel, by decide +kernel, by decide +kernel⟩, TT_2 (TT_t3 (List.mem_of_getElem? (i := 33) (by decide +kernel)) (by decide +kernel)) (TT_2 in_X8 (TT_2 (TT_t3 (List.mem_of_getElem? (i := 34) (by decide +kernel)) (by decide +kernel)) TT_0))⟩
abbrev i_X8_howManyKept : Ym := (yX8_howManyKept, cX8_howManyKept, 6, (some .int), 1)
theorem j_X8_howManyKept : JV i_X8_howManyKept 0 := ⟨⟨by decide +kernel, by decide +kernel, by decide +kernel⟩, TT_2 (TT_t3 (List.mem_of_getElem? (i := 37) (by decide +kernel)) (by decide +kernel)) (TT_2 (TT_pv (List.mem_of_getElem? (i := 18) (by decide +kernel)) (by decide +kernel)) (TT_2 in_X8 (TT_2 (TT_t3 (List.mem_of_getElem? (i := 38) (by decide +kernel)) (by decide +kernel)) TT_0)))⟩
abbrev i_X8_digestOf : Ym := (yX8_digestOf, cX8_digestOf, 10, (some .long), 2)
theorem j_X8_digestOf : JS i_X8_digestOf 2 := ⟨⟨by decide +kernel, by decide +kernel, by decide +kernel⟩, TT_2 (TT_t3 (List.mem_of_getElem? (i := 55) (by decide +kernel)) (by decide +kernel)) (TT_2 in_X8 (TT_2 (TT_t3 (List.mem_of_getElem? (i := 56) (by decide +kernel)) (by decide +kernel)) TT_0))⟩
abbrev i_X9_in : Ym := (yX9_in, cX9_in, 6, (some .boolean), 0)
theorem j_X9_in : JS i_X9_in 3 := ⟨⟨by decide +kernel, by decide +kernel, by decide +kernel⟩, TT_2 (TT_t3 (List.mem_of_getElem? (i := 142) (by decide +kernel)) (by decide +kernel)) (TT_2 in_X9 (TT_2 (TT_t3 (List.mem_of_getElem? (i := 143) (by decide +kernel)) (by decide +kernel)) TT_0))⟩
abbrev i_X9_has : Ym := (yX9_has, cX9_has, 2, (some .boolean), 0)
theorem j_X9_has : JS i_X9_has 2 := ⟨⟨by decide +kernel, by decide +kernel, by decide +kernel⟩, TT_2 (TT_t4 (List.mem_of_getElem? (i := 22) (by decide +kernel)) (by decide +kernel)) (TT_2 in_X9 (TT_2 (TT_t4 (List.mem_of_getElem? (i := 23) (by decide +kernel)) (by decide +kernel)) TT_0))⟩
abbrev i_X9_ones : Ym := (yX9_ones, cX9_ones, 3, (some .int), 0)
theorem j_X9_ones : JS i_X9_ones 1 := ⟨⟨by decide +kernel, by decide +kernel, by decide +kernel⟩, TT_2 (TT_t4 (List.mem_of_getElem? (i := 132) (by decide +kernel)) (by decide +kernel)) (TT_2 in_X9 (TT_2 (TT_t4 (List.mem_of_getElem? (i := 133) (by decide +kernel)) (by decide +kernel)) TT_0))⟩
abbrev i_X9_finds : Ym := (yX9_finds, cX9_finds, 2, (some .int), 0)
theorem j_X9_finds : JV i_X9_finds 1 := ⟨⟨by decide +kernel, by decide +kernel, by decide +kernel⟩, TT_2 (TT_t3 (List.mem_of_getElem? (i := 146) (by decide +kernel)) (by decide +kernel)) (TT_2 (TT_pv (List.mem_of_getElem? (i := 19) (by decide +kernel)) (by decide +kernel)) (TT_2 in_X9 (TT_2 (TT_t3 (List.mem_of_getElem? (i := 147) (by decide +kernel)) (by decide +kernel)) TT_0)))⟩
abbrev i_X9_tells : Ym := (yX9_tells, cX9_tells, 2, (some .int), 0)
theorem j_X9_tells : JV i_X9_tells 1 := ⟨⟨by decide +kernel, by decide +kernel, by decide +kernel⟩, TT_2 (TT_t3 (List.mem_of_getElem? (i := 154) (by decide +kernel)) (by decide +kernel)) (TT_2 (TT_pv (List.mem_of_getElem? (i := 20) (by decide +kernel)) (by decide +kernel)) (TT_2 in_X9 (TT_2 (TT_t3 (List.mem_of_getElem? (i := 155) (by decide +kernel)) (by decide +kernel)) TT_0)))⟩
abbrev i_X9_bring : Ym := (yX9_bring, cX9_bring, 4, none, 0)
theorem j_X9_bring : JV i_X9_bring 2 := ⟨⟨by decide +kernel, by decide +kernel, by decide +kernel⟩, TT_2 (TT_t4 (List.mem_of_getElem? (i := 55) (by decide +kernel)) (by decide +kernel)) (TT_2 (TT_pv (List.mem_of_getElem? (i := 31) (by decide +kernel)) (by decide +kernel)) (TT_2 in_X9 (TT_2 (TT_t4 (List.mem_of_getElem? (i := 56) (by decide +kernel)) (by decide +kernel)) TT_0)))⟩
abbrev i_X9_isRow : Ym := (yX9_isRow, cX9_isRow, 1, (some .boolean), 1)
theorem j_X9_isRow : JS i_X9_isRow 1 := ⟨⟨by decide +kernel, by decide +kernel, by decide +kernel⟩, TT_2 (TT_t3 (List.mem_of_getElem? (i := 138) (by decide +kernel)) (by decide +kernel)) (TT_2 in_X9 (TT_2 (TT_t3 (List.mem_of_getElem? (i := 139) (by decide +kernel)) (by decide +kernel)) TT_0))⟩
abbrev i_X9_isText : Ym := (yX9_isText, cX9_isText, 1, (some .boolean), 1)
theorem j_X9_isText : JS i_X9_isText 1 := ⟨⟨by decide +kernel, by decide +kernel, by decide +kernel⟩, TT_2 (TT_t3 (List.mem_of_getElem? (i := 177) (by decide +kernel)) (by decide +kernel)) (TT_2 in_X9 (TT_2 (TT_t3 (List.mem_of_getElem? (i := 178) (by decide +kernel)) (by decide +kernel)) TT_0))⟩
abbrev i_X9_isLight : Ym := (yX9_isLight, cX9_isLight, 2, (some .boolean), 1)
theorem j_X9_isLight : JV i_X9_isLight 1 := ⟨⟨by decide +kernel, by decide +kernel, by decide +kernel⟩, TT_2 (TT_t3 (List.mem_of_getElem? (i := 217) (by decide +kernel)) (by decide +kernel)) (TT_2 (TT_pv (List.mem_of_getElem? (i := 25) (by decide +kernel)) (by decide +kernel)) (TT_2 in_X9 (TT_2 (TT_t3 (List.mem_of_getElem? (i := 218) (by decide +kernel)) (by decide +kernel)) TT_0)))⟩
abbrev i_X9_isPlace : Ym := (yX9_isPlace, cX9_isPlace, 1, (some .boolean), 1)
theorem j_X9_isPlace : JS i_X9_isPlace 1 := ⟨⟨by decide +kernel, by decide +kernel, by decide +kernel⟩, TT_2 (TT_t4 (List.mem_of_getElem? (i := 41) (by decide +kernel)) (by decide +kernel)) (TT_2 in_X9 (TT_2 (TT_t4 (List.mem_of_getElem? (i := 42) (by decide +kernel)) (by decide +kernel)) TT_0))⟩
abbrev i_X9_row : Ym := (yX9_row, cX9_row, 4, (some .int), 2)
theorem j_X9_row : JV i_X9_row 2 := ⟨⟨by decide +kernel, by decide +kernel, by decide +kernel⟩, TT_2 (TT_t3 (List.mem_of_getElem? (i := 134) (by decide +kernel)) (by decide +kernel)) (TT_2 (TT_t3 (List.mem_of_getElem? (i := 135) (by decide +kernel)) (by decide +kernel)) (TT_2 in_X9 (TT_2 (TT_t3 (List.mem_of_getElem? (i := 136) (by decide +kernel)) (by decide +kernel)) TT_0)))⟩
abbrev i_X9_lay : Ym := (yX9_lay, cX9_lay, 5, (some .int), 2)
theorem j_X9_lay : JV i_X9_lay 3 := ⟨⟨by decide +kernel, by decide +kernel, by decide +kernel⟩, TT_2 (TT_t3 (List.mem_of_getElem? (i := 149) (by decide +kernel)) (by decide +kernel)) (TT_2 (TT_t3 (List.mem_of_getElem? (i := 150) (by decide +kernel)) (by decide +kernel)) (TT_2 in_X9 (TT_2 (TT_t3 (List.mem_of_getElem? (i := 151) (by decide +kernel)) (by decide +kernel)) TT_0)))⟩
abbrev i_X9_at : Ym := (yX9_at, cX9_at, 3, (some .int), 2)
theorem j_X9_at : JV i_X9_at 2 := ⟨⟨by decide +kernel, by decide +kernel, by decide +kernel⟩, TT_2 (TT_t3 (List.mem_of_getElem? (i := 157) (by decide +kernel)) (by decide +kernel)) (TT_2 (TT_t3 (List.mem_of_getElem? (i := 158) (by decide +kernel)) (by decide +kernel)) (TT_2 in_X9 (TT_2 (TT_t3 (List.mem_of_getElem? (i := 159) (by decide +kernel)) (by decide +kernel)) TT_0)))⟩
abbrev i_X9_tear : Ym := (yX9_tear, cX9_tear, 2, (some .int), 2)
theorem j_X9_tear : JV i_X9_tear 1 := ⟨⟨by decide +kernel, by decide +kernel, by decide +kernel⟩, TT_2 (TT_t3 (List.mem_of_getElem? (i := 161) (by decide +kernel)) (by decide +kernel)) (TT_2 (TT_t3 (List.mem_of_getElem? (i := 162) (by decide +kernel)) (by decide +kernel)) (TT_2 in_X9 (TT_2 (TT_t3 (List.mem_of_getElem? (i := 163) (by decide +kernel)) (by decide +kernel)) TT_0)))⟩
abbrev i_X9_copy : Ym := (yX9_copy, cX9_copy, 7, (some .int), 2)
theorem j_X9_copy : JV i_X9_copy 5 := ⟨⟨by decide +kernel, by decide +kernel, by decide +kernel⟩, TT_2 (TT_t3 (List.mem_of_getElem? (i := 165) (by decide +kernel)) (by decide +kernel)) (TT_2 (TT_t3 (List.mem_of_getElem? (i := 166) (by decide +kernel)) (by decide +kernel)) (TT_2 in_X9 (TT_2 (TT_t3 (List.mem_of_getElem? (i := 167) (by decide +kernel)) (by decide +kernel)) TT_0)))⟩
abbrev i_X9_mean : Ym := (yX9_mean, cX9_mean, 5, (some .int), 2)
theorem j_X9_mean : JV i_X9_mean 1 := ⟨⟨by decide +kernel, by decide +kernel, by decide +kernel⟩, TT_2 (TT_t3 (List.mem_of_getElem? (i := 169) (by decide +kernel)) (by decide +kernel)) (TT_2 (TT_t3 (List.mem_of_getElem? (i := 170) (by decide +kernel)) (by decide +kernel)) (TT_2 in_X9 (TT_2 (TT_t3 (List.mem_of_getElem? (i := 171) (by decide +kernel)) (by decide +kernel)) TT_0)))⟩
abbrev i_X9_text : Ym := (yX9_text, cX9_text, 4, (some .int), 2)
theorem j_X9_text : JV i_X9_text 2 := ⟨⟨by decide +kernel, by decide +kernel, by decide +kernel⟩, TT_2 (TT_t3 (List.mem_of_getElem? (i := 173) (by decide +kernel)) (by decide +kernel)) (TT_2 (TT_t3 (List.mem_of_getElem? (i := 174) (by decide +kernel)) (by decide +kernel)) (TT_2 in_X9 (TT_2 (TT_t3 (List.mem_of_getElem? (i := 175) (by decide +kernel)) (by decide +kernel)) TT_0)))⟩
abbrev i_X9_put : Ym := (yX9_put, cX9_put, 5, (some .int), 2)
theorem j_X9_put : JV i_X9_put 3 := ⟨⟨by decide +kernel, by decide +kernel, by decide +kernel⟩, TT_2 (TT_t3 (List.mem_of_getElem? (i := 181) (by decide +kernel)) (by decide +kernel)) (TT_2 (TT_t3 (List.mem_of_getElem? (i := 182) (by decide +kernel)) (by decide +kernel)) (TT_2 in_X9 (TT_2 (TT_t3 (List.mem_of_getElem? (i := 183) (by decide +kernel)) (by decide +kernel)) TT_0)))⟩
abbrev i_X9_here : Ym := (yX9_here, cX9_here, 1, (some .int), 0)
theorem j_X9_here : JV i_X9_here 0 := ⟨⟨by decide +kernel, by decide +kernel, by decide +kernel⟩, TT_2 (TT_t3 (List.mem_of_getElem? (i := 194) (by decide +kernel)) (by decide +kernel)) (TT_2 (TT_pv (List.mem_of_getElem? (i := 22) (by decide +kernel)) (by decide +kernel)) (TT_2 in_X9 (TT_2 (TT_t3 (List.mem_of_getElem? (i := 195) (by decide +kernel)) (by decide +kernel)) TT_0)))⟩
abbrev i_X9_kindOf : Ym := (yX9_kindOf, cX9_kindOf, 1, (some .int), 0)
theorem j_X9_kindOf : JS i_X9_kindOf 1 := ⟨⟨by decide +kernel, by decide +kernel, by decide +kernel⟩, TT_2 (TT_t3 (List.mem_of_getElem? (i := 201) (by decide +kernel)) (by decide +kernel)) (TT_2 in_X9 (TT_2 (TT_t3 (List.mem_of_getElem? (i := 202) (by decide +kernel)) (by decide +kernel)) TT_0))⟩
abbrev i_X9_takes : Ym := (yX9_takes, cX9_takes, 4, (some .boolean), 1)
theorem j_X9_takes : JV i_X9_takes 2 := ⟨⟨by decide +kernel, by decide +kernel, by decide +kernel⟩, TT_2 (TT_t3 (List.mem_of_getElem? (i := 205) (by decide +kernel)) (by decide +kernel)) (TT_2 (TT_pv (List.mem_of_getElem? (i := 24) (by decide +kernel)) (by decide +kernel)) (TT_2 in_X9 (TT_2 (TT_t3 (List.mem_of_getElem? (i := 206) (by decide +kernel)) (by decide +kernel)) TT_0)))⟩
abbrev i_X9_takesLight : Ym := (yX9_takesLight, cX9_takesLight, 4, (some .boolean), 2)
theorem j_X9_takesLight : JV i_X9_takesLight 0 := ⟨⟨by decide +kernel, by decide +kernel, by decide +kernel⟩, TT_2 (TT_t3 (List.mem_of_getElem? (i := 198) (by decide +kernel)) (by decide +kernel)) (TT_2 (TT_pv (List.mem_of_getElem? (i := 23) (by decide +kernel)) (by decide +kernel)) (TT_2 in_X9 (TT_2 (TT_t3 (List.mem_of_getElem? (i := 199) (by decide +kernel)) (by decide +kernel)) TT_0)))⟩
abbrev i_X9_faultOf : Ym := (yX9_faultOf, cX9_faultOf, 3, (some .int), 3)
theorem j_X9_faultOf : JV i_X9_faultOf 1 := ⟨⟨by decide +kernel, by decide +kernel, by decide +kernel⟩, TT_2 (TT_t3 (List.mem_of_getElem? (i := 190) (by decide +kernel)) (by decide +kernel)) (TT_2 (TT_pv (List.mem_of_getElem? (i := 21) (by decide +kernel)) (by decide +kernel)) (TT_2 in_X9 (TT_2 (TT_t3 (List.mem_of_getElem? (i := 191) (by decide +kernel)) (by decide +kernel)) TT_0)))⟩
abbrev i_X9_fault : Ym := (yX9_fault, cX9_fault, 2, (some .int), 4)
theorem j_X9_fault : JV i_X9_fault 1 := ⟨⟨by decide +kernel, by decide +kernel, by decide +kernel⟩, TT_2 (TT_t3 (List.mem_of_getElem? (i := 185) (by decide +kernel)) (by decide +kernel)) (TT_2 (TT_t3 (List.mem_of_getElem? (i := 186) (by decide +kernel)) (by decide +kernel)) (TT_2 in_X9 (TT_2 (TT_t3 (List.mem_of_getElem? (i := 187) (by decide +kernel)) (by decide +kernel)) TT_0)))⟩
abbrev i_X9_bank : Ym := (yX9_bank, cX9_bank, 3, (some .int), 4)
theorem j_X9_bank : JV i_X9_bank 1 := ⟨⟨by decide +kernel, by decide +kernel, by decide +kernel⟩, TT_2 (TT_t3 (List.mem_of_getElem? (i := 208) (by decide +kernel)) (by decide +kernel)) (TT_2 (TT_t3 (List.mem_of_getElem? (i := 209) (by decide +kernel)) (by decide +kernel)) (TT_2 in_X9 (TT_2 (TT_t3 (List.mem_of_getElem? (i := 210) (by decide +kernel)) (by decide +kernel)) TT_0)))⟩
abbrev i_X9_dew : Ym := (yX9_dew, cX9_dew, 2, (some .int), 0)
theorem j_X9_dew : JS i_X9_dew 2 := ⟨⟨by decide +kernel, by decide +kernel, by decide +kernel⟩, TT_2 (TT_t3 (List.mem_of_getElem? (i := 232) (by decide +kernel)) (by decide +kernel)) (TT_2 in_X9 (TT_2 (TT_t3 (List.mem_of_getElem? (i := 233) (by decide +kernel)) (by decide +kernel)) TT_0))⟩
abbrev i_X9_forged : Ym := (yX9_forged, cX9_forged, 2, (some .int), 0)
theorem j_X9_forged : JS i_X9_forged 2 := ⟨⟨by decide +kernel, by decide +kernel, by decide +kernel⟩, TT_2 (TT_t3 (List.mem_of_getElem? (i := 235) (by decide +kernel)) (by decide +kernel)) (TT_2 in_X9 (TT_2 (TT_t3 (List.mem_of_getElem? (i := 236) (by decide +kernel)) (by decide +kernel)) TT_0))⟩
abbrev i_X9_glowBy : Ym := (yX9_glowBy, cX9_glowBy, 3, (some .int), 1)
theorem j_X9_glowBy : JS i_X9_glowBy 3 := ⟨⟨by decide +kernel, by decide +kernel, by decide +kernel⟩, TT_2 (TT_t3 (List.mem_of_getElem? (i := 229) (by decide +kernel)) (by decide +kernel)) (TT_2 in_X9 (TT_2 (TT_t3 (List.mem_of_getElem? (i := 230) (by decide +kernel)) (by decide +kernel)) TT_0))⟩
abbrev i_X9_glowOf : Ym := (yX9_glowOf, cX9_glowOf, 3, (some .int), 2)
theorem j_X9_glowOf : JV i_X9_glowOf 2 := ⟨⟨by decide +kernel, by decide +kernel, by decide +kernel⟩, TT_2 (TT_t3 (List.mem_of_getElem? (i := 226) (by decide +kernel)) (by decide +kernel)) (TT_2 (TT_pv (List.mem_of_getElem? (i := 27) (by decide +kernel)) (by decide +kernel)) (TT_2 in_X9 (TT_2 (TT_t3 (List.mem_of_getElem? (i := 227) (by decide +kernel)) (by decide +kernel)) TT_0)))⟩
abbrev i_X9_light : Ym := (yX9_light, cX9_light, 3, (some .int), 4)
theorem j_X9_light : JV i_X9_light 2 := ⟨⟨by decide +kernel, by decide +kernel, by decide +kernel⟩, TT_2 (TT_t3 (List.mem_of_getElem? (i := 212) (by decide +kernel)) (by decide +kernel)) (TT_2 (TT_t3 (List.mem_of_getElem? (i := 213) (by decide +kernel)) (by decide +kernel)) (TT_2 in_X9 (TT_2 (TT_t3 (List.mem_of_getElem? (i := 214) (by decide +kernel)) (by decide +kernel)) TT_0)))⟩
abbrev i_X9_lightOf : Ym := (yX9_lightOf, cX9_lightOf, 3, (some .int), 3)
theorem j_X9_lightOf : JV i_X9_lightOf 2 := ⟨⟨by decide +kernel, by decide +kernel, by decide +kernel⟩, TT_2 (TT_t3 (List.mem_of_getElem? (i := 222) (by decide +kernel)) (by decide +kernel)) (TT_2 (TT_pv (List.mem_of_getElem? (i := 26) (by decide +kernel)) (by decide +kernel)) (TT_2 in_X9 (TT_2 (TT_t3 (List.mem_of_getElem? (i := 223) (by decide +kernel)) (by decide +kernel)) TT_0)))⟩
abbrev i_X9_isA : Ym := (yX9_isA, cX9_isA, 2, (some .boolean), 0)
theorem j_X9_isA : JS i_X9_isA 2 := ⟨⟨by decide +kernel, by decide +kernel, by decide +kernel⟩, TT_2 (TT_t4 (List.mem_of_getElem? (i := 2) (by decide +kernel)) (by decide +kernel)) (TT_2 in_X9 (TT_2 (TT_t4 (List.mem_of_getElem? (i := 3) (by decide +kernel)) (by decide +kernel)) TT_0))⟩
abbrev i_X9_mark : Ym := (yX9_mark, cX9_mark, 5, (some .int), 3)
theorem j_X9_mark : JV i_X9_mark 2 := ⟨⟨by decide +kernel, by decide +kernel, by decide +kernel⟩, TT_2 (TT_t3 (List.mem_of_getElem? (i := 238) (by decide +kernel)) (by decide +kernel)) (TT_2 (TT_t3 (List.mem_of_getElem? (i := 239) (by decide +kernel)) (by decide +kernel)) (TT_2 in_X9 (TT_2 (TT_t4 (List.mem_of_getElem? (i := 0) (by decide +kernel)) (by decide +kernel)) TT_0)))⟩
abbrev i_X9_glows : Ym := (yX9_glows, cX9_glows, 3, (some .int), 3)
theorem j_X9_glows : JV i_X9_glows 2 := ⟨⟨by decide +kernel, by decide +kernel, by decide +kernel⟩, TT_2 (TT_t4 (List.mem_of_getElem? (i := 5) (by decide +kernel)) (by decide +kernel)) (TT_2 (TT_t4 (List.mem_of_getElem? (i := 6) (by decide +kernel)) (by decide +kernel)) (TT_2 in_X9 (TT_2 (TT_t4 (List.mem_of_getElem? (i := 7) (by decide +kernel)) (by decide +kernel)) TT_0)))⟩
abbrev i_X9_minds : Ym := (yX9_minds, cX9_minds, 3, none, 0)
theorem j_X9_minds : JV i_X9_minds 0 := ⟨⟨by decide +kernel, by decide +kernel, by decide +kernel⟩, TT_2 (TT_t4 (List.mem_of_getElem? (i := 15) (by decide +kernel)) (by decide +kernel)) (TT_2 (TT_pv (List.mem_of_getElem? (i := 28) (by decide +kernel)) (by decide +kernel)) (TT_2 in_X9 (TT_2 (TT_t4 (List.mem_of_getElem? (i := 16) (by decide +kernel)) (by decide +kernel)) TT_0)))⟩
abbrev i_X9_glowAll : Ym := (yX9_glowAll, cX9_glowAll, 3, (some .int), 3)
theorem j_X9_glowAll : JV i_X9_glowAll 0 := ⟨⟨by decide +kernel, by decide +kernel, by decide +kernel⟩, TT_2 (TT_t4 (List.mem_of_getElem? (i := 19) (by decide +kernel)) (by decide +kernel)) (TT_2 (TT_pv (List.mem_of_getElem? (i := 29) (by decide +kernel)) (by decide +kernel)) (TT_2 in_X9 (TT_2 (TT_t4 (List.mem_of_getElem? (i := 20) (by decide +kernel)) (by decide +kernel)) TT_0)))⟩
abbrev i_X9_night : Ym := (yX9_night, cX9_night, 1, (some .int), 4)
theorem j_X9_night : JV i_X9_night 0 := ⟨⟨by decide +kernel, by decide +kernel, by decide +kernel⟩, TT_2 (TT_t4 (List.mem_of_getElem? (i := 10) (by decide +kernel)) (by decide +kernel)) (TT_2 (TT_t4 (List.mem_of_getElem? (i := 11) (by decide +kernel)) (by decide +kernel)) (TT_2 in_X9 (TT_2 (TT_t4 (List.mem_of_getElem? (i := 12) (by decide +kernel)) (by decide +kernel)) TT_0)))⟩
abbrev i_X9_lights : Ym := (yX9_lights, cX9_lights, 3, (some .int), 3)
theorem j_X9_lights : JV i_X9_lights 2 := ⟨⟨by decide +kernel, by decide +kernel, by decide +kernel⟩, TT_2 (TT_t4 (List.mem_of_getElem? (i := 30) (by decide +kernel)) (by decide +kernel)) (TT_2 (TT_pv (List.mem_of_getElem? (i := 30) (by decide +kernel)) (by decide +kernel)) (TT_2 in_X9 (TT_2 (TT_t4 (List.mem_of_getElem? (i := 31) (by decide +kernel)) (by decide +kernel)) TT_0)))⟩
abbrev i_X9_answer : Ym := (yX9_answer, cX9_answer, 2, (some .int), 4)
theorem j_X9_answer : JV i_X9_answer 1 := ⟨⟨by decide +kernel, by decide +kernel, by decide +kernel⟩, TT_2 (TT_t4 (List.mem_of_getElem? (i := 25) (by decide +kernel)) (by decide +kernel)) (TT_2 (TT_t4 (List.mem_of_getElem? (i := 26) (by decide +kernel)) (by decide +kernel)) (TT_2 in_X9 (TT_2 (TT_t4 (List.mem_of_getElem? (i := 27) (by decide +kernel)) (by decide +kernel)) TT_0)))⟩
abbrev i_X9_relight : Ym := (yX9_relight, cX9_relight, 2, (some .int), 4)
theorem j_X9_relight : JV i_X9_relight 1 := ⟨⟨by decide +kernel, by decide +kernel, by decide +kernel⟩, TT_2 (TT_t4 (List.mem_of_getElem? (i := 33) (by decide +kernel)) (by decide +kernel)) (TT_2 (TT_t4 (List.mem_of_getElem? (i := 34) (by decide +kernel)) (by decide +kernel)) (TT_2 in_X9 (TT_2 (TT_t4 (List.mem_of_getElem? (i := 35) (by decide +kernel)) (by decide +kernel)) TT_0)))⟩
abbrev i_X9_carry : Ym := (yX9_carry, cX9_carry, 4, (some .int), 2)
theorem j_X9_carry : JV i_X9_carry 2 := ⟨⟨by decide +kernel, by decide +kernel, by decide +kernel⟩, TT_2 (TT_t4 (List.mem_of_getElem? (i := 37) (by decide +kernel)) (by decide +kernel)) (TT_2 (TT_t4 (List.mem_of_getElem? (i := 38) (by decide +kernel)) (by decide +kernel)) (TT_2 in_X9 (TT_2 (TT_t4 (List.mem_of_getElem? (i := 39) (by decide +kernel)) (by decide +kernel)) TT_0)))⟩
abbrev i_X9_undo : Ym := (yX9_undo, cX9_undo, 5, (some .int), 1)
theorem j_X9_undo : JV i_X9_undo 1 := ⟨⟨by decide +kernel, by decide +kernel, by decide +kernel⟩, TT_2 (TT_t4 (List.mem_of_getElem? (i := 45) (by decide +kernel)) (by decide +kernel)) (TT_2 (TT_t4 (List.mem_of_getElem? (i := 46) (by decide +kernel)) (by decide +kernel)) (TT_2 in_X9 (TT_2 (TT_t4 (List.mem_of_getElem? (i := 47) (by decide +kernel)) (by decide +kernel)) TT_0)))⟩
abbrev i_X9_keep : Ym := (yX9_keep, cX9_keep, 2, (some .int), 1)
theorem j_X9_keep : JV i_X9_keep 1 := ⟨⟨by decide +kernel, by decide +kernel, by decide +kernel⟩, TT_2 (TT_t4 (List.mem_of_getElem? (i := 49) (by decide +kernel)) (by decide +kernel)) (TT_2 (TT_t4 (List.mem_of_getElem? (i := 50) (by decide +kernel)) (by decide +kernel)) (TT_2 in_X9 (TT_2 (TT_t4 (List.mem_of_getElem? (i := 51) (by decide +kernel)) (by decide +kernel)) TT_0)))⟩
abbrev i_X9_on : Ym := (yX9_on, cX9_on, 2, (some .int), 1)
theorem j_X9_on : JV i_X9_on 1 := ⟨⟨by decide +kernel, by decide +kernel, by decide +kernel⟩, TT_2 (TT_t4 (List.mem_of_getElem? (i := 58) (by decide +kernel)) (by decide +kernel)) (TT_2 (TT_t4 (List.mem_of_getElem? (i := 59) (by decide +kernel)) (by decide +kernel)) (TT_2 in_X9 (TT_2 (TT_t4 (List.mem_of_getElem? (i := 60) (by decide +kernel)) (by decide +kernel)) TT_0)))⟩
abbrev i_X9_size : Ym := (yX9_size, cX9_size, 1, (some .int), 0)
theorem j_X9_size : JS i_X9_size 1 := ⟨⟨by decide +kernel, by decide +kernel, by decide +kernel⟩, TT_2 (TT_t4 (List.mem_of_getElem? (i := 78) (by decide +kernel)) (by decide +kernel)) (TT_2 in_X9 (TT_2 (TT_t4 (List.mem_of_getElem? (i := 79) (by decide +kernel)) (by decide +kernel)) TT_0))⟩
abbrev i_X9_gives : Ym := (yX9_gives, cX9_gives, 6, (some .int), 3)
theorem j_X9_gives : JV i_X9_gives 4 := ⟨⟨by decide +kernel, by decide +kernel, by decide +kernel⟩, TT_2 (TT_t4 (List.mem_of_getElem? (i := 75) (by decide +kernel)) (by decide +kernel)) (TT_2 (TT_pv (List.mem_of_getElem? (i := 34) (by decide +kernel)) (by decide +kernel)) (TT_2 in_X9 (TT_2 (TT_t4 (List.mem_of_getElem? (i := 76) (by decide +kernel)) (by decide +kernel)) TT_0)))⟩
abbrev i_X9_brightBy : Ym := (yX9_brightBy, cX9_brightBy, 6, (some .int), 4)
theorem j_X9_brightBy : JV i_X9_brightBy 3 := ⟨⟨by decide +kernel, by decide +kernel, by decide +kernel⟩, TT_2 (TT_t4 (List.mem_of_getElem? (i := 71) (by decide +kernel)) (by decide +kernel)) (TT_2 (TT_pv (List.mem_of_getElem? (i := 33) (by decide +kernel)) (by decide +kernel)) (TT_2 in_X9 (TT_2 (TT_t4 (List.mem_of_getElem? (i := 72) (by decide +kernel)) (by decide +kernel)) TT_0)))⟩
abbrev i_X9_brightNow : Ym := (yX9_brightNow, cX9_brightNow, 2, (some .int), 5)
theorem j_X9_brightNow : JV i_X9_brightNow 1 := ⟨⟨by decide +kernel, by decide +kernel, by decide +kernel⟩, TT_2 (TT_t4 (List.mem_of_getElem? (i := 67) (by decide +kernel)) (by decide +kernel)) (TT_2 (TT_pv (List.mem_of_getElem? (i := 32) (by decide +kernel)) (by decide +kernel)) (TT_2 in_X9 (TT_2 (TT_t4 (List.mem_of_getElem? (i := 68) (by decide +kernel)) (by decide +kernel)) TT_0)))⟩
abbrev i_X9_alongNow : Ym := (yX9_alongNow, cX9_alongNow, 5, (some .int), 6)
theorem j_X9_alongNow : JV i_X9_alongNow 2 := ⟨⟨by decide +kernel, by decide +kernel, by decide +kernel⟩, TT_2 (TT_t4 (List.mem_of_getElem? (i := 86) (by decide +kernel)) (by decide +kernel)) (TT_2 (TT_pv (List.mem_of_getElem? (i := 35) (by decide +kernel)) (by decide +kernel)) (TT_2 in_X9 (TT_2 (TT_t4 (List.mem_of_getElem? (i := 87) (by decide +kernel)) (by decide +kernel)) TT_0)))⟩
abbrev i_X9_bright : Ym := (yX9_bright, cX9_bright, 2, (some .int), 6)
theorem j_X9_bright : JV i_X9_bright 1 := ⟨⟨by decide +kernel, by decide +kernel, by decide +kernel⟩, TT_2 (TT_t4 (List.mem_of_getElem? (i := 62) (by decide +kernel)) (by decide +kernel)) (TT_2 (TT_t4 (List.mem_of_getElem? (i := 63) (by decide +kernel)) (by decide +kernel)) (TT_2 in_X9 (TT_2 (TT_t4 (List.mem_of_getElem? (i := 64) (by decide +kernel)) (by decide +kernel)) TT_0)))⟩
abbrev i_X9_along : Ym := (yX9_along, cX9_along, 3, (some .int), 7)
theorem j_X9_along : JV i_X9_along 2 := ⟨⟨by decide +kernel, by decide +kernel, by decide +kernel⟩, TT_2 (TT_t4 (List.mem_of_getElem? (i := 81) (by decide +kernel)) (by decide +kernel)) (TT_2 (TT_t4 (List.mem_of_getElem? (i := 82) (by decide +kernel)) (by decide +kernel)) (TT_2 in_X9 (TT_2 (TT_t4 (List.mem_of_getElem? (i := 83) (by decide +kernel)) (by decide +kernel)) TT_0)))⟩
abbrev i_X9_when : Ym := (yX9_when, cX9_when, 5, (some .int), 5)
theorem j_X9_when : JV i_X9_when 2 := ⟨⟨by decide +kernel, by decide +kernel, by decide +kernel⟩, TT_2 (TT_t4 (List.mem_of_getElem? (i := 89) (by decide +kernel)) (by decide +kernel)) (TT_2 (TT_t4 (List.mem_of_getElem? (i := 90) (by decide +kernel)) (by decide +kernel)) (TT_2 in_X9 (TT_2 (TT_t4 (List.mem_of_getElem? (i := 91) (by decide +kernel)) (by decide +kernel)) TT_0)))⟩
abbrev i_X9_stow : Ym := (yX9_stow, cX9_stow, 9, (some .int), 7)
theorem j_X9_stow : JV i_X9_stow 3 := ⟨⟨by decide +kernel, by decide +kernel, by decide +kernel⟩, TT_2 (TT_t4 (List.mem_of_getElem? (i := 94) (by decide +kernel)) (by decide +kernel)) (TT_2 (TT_t4 (List.mem_of_getElem? (i := 95) (by decide +kernel)) (by decide +kernel)) (TT_2 in_X9 (TT_2 (TT_t4 (List.mem_of_getElem? (i := 96) (by decide +kernel)) (by decide +kernel)) TT_0)))⟩
abbrev i_X9_dark : Ym := (yX9_dark, cX9_dark, 6, (some .int), 7)
theorem j_X9_dark : JV i_X9_dark 1 := ⟨⟨by decide +kernel, by decide +kernel, by decide +kernel⟩, TT_2 (TT_t4 (List.mem_of_getElem? (i := 99) (by decide +kernel)) (by decide +kernel)) (TT_2 (TT_t4 (List.mem_of_getElem? (i := 100) (by decide +kernel)) (by decide +kernel)) (TT_2 in_X9 (TT_2 (TT_t4 (List.mem_of_getElem? (i := 101) (by decide +kernel)) (by decide +kernel)) TT_0)))⟩
abbrev i_X9_road : Ym := (yX9_road, cX9_road, 6, (some .int), 6)
theorem j_X9_road : JV i_X9_road 0 := ⟨⟨by decide +kernel, by decide +kernel, by decide +kernel⟩, TT_2 (TT_t4 (List.mem_of_getElem? (i := 104) (by decide +kernel)) (by decide +kernel)) (TT_2 (TT_t4 (List.mem_of_getElem? (i := 105) (by decide +kernel)) (by decide +kernel)) (TT_2 in_X9 (TT_2 (TT_t4 (List.mem_of_getElem? (i := 106) (by decide +kernel)) (by decide +kernel)) TT_0)))⟩
abbrev i_X9_isForged : Ym := (yX9_isForged, cX9_isForged, 2, (some .boolean), 0)
theorem j_X9_isForged : JV i_X9_isForged 1 := ⟨⟨by decide +kernel, by decide +kernel, by decide +kernel⟩, TT_2 (TT_t4 (List.mem_of_getElem? (i := 117) (by decide +kernel)) (by decide +kernel)) (TT_2 (TT_pv (List.mem_of_getElem? (i := 37) (by decide +kernel)) (by decide +kernel)) (TT_2 in_X9 (TT_2 (TT_t4 (List.mem_of_getElem? (i := 118) (by decide +kernel)) (by decide +kernel)) TT_0)))⟩
abbrev i_X9_debts : Ym := (yX9_debts, cX9_debts, 3, (some .int), 1)
theorem j_X9_debts : JV i_X9_debts 0 := ⟨⟨by decide +kernel, by decide +kernel, by decide +kernel⟩, TT_2 (TT_t4 (List.mem_of_getElem? (i := 113) (by decide +kernel)) (by decide +kernel)) (TT_2 (TT_pv (List.mem_of_getElem? (i := 36) (by decide +kernel)) (by decide +kernel)) (TT_2 in_X9 (TT_2 (TT_t4 (List.mem_of_getElem? (i := 114) (by decide +kernel)) (by decide +kernel)) TT_0)))⟩
abbrev i_X9_owesBy : Ym := (yX9_owesBy, cX9_owesBy, 5, (some .int), 1)
theorem j_X9_owesBy : JV i_X9_owesBy 2 := ⟨⟨by decide +kernel, by decide +kernel, by decide +kernel⟩, TT_2 (TT_t4 (List.mem_of_getElem? (i := 121) (by decide +kernel)) (by decide +kernel)) (TT_2 (TT_pv (List.mem_of_getElem? (i := 38) (by decide +kernel)) (by decide +kernel)) (TT_2 in_X9 (TT_2 (TT_t4 (List.mem_of_getElem? (i := 122) (by decide +kernel)) (by decide +kernel)) TT_0)))⟩
abbrev i_X9_isRing : Ym := (yX9_isRing, cX9_isRing, 4, (some .boolean), 2)
theorem j_X9_isRing : JV i_X9_isRing 1 := ⟨⟨by decide +kernel, by decide +kernel, by decide +kernel⟩, TT_2 (TT_t4 (List.mem_of_getElem? (i := 129) (by decide +kernel)) (by decide +kernel)) (TT_2 (TT_pv (List.mem_of_getElem? (i := 39) (by decide +kernel)) (by decide +kernel)) (TT_2 in_X9 (TT_2 (TT_t4 (List.mem_of_getElem? (i := 130) (by decide +kernel)) (by decide +kernel)) TT_0)))⟩
abbrev i_X9_owes : Ym := (yX9_owes, cX9_owes, 2, (some .int), 2)
theorem j_X9_owes : JV i_X9_owes 1 := ⟨⟨by decide +kernel, by decide +kernel, by decide +kernel⟩, TT_2 (TT_t4 (List.mem_of_getElem? (i := 108) (by decide +kernel)) (by decide +kernel)) (TT_2 (TT_t4 (List.mem_of_getElem? (i := 109) (by decide +kernel)) (by decide +kernel)) (TT_2 in_X9 (TT_2 (TT_t4 (List.mem_of_getElem? (i := 110) (by decide +kernel)) (by decide +kernel)) TT_0)))⟩
abbrev i_X9_ring : Ym := (yX9_ring, cX9_ring, 3, (some .int), 3)
theorem j_X9_ring : JV i_X9_ring 0 := ⟨⟨by decide +kernel, by decide +kernel, by decide +kernel⟩, TT_2 (TT_t4 (List.mem_of_getElem? (i := 124) (by decide +kernel)) (by decide +kernel)) (TT_2 (TT_t4 (List.mem_of_getElem? (i := 125) (by decide +kernel)) (by decide +kernel)) (TT_2 in_X9 (TT_2 (TT_t4 (List.mem_of_getElem? (i := 126) (by decide +kernel)) (by decide +kernel)) TT_0)))⟩
abbrev i_X9_rings : Ym := (yX9_rings, cX9_rings, 4, (some .int), 3)
theorem j_X9_rings : JV i_X9_rings 1 := ⟨⟨by decide +kernel, by decide +kernel, by decide +kernel⟩, TT_2 (TT_t4 (List.mem_of_getElem? (i := 135) (by decide +kernel)) (by decide +kernel)) (TT_2 (TT_t4 (List.mem_of_getElem? (i := 136) (by decide +kernel)) (by decide +kernel)) (TT_2 in_X9 (TT_2 (TT_t4 (List.mem_of_getElem? (i := 137) (by decide +kernel)) (by decide +kernel)) TT_0)))⟩
abbrev i_X9_least : Ym := (yX9_least, cX9_least, 4, (some .int), 3)
theorem j_X9_least : JV i_X9_least 1 := ⟨⟨by decide +kernel, by decide +kernel, by decide +kernel⟩, TT_2 (TT_t4 (List.mem_of_getElem? (i := 139) (by decide +kernel)) (by decide +kernel)) (TT_2 (TT_t4 (List.mem_of_getElem? (i := 140) (by decide +kernel)) (by decide +kernel)) (TT_2 in_X9 (TT_2 (TT_t4 (List.mem_of_getElem? (i := 141) (by decide +kernel)) (by decide +kernel)) TT_0)))⟩
abbrev i_X9_chain : Ym := (yX9_chain, cX9_chain, 9, (some .int), 3)
theorem j_X9_chain : JV i_X9_chain 3 := ⟨⟨by decide +kernel, by decide +kernel, by decide +kernel⟩, TT_2 (TT_t4 (List.mem_of_getElem? (i := 143) (by decide +kernel)) (by decide +kernel)) (TT_2 (TT_t4 (List.mem_of_getElem? (i := 144) (by decide +kernel)) (by decide +kernel)) (TT_2 in_X9 (TT_2 (TT_t4 (List.mem_of_getElem? (i := 145) (by decide +kernel)) (by decide +kernel)) TT_0)))⟩
abbrev i_X9_dim : Ym := (yX9_dim, cX9_dim, 6, (some .int), 5)
theorem j_X9_dim : JV i_X9_dim 2 := ⟨⟨by decide +kernel, by decide +kernel, by decide +kernel⟩, TT_2 (TT_t4 (List.mem_of_getElem? (i := 148) (by decide +kernel)) (by decide +kernel)) (TT_2 (TT_t4 (List.mem_of_getElem? (i := 149) (by decide +kernel)) (by decide +kernel)) (TT_2 in_X9 (TT_2 (TT_t4 (List.mem_of_getElem? (i := 150) (by decide +kernel)) (by decide +kernel)) TT_0)))⟩
abbrev i_X9_against : Ym := (yX9_against, cX9_against, 4, (some .int), 1)
theorem j_X9_against : JV i_X9_against 1 := ⟨⟨by decide +kernel, by decide +kernel, by decide +kernel⟩, TT_2 (TT_t4 (List.mem_of_getElem? (i := 157) (by decide +kernel)) (by decide +kernel)) (TT_2 (TT_pv (List.mem_of_getElem? (i := 40) (by decide +kernel)) (by decide +kernel)) (TT_2 in_X9 (TT_2 (TT_t4 (List.mem_of_getElem? (i := 158) (by decide +kernel)) (by decide +kernel)) TT_0)))⟩
abbrev i_X9_fits : Ym := (yX9_fits, cX9_fits, 6, (some .boolean), 2)
theorem j_X9_fits : JV i_X9_fits 3 := ⟨⟨by decide +kernel, by decide +kernel, by decide +kernel⟩, TT_2 (TT_t4 (List.mem_of_getElem? (i := 161) (by decide +kernel)) (by decide +kernel)) (TT_2 (TT_pv (List.mem_of_getElem? (i := 41) (by decide +kernel)) (by decide +kernel)) (TT_2 in_X9 (TT_2 (TT_t4 (List.mem_of_getElem? (i := 162) (by decide +kernel)) (by decide +kernel)) TT_0)))⟩
abbrev i_X9_firsts : Ym := (yX9_firsts, cX9_firsts, 6, (some .int), 3)
theorem j_X9_firsts : JV i_X9_firsts 2 := ⟨⟨by decide +kernel, by decide +kernel, by decide +kernel⟩, TT_2 (TT_t4 (List.mem_of_getElem? (i := 152) (by decide +kernel)) (by decide +kernel)) (TT_2 (TT_t4 (List.mem_of_getElem? (i := 153) (by decide +kernel)) (by decide +kernel)) (TT_2 in_X9 (TT_2 (TT_t4 (List.mem_of_getElem? (i := 154) (by decide +kernel)) (by decide +kernel)) TT_0)))⟩
abbrev i_X9_kindsOf : Ym := (yX9_kindsOf, cX9_kindsOf, 5, (some .int), 3)
theorem j_X9_kindsOf : JV i_X9_kindsOf 2 := ⟨⟨by decide +kernel, by decide +kernel, by decide +kernel⟩, TT_2 (TT_t4 (List.mem_of_getElem? (i := 169) (by decide +kernel)) (by decide +kernel)) (TT_2 (TT_pv (List.mem_of_getElem? (i := 42) (by decide +kernel)) (by decide +kernel)) (TT_2 in_X9 (TT_2 (TT_t4 (List.mem_of_getElem? (i := 170) (by decide +kernel)) (by decide +kernel)) TT_0)))⟩
abbrev i_X9_kinds : Ym := (yX9_kinds, cX9_kinds, 4, (some .int), 4)
theorem j_X9_kinds : JV i_X9_kinds 2 := ⟨⟨by decide +kernel, by decide +kernel, by decide +kernel⟩, TT_2 (TT_t4 (List.mem_of_getElem? (i := 164) (by decide +kernel)) (by decide +kernel)) (TT_2 (TT_t4 (List.mem_of_getElem? (i := 165) (by decide +kernel)) (by decide +kernel)) (TT_2 in_X9 (TT_2 (TT_t4 (List.mem_of_getElem? (i := 166) (by decide +kernel)) (by decide +kernel)) TT_0)))⟩
abbrev i_X9_greatestPart : Ym := (yX9_greatestPart, cX9_greatestPart, 8, (some .int), 2)
theorem j_X9_greatestPart : JV i_X9_greatestPart 3 := ⟨⟨by decide +kernel, by decide +kernel, by decide +kernel⟩, TT_2 (TT_t4 (List.mem_of_getElem? (i := 177) (by decide +kernel)) (by decide +kernel)) (TT_2 (TT_pv (List.mem_of_getElem? (i := 43) (by decide +kernel)) (by decide +kernel)) (TT_2 in_X9 (TT_2 (TT_t4 (List.mem_of_getElem? (i := 178) (by decide +kernel)) (by decide +kernel)) TT_0)))⟩
abbrev i_X9_test : Ym := (yX9_test, cX9_test, 9, (some .int), 4)
theorem j_X9_test : JV i_X9_test 2 := ⟨⟨by decide +kernel, by decide +kernel, by decide +kernel⟩, TT_2 (TT_t4 (List.mem_of_getElem? (i := 172) (by decide +kernel)) (by decide +kernel)) (TT_2 (TT_t4 (List.mem_of_getElem? (i := 173) (by decide +kernel)) (by decide +kernel)) (TT_2 in_X9 (TT_2 (TT_t4 (List.mem_of_getElem? (i := 174) (by decide +kernel)) (by decide +kernel)) TT_0)))⟩
abbrev i_X9_whose : Ym := (yX9_whose, cX9_whose, 9, (some .int), 2)
theorem j_X9_whose : JV i_X9_whose 2 := ⟨⟨by decide +kernel, by decide +kernel, by decide +kernel⟩, TT_2 (TT_t4 (List.mem_of_getElem? (i := 180) (by decide +kernel)) (by decide +kernel)) (TT_2 (TT_t4 (List.mem_of_getElem? (i := 181) (by decide +kernel)) (by decide +kernel)) (TT_2 in_X9 (TT_2 (TT_t4 (List.mem_of_getElem? (i := 182) (by decide +kernel)) (by decide +kernel)) TT_0)))⟩
abbrev i_X9_duel : Ym := (yX9_duel, cX9_duel, 6, (some .int), 5)
theorem j_X9_duel : JV i_X9_duel 2 := ⟨⟨by decide +kernel, by decide +kernel, by decide +kernel⟩, TT_2 (TT_t4 (List.mem_of_getElem? (i := 184) (by decide +kernel)) (by decide +kernel)) (TT_2 (TT_t4 (List.mem_of_getElem? (i := 185) (by decide +kernel)) (by decide +kernel)) (TT_2 in_X9 (TT_2 (TT_t4 (List.mem_of_getElem? (i := 186) (by decide +kernel)) (by decide +kernel)) TT_0)))⟩
abbrev i_X9_betters : Ym := (yX9_betters, cX9_betters, 4, none, 0)
theorem j_X9_betters : JV i_X9_betters 1 := ⟨⟨by decide +kernel, by decide +kernel, by decide +kernel⟩, TT_2 (TT_t4 (List.mem_of_getElem? (i := 190) (by decide +kernel)) (by decide +kernel)) (TT_2 (TT_pv (List.mem_of_getElem? (i := 44) (by decide +kernel)) (by decide +kernel)) (TT_2 in_X9 (TT_2 (TT_t4 (List.mem_of_getElem? (i := 191) (by decide +kernel)) (by decide +kernel)) TT_0)))⟩
abbrev i_X9_tellsPart : Ym := (yX9_tellsPart, cX9_tellsPart, 11, (some .int), 0)
theorem j_X9_tellsPart : JV i_X9_tellsPart 2 := ⟨⟨by decide +kernel, by decide +kernel, by decide +kernel⟩, TT_2 (TT_t4 (List.mem_of_getElem? (i := 203) (by decide +kernel)) (by decide +kernel)) (TT_2 (TT_pv (List.mem_of_getElem? (i := 46) (by decide +kernel)) (by decide +kernel)) (TT_2 in_X9 (TT_2 (TT_t4 (List.mem_of_getElem? (i := 204) (by decide +kernel)) (by decide +kernel)) TT_0)))⟩
abbrev i_X9_chances : Ym := (yX9_chances, cX9_chances, 12, (some .int), 5)
theorem j_X9_chances : JV i_X9_chances 3 := ⟨⟨by decide +kernel, by decide +kernel, by decide +kernel⟩, TT_2 (TT_t4 (List.mem_of_getElem? (i := 199) (by decide +kernel)) (by decide +kernel)) (TT_2 (TT_pv (List.mem_of_getElem? (i := 45) (by decide +kernel)) (by decide +kernel)) (TT_2 in_X9 (TT_2 (TT_t4 (List.mem_of_getElem? (i := 200) (by decide +kernel)) (by decide +kernel)) TT_0)))⟩
abbrev i_X9_odds : Ym := (yX9_odds, cX9_odds, 4, (some .int), 6)
theorem j_X9_odds : JV i_X9_odds 3 := ⟨⟨by decide +kernel, by decide +kernel, by decide +kernel⟩, TT_2 (TT_t4 (List.mem_of_getElem? (i := 193) (by decide +kernel)) (by decide +kernel)) (TT_2 (TT_t4 (List.mem_of_getElem? (i := 194) (by decide +kernel)) (by decide +kernel)) (TT_2 in_X9 (TT_2 (TT_t4 (List.mem_of_getElem? (i := 195) (by decide +kernel)) (by decide +kernel)) TT_0)))⟩
abbrev i_X9_mid : Ym := (yX9_mid, cX9_mid, 3, (some .int), 6)
theorem j_X9_mid : JV i_X9_mid 2 := ⟨⟨by decide +kernel, by decide +kernel, by decide +kernel⟩, TT_2 (TT_t4 (List.mem_of_getElem? (i := 206) (by decide +kernel)) (by decide +kernel)) (TT_2 (TT_t4 (List.mem_of_getElem? (i := 207) (by decide +kernel)) (by decide +kernel)) (TT_2 in_X9 (TT_2 (TT_t4 (List.mem_of_getElem? (i := 208) (by decide +kernel)) (by decide +kernel)) TT_0)))⟩
abbrev i_X9_lots : Ym := (yX9_lots, cX9_lots, 7, (some .int), 4)
theorem j_X9_lots : JV i_X9_lots 2 := ⟨⟨by decide +kernel, by decide +kernel, by decide +kernel⟩, TT_2 (TT_t4 (List.mem_of_getElem? (i := 210) (by decide +kernel)) (by decide +kernel)) (TT_2 (TT_t4 (List.mem_of_getElem? (i := 211) (by decide +kernel)) (by decide +kernel)) (TT_2 in_X9 (TT_2 (TT_t4 (List.mem_of_getElem? (i := 212) (by decide +kernel)) (by decide +kernel)) TT_0)))⟩
abbrev i_X9_asked : Ym := (yX9_asked, cX9_asked, 1, (some .int), 0)
theorem j_X9_asked : JV i_X9_asked 0 := ⟨⟨by decide +kernel, by decide +kernel, by decide +kernel⟩, TT_2 (TT_t4 (List.mem_of_getElem? (i := 220) (by decide +kernel)) (by decide +kernel)) (TT_2 (TT_t4 (List.mem_of_getElem? (i := 221) (by decide +kernel)) (by decide +kernel)) (TT_2 in_X9 (TT_2 (TT_t4 (List.mem_of_getElem? (i := 222) (by decide +kernel)) (by decide +kernel)) TT_0)))⟩
abbrev i_X9_upper : Ym := (yX9_upper, cX9_upper, 1, (some .long), 0)
theorem j_X9_upper : JV i_X9_upper 0 := ⟨⟨by decide +kernel, by decide +kernel, by decide +kernel⟩, TT_2 (TT_t4 (List.mem_of_getElem? (i := 224) (by decide +kernel)) (by decide +kernel)) (TT_2 (TT_t4 (List.mem_of_getElem? (i := 225) (by decide +kernel)) (by decide +kernel)) (TT_2 in_X9 (TT_2 (TT_t4 (List.mem_of_getElem? (i := 226) (by decide +kernel)) (by decide +kernel)) TT_0)))⟩
abbrev i_X9_lower : Ym := (yX9_lower, cX9_lower, 1, (some .long), 0)
theorem j_X9_lower : JV i_X9_lower 0 := ⟨⟨by decide +kernel, by decide +kernel, by decide +kernel⟩, TT_2 (TT_t4 (List.mem_of_getElem? (i := 228) (by decide +kernel)) (by decide +kernel)) (TT_2 (TT_t4 (List.mem_of_getElem? (i := 229) (by decide +kernel)) (by decide +kernel)) (TT_2 in_X9 (TT_2 (TT_t4 (List.mem_of_getElem? (i := 230) (by decide +kernel)) (by decide +kernel)) TT_0)))⟩
abbrev i_X9_manyOf : Ym := (yX9_manyOf, cX9_manyOf, 5, (some .int), 0)
theorem j_X9_manyOf : JV i_X9_manyOf 2 := ⟨⟨by decide +kernel, by decide +kernel, by decide +kernel⟩, TT_2 (TT_t4 (List.mem_of_getElem? (i := 237) (by decide +kernel)) (by decide +kernel)) (TT_2 (TT_pv (List.mem_of_getElem? (i := 47) (by decide +kernel)) (by decide +kernel)) (TT_2 in_X9 (TT_2 (TT_t4 (List.mem_of_getElem? (i := 238) (by decide +kernel)) (by decide +kernel)) TT_0)))⟩
abbrev i_X9_rowsThere : Ym := (yX9_rowsThere, cX9_rowsThere, 3, (some .int), 0)
theorem j_X9_rowsThere : JV i_X9_rowsThere 0 := ⟨⟨by decide +kernel, by decide +kernel, by decide +kernel⟩, TT_2 (TT_t5 (List.mem_of_getElem? (i := 1) (by decide +kernel)) (by decide +kernel)) (TT_2 (TT_pv (List.mem_of_getElem? (i := 48) (by decide +kernel)) (by decide +kernel)) (TT_2 in_X9 (TT_2 (TT_t5 (List.mem_of_getElem? (i := 2) (by decide +kernel)) (by decide +kernel)) TT_0)))⟩
abbrev i_X9_textsThere : Ym := (yX9_textsThere, cX9_textsThere, 3, (some .int), 0)
theorem j_X9_textsThere : JV i_X9_textsThere 0 := ⟨⟨by decide +kernel, by decide +kernel, by decide +kernel⟩, TT_2 (TT_t5 (List.mem_of_getElem? (i := 5) (by decide +kernel)) (by decide +kernel)) (TT_2 (TT_pv (List.mem_of_getElem? (i := 49) (by decide +kernel)) (by decide +kernel)) (TT_2 in_X9 (TT_2 (TT_t5 (List.mem_of_getElem? (i := 6) (by decide +kernel)) (by decide +kernel)) TT_0)))⟩
abbrev i_X9_banksKept : Ym := (yX9_banksKept, cX9_banksKept, 3, (some .int), 0)
theorem j_X9_banksKept : JV i_X9_banksKept 0 := ⟨⟨by decide +kernel, by decide +kernel, by decide +kernel⟩, TT_2 (TT_t5 (List.mem_of_getElem? (i := 9) (by decide +kernel)) (by decide +kernel)) (TT_2 (TT_pv (List.mem_of_getElem? (i := 50) (by decide +kernel)) (by decide +kernel)) (TT_2 in_X9 (TT_2 (TT_t5 (List.mem_of_getElem? (i := 10) (by decide +kernel)) (by decide +kernel)) TT_0)))⟩
abbrev i_X9_count : Ym := (yX9_count, cX9_count, 2, (some .int), 4)
theorem j_X9_count : JV i_X9_count 1 := ⟨⟨by decide +kernel, by decide +kernel, by decide +kernel⟩, TT_2 (TT_t4 (List.mem_of_getElem? (i := 232) (by decide +kernel)) (by decide +kernel)) (TT_2 (TT_t4 (List.mem_of_getElem? (i := 233) (by decide +kernel)) (by decide +kernel)) (TT_2 in_X9 (TT_2 (TT_t4 (List.mem_of_getElem? (i := 234) (by decide +kernel)) (by decide +kernel)) TT_0)))⟩
abbrev i_X9_finding : Ym := (yX9_finding, cX9_finding, 1, (some .int), 0)
theorem j_X9_finding : JV i_X9_finding 0 := ⟨⟨by decide +kernel, by decide +kernel, by decide +kernel⟩, TT_2 (TT_t5 (List.mem_of_getElem? (i := 12) (by decide +kernel)) (by decide +kernel)) (TT_2 (TT_t5 (List.mem_of_getElem? (i := 13) (by decide +kernel)) (by decide +kernel)) (TT_2 in_X9 (TT_2 (TT_t5 (List.mem_of_getElem? (i := 14) (by decide +kernel)) (by decide +kernel)) TT_0)))⟩
abbrev i_X9_findings : Ym := (yX9_findings, cX9_findings, 2, (some .int), 1)
theorem j_X9_findings : JV i_X9_findings 1 := ⟨⟨by decide +kernel, by decide +kernel, by decide +kernel⟩, TT_2 (TT_t5 (List.mem_of_getElem? (i := 16) (by decide +kernel)) (by decide +kernel)) (TT_2 (TT_t5 (List.mem_of_getElem? (i := 17) (by decide +kernel)) (by decide +kernel)) (TT_2 in_X9 (TT_2 (TT_t5 (List.mem_of_getElem? (i := 18) (by decide +kernel)) (by decide +kernel)) TT_0)))⟩
abbrev i_X9_mix : Ym := (yX9_mix, cX9_mix, 3, none, 0)
theorem j_X9_mix : JV i_X9_mix 1 := ⟨⟨by decide +kernel, by decide +kernel, by decide +kernel⟩, TT_2 (TT_t5 (List.mem_of_getElem? (i := 27) (by decide +kernel)) (by decide +kernel)) (TT_2 (TT_pv (List.mem_of_getElem? (i := 51) (by decide +kernel)) (by decide +kernel)) (TT_2 in_X9 (TT_2 (TT_t5 (List.mem_of_getElem? (i := 28) (by decide +kernel)) (by decide +kernel)) TT_0)))⟩
abbrev i_X9_digest : Ym := (yX9_digest, cX9_digest, 3, (some .long), 5)
theorem j_X9_digest : JV i_X9_digest 0 := ⟨⟨by decide +kernel, by decide +kernel, by decide +kernel⟩, TT_2 (TT_t5 (List.mem_of_getElem? (i := 20) (by decide +kernel)) (by decide +kernel)) (TT_2 (TT_t5 (List.mem_of_getElem? (i := 21) (by decide +kernel)) (by decide +kernel)) (TT_2 in_X9 (TT_2 (TT_t5 (List.mem_of_getElem? (i := 22) (by decide +kernel)) (by decide +kernel)) TT_0)))⟩
abbrev i_X0_clear : Ym := (yX0_clear, cX0_clear, 1, none, 0)
theorem j_X0_clear : JV i_X0_clear 0 := ⟨⟨by decide +kernel, by decide +kernel, by decide +kernel⟩, TT_2 (TT_t1 (List.mem_of_getElem? (i := 34) (by decide +kernel)) (by decide +kernel)) (TT_2 (TT_t1 (List.mem_of_getElem? (i := 35) (by decide +kernel)) (by decide +kernel)) (TT_2 in_X0 (TT_2 (TT_t1 (List.mem_of_getElem? (i := 36) (by decide +kernel)) (by decide +kernel)) TT_0)))⟩
abbrev i_X0_add : Ym := (yX0_add, cX0_add, 6, none, 0)
theorem j_X0_add : JV i_X0_add 5 := ⟨⟨by decide +kernel, by decide +kernel, by decide +kernel⟩, TT_2 (TT_t1 (List.mem_of_getElem? (i := 38) (by decide +kernel)) (by decide +kernel)) (TT_2 (TT_t1 (List.mem_of_getElem? (i := 39) (by decide +kernel)) (by decide +kernel)) (TT_2 in_X0 (TT_2 (TT_t1 (List.mem_of_getElem? (i := 40) (by decide +kernel)) (by decide +kernel)) TT_0)))⟩
abbrev i_X0_become : Ym := (yX0_become, cX0_become, 2, none, 1)
theorem j_X0_become : JV i_X0_become 1 := ⟨⟨by decide +kernel, by decide +kernel, by decide +kernel⟩, TT_2 (TT_t1 (List.mem_of_getElem? (i := 187) (by decide +kernel)) (by decide +kernel)) (TT_2 (TT_t1 (List.mem_of_getElem? (i := 188) (by decide +kernel)) (by decide +kernel)) (TT_2 in_X0 (TT_2 (TT_t1 (List.mem_of_getElem? (i := 189) (by decide +kernel)) (by decide +kernel)) TT_0)))⟩
abbrev i_X0_size : Ym := (yX0_size, cX0_size, 1, (some .int), 0)
theorem j_X0_size : JV i_X0_size 0 := ⟨⟨by decide +kernel, by decide +kernel, by decide +kernel⟩, TT_2 (TT_t1 (List.mem_of_getElem? (i := 47) (by decide +kernel)) (by decide +kernel)) (TT_2 (TT_t1 (List.mem_of_getElem? (i := 48) (by decide +kernel)) (by decide +kernel)) (TT_2 in_X0 (TT_2 (TT_t1 (List.mem_of_getElem? (i := 49) (by decide +kernel)) (by decide +kernel)) TT_0)))⟩
abbrev i_X0_thisNight : Ym := (yX0_thisNight, cX0_thisNight, 1, (some .int), 0)
theorem j_X0_thisNight : JV i_X0_thisNight 0 := ⟨⟨by decide +kernel, by decide +kernel, by decide +kernel⟩, TT_2 (TT_t1 (List.mem_of_getElem? (i := 109) (by decide +kernel)) (by decide +kernel)) (TT_2 (TT_t1 (List.mem_of_getElem? (i := 110) (by decide +kernel)) (by decide +kernel)) (TT_2 in_X0 (TT_2 (TT_t1 (List.mem_of_getElem? (i := 111) (by decide +kernel)) (by decide +kernel)) TT_0)))⟩
abbrev i_X0_deedsDone : Ym := (yX0_deedsDone, cX0_deedsDone, 1, (some .int), 0)
theorem j_X0_deedsDone : JV i_X0_deedsDone 0 := ⟨⟨by decide +kernel, by decide +kernel, by decide +kernel⟩, TT_2 (TT_t1 (List.mem_of_getElem? (i := 126) (by decide +kernel)) (by decide +kernel)) (TT_2 (TT_t1 (List.mem_of_getElem? (i := 127) (by decide +kernel)) (by decide +kernel)) (TT_2 in_X0 (TT_2 (TT_t1 (List.mem_of_getElem? (i := 128) (by decide +kernel)) (by decide +kernel)) TT_0)))⟩
abbrev i_X0_litSet : Ym := (yX0_litSet, cX0_litSet, 1, (some .int), 0)
theorem j_X0_litSet : JV i_X0_litSet 0 := ⟨⟨by decide +kernel, by decide +kernel, by decide +kernel⟩, TT_2 (TT_t2 (List.mem_of_getElem? (i := 128) (by decide +kernel)) (by decide +kernel)) (TT_2 (TT_t2 (List.mem_of_getElem? (i := 129) (by decide +kernel)) (by decide +kernel)) (TT_2 in_X0 (TT_2 (TT_t2 (List.mem_of_getElem? (i := 130) (by decide +kernel)) (by decide +kernel)) TT_0)))⟩
abbrev i_X0_has : Ym := (yX0_has, cX0_has, 2, (some .boolean), 0)
theorem j_X0_has : JV i_X0_has 1 := ⟨⟨by decide +kernel, by decide +kernel, by decide +kernel⟩, TT_2 (TT_t1 (List.mem_of_getElem? (i := 55) (by decide +kernel)) (by decide +kernel)) (TT_2 (TT_t1 (List.mem_of_getElem? (i := 56) (by decide +kernel)) (by decide +kernel)) (TT_2 in_X0 (TT_2 (TT_t1 (List.mem_of_getElem? (i := 57) (by decide +kernel)) (by decide +kernel)) TT_0)))⟩
abbrev i_X0_isLit : Ym := (yX0_isLit, cX0_isLit, 2, (some .boolean), 1)
theorem j_X0_isLit : JV i_X0_isLit 1 := ⟨⟨by decide +kernel, by decide +kernel, by decide +kernel⟩, TT_2 (TT_t1 (List.mem_of_getElem? (i := 84) (by decide +kernel)) (by decide +kernel)) (TT_2 (TT_t1 (List.mem_of_getElem? (i := 85) (by decide +kernel)) (by decide +kernel)) (TT_2 in_X0 (TT_2 (TT_t1 (List.mem_of_getElem? (i := 86) (by decide +kernel)) (by decide +kernel)) TT_0)))⟩
abbrev i_X0_isOwing : Ym := (yX0_isOwing, cX0_isOwing, 2, (some .boolean), 2)
theorem j_X0_isOwing : JV i_X0_isOwing 1 := ⟨⟨by decide +kernel, by decide +kernel, by decide +kernel⟩, TT_2 (TT_t2 (List.mem_of_getElem? (i := 30) (by decide +kernel)) (by decide +kernel)) (TT_2 (TT_t2 (List.mem_of_getElem? (i := 31) (by decide +kernel)) (by decide +kernel)) (TT_2 in_X0 (TT_2 (TT_t2 (List.mem_of_getElem? (i := 32) (by decide +kernel)) (by decide +kernel)) TT_0)))⟩
abbrev i_X0_kindOf : Ym := (yX0_kindOf, cX0_kindOf, 2, (some .int), 1)
theorem j_X0_kindOf : JV i_X0_kindOf 1 := ⟨⟨by decide +kernel, by decide +kernel, by decide +kernel⟩, TT_2 (TT_t1 (List.mem_of_getElem? (i := 63) (by decide +kernel)) (by decide +kernel)) (TT_2 (TT_t1 (List.mem_of_getElem? (i := 64) (by decide +kernel)) (by decide +kernel)) (TT_2 in_X0 (TT_2 (TT_t1 (List.mem_of_getElem? (i := 65) (by decide +kernel)) (by decide +kernel)) TT_0)))⟩
abbrev i_X0_owerOf : Ym := (yX0_owerOf, cX0_owerOf, 2, (some .int), 1)
theorem j_X0_owerOf : JV i_X0_owerOf 1 := ⟨⟨by decide +kernel, by decide +kernel, by decide +kernel⟩, TT_2 (TT_t1 (List.mem_of_getElem? (i := 68) (by decide +kernel)) (by decide +kernel)) (TT_2 (TT_t1 (List.mem_of_getElem? (i := 69) (by decide +kernel)) (by decide +kernel)) (TT_2 in_X0 (TT_2 (TT_t1 (List.mem_of_getElem? (i := 70) (by decide +kernel)) (by decide +kernel)) TT_0)))⟩
abbrev i_X0_creditorOf : Ym := (yX0_creditorOf, cX0_creditorOf, 2, (some .int), 1)
theorem j_X0_creditorOf : JV i_X0_creditorOf 1 := ⟨⟨by decide +kernel, by decide +kernel, by decide +kernel⟩, TT_2 (TT_t1 (List.mem_of_getElem? (i := 72) (by decide +kernel)) (by decide +kernel)) (TT_2 (TT_t1 (List.mem_of_getElem? (i := 73) (by decide +kernel)) (by decide +kernel)) (TT_2 in_X0 (TT_2 (TT_t1 (List.mem_of_getElem? (i := 74) (by decide +kernel)) (by decide +kernel)) TT_0)))⟩
abbrev i_X0_placeOf : Ym := (yX0_placeOf, cX0_placeOf, 2, (some .int), 1)
theorem j_X0_placeOf : JV i_X0_placeOf 1 := ⟨⟨by decide +kernel, by decide +kernel, by decide +kernel⟩, TT_2 (TT_t1 (List.mem_of_getElem? (i := 76) (by decide +kernel)) (by decide +kernel)) (TT_2 (TT_t1 (List.mem_of_getElem? (i := 77) (by decide +kernel)) (by decide +kernel)) (TT_2 in_X0 (TT_2 (TT_t1 (List.mem_of_getElem? (i := 78) (by decide +kernel)) (by decide +kernel)) TT_0)))⟩
abbrev i_X0_firstOf : Ym := (yX0_firstOf, cX0_firstOf, 2, (some .int), 1)
theorem j_X0_firstOf : JV i_X0_firstOf 1 := ⟨⟨by decide +kernel, by decide +kernel, by decide +kernel⟩, TT_2 (TT_t1 (List.mem_of_getElem? (i := 80) (by decide +kernel)) (by decide +kernel)) (TT_2 (TT_t1 (List.mem_of_getElem? (i := 81) (by decide +kernel)) (by decide +kernel)) (TT_2 in_X0 (TT_2 (TT_t1 (List.mem_of_getElem? (i := 82) (by decide +kernel)) (by decide +kernel)) TT_0)))⟩
abbrev i_X0_partOf : Ym := (yX0_partOf, cX0_partOf, 3, (some .int), 3)
theorem j_X0_partOf : JV i_X0_partOf 2 := ⟨⟨by decide +kernel, by decide +kernel, by decide +kernel⟩, TT_2 (TT_t1 (List.mem_of_getElem? (i := 59) (by decide +kernel)) (by decide +kernel)) (TT_2 (TT_t1 (List.mem_of_getElem? (i := 60) (by decide +kernel)) (by decide +kernel)) (TT_2 in_X0 (TT_2 (TT_t1 (List.mem_of_getElem? (i := 61) (by decide +kernel)) (by decide +kernel)) TT_0)))⟩
abbrev i_X0_howManyOf : Ym := (yX0_howManyOf, cX0_howManyOf, 4, (some .int), 2)
theorem j_X0_howManyOf : JV i_X0_howManyOf 1 := ⟨⟨by decide +kernel, by decide +kernel, by decide +kernel⟩, TT_2 (TT_t3 (List.mem_of_getElem? (i := 29) (by decide +kernel)) (by decide +kernel)) (TT_2 (TT_t3 (List.mem_of_getElem? (i := 30) (by decide +kernel)) (by decide +kernel)) (TT_2 in_X0 (TT_2 (TT_t3 (List.mem_of_getElem? (i := 31) (by decide +kernel)) (by decide +kernel)) TT_0)))⟩
abbrev i_X0_glowOf : Ym := (yX0_glowOf, cX0_glowOf, 3, (some .int), 2)
theorem j_X0_glowOf : JV i_X0_glowOf 2 := ⟨⟨by decide +kernel, by decide +kernel, by decide +kernel⟩, TT_2 (TT_t1 (List.mem_of_getElem? (i := 88) (by decide +kernel)) (by decide +kernel)) (TT_2 (TT_t1 (List.mem_of_getElem? (i := 89) (by decide +kernel)) (by decide +kernel)) (TT_2 in_X0 (TT_2 (TT_t1 (List.mem_of_getElem? (i := 90) (by decide +kernel)) (by decide +kernel)) TT_0)))⟩
abbrev i_X0_litGlow : Ym := (yX0_litGlow, cX0_litGlow, 3, (some .int), 3)
theorem j_X0_litGlow : JV i_X0_litGlow 0 := ⟨⟨by decide +kernel, by decide +kernel, by decide +kernel⟩, TT_2 (TT_t1 (List.mem_of_getElem? (i := 138) (by decide +kernel)) (by decide +kernel)) (TT_2 (TT_t1 (List.mem_of_getElem? (i := 139) (by decide +kernel)) (by decide +kernel)) (TT_2 in_X0 (TT_2 (TT_t1 (List.mem_of_getElem? (i := 140) (by decide +kernel)) (by decide +kernel)) TT_0)))⟩
abbrev i_X0_faded : Ym := (yX0_faded, cX0_faded, 3, (some .int), 1)
theorem j_X0_faded : JS i_X0_faded 3 := ⟨⟨by decide +kernel, by decide +kernel, by decide +kernel⟩, TT_2 (TT_t1 (List.mem_of_getElem? (i := 208) (by decide +kernel)) (by decide +kernel)) (TT_2 in_X0 (TT_2 (TT_t1 (List.mem_of_getElem? (i := 209) (by decide +kernel)) (by decide +kernel)) TT_0))⟩
abbrev i_X0_glowAt : Ym := (yX0_glowAt, cX0_glowAt, 4, (some .int), 3)
theorem j_X0_glowAt : JV i_X0_glowAt 3 := ⟨⟨by decide +kernel, by decide +kernel, by decide +kernel⟩, TT_2 (TT_t1 (List.mem_of_getElem? (i := 204) (by decide +kernel)) (by decide +kernel)) (TT_2 (TT_t1 (List.mem_of_getElem? (i := 205) (by decide +kernel)) (by decide +kernel)) (TT_2 in_X0 (TT_2 (TT_t1 (List.mem_of_getElem? (i := 206) (by decide +kernel)) (by decide +kernel)) TT_0)))⟩
abbrev i_X0_brightAt : Ym := (yX0_brightAt, cX0_brightAt, 5, (some .int), 4)
theorem j_X0_brightAt : JV i_X0_brightAt 2 := ⟨⟨by decide +kernel, by decide +kernel, by decide +kernel⟩, TT_2 (TT_t1 (List.mem_of_getElem? (i := 200) (by decide +kernel)) (by decide +kernel)) (TT_2 (TT_t1 (List.mem_of_getElem? (i := 201) (by decide +kernel)) (by decide +kernel)) (TT_2 in_X0 (TT_2 (TT_t1 (List.mem_of_getElem? (i := 202) (by decide +kernel)) (by decide +kernel)) TT_0)))⟩
abbrev i_X0_brightAlong : Ym := (yX0_brightAlong, cX0_brightAlong, 5, (some .int), 5)
theorem j_X0_brightAlong : JV i_X0_brightAlong 2 := ⟨⟨by decide +kernel, by decide +kernel, by decide +kernel⟩, TT_2 (TT_t1 (List.mem_of_getElem? (i := 222) (by decide +kernel)) (by decide +kernel)) (TT_2 (TT_t1 (List.mem_of_getElem? (i := 223) (by decide +kernel)) (by decide +kernel)) (TT_2 in_X0 (TT_2 (TT_t1 (List.mem_of_getElem? (i := 224) (by decide +kernel)) (by decide +kernel)) TT_0)))⟩
abbrev i_X0_shareAlong : Ym := (yX0_shareAlong, cX0_shareAlong, 8, (some .int), 3)
theorem j_X0_shareAlong : JV i_X0_shareAlong 4 := ⟨⟨by decide +kernel, by decide +kernel, by decide +kernel⟩, TT_2 (TT_t1 (List.mem_of_getElem? (i := 235) (by decide +kernel)) (by decide +kernel)) (TT_2 (TT_t1 (List.mem_of_getElem? (i := 236) (by decide +kernel)) (by decide +kernel)) (TT_2 in_X0 (TT_2 (TT_t1 (List.mem_of_getElem? (i := 237) (by decide +kernel)) (by decide +kernel)) TT_0)))⟩
abbrev i_X0_balanceOf : Ym := (yX0_balanceOf, cX0_balanceOf, 4, (some .int), 3)
theorem j_X0_balanceOf : JV i_X0_balanceOf 1 := ⟨⟨by decide +kernel, by decide +kernel, by decide +kernel⟩, TT_2 (TT_t2 (List.mem_of_getElem? (i := 26) (by decide +kernel)) (by decide +kernel)) (TT_2 (TT_t2 (List.mem_of_getElem? (i := 27) (by decide +kernel)) (by decide +kernel)) (TT_2 in_X0 (TT_2 (TT_t2 (List.mem_of_getElem? (i := 28) (by decide +kernel)) (by decide +kernel)) TT_0)))⟩
abbrev i_X0_passNight : Ym := (yX0_passNight, cX0_passNight, 1, none, 1)
theorem j_X0_passNight : JV i_X0_passNight 0 := ⟨⟨by decide +kernel, by decide +kernel, by decide +kernel⟩, TT_2 (TT_t1 (List.mem_of_getElem? (i := 130) (by decide +kernel)) (by decide +kernel)) (TT_2 (TT_t1 (List.mem_of_getElem? (i := 131) (by decide +kernel)) (by decide +kernel)) (TT_2 in_X0 (TT_2 (TT_t1 (List.mem_of_getElem? (i := 132) (by decide +kernel)) (by decide +kernel)) TT_0)))⟩
abbrev i_X0_putOut : Ym := (yX0_putOut, cX0_putOut, 2, none, 1)
theorem j_X0_putOut : JV i_X0_putOut 1 := ⟨⟨by decide +kernel, by decide +kernel, by decide +kernel⟩, TT_2 (TT_t1 (List.mem_of_getElem? (i := 147) (by decide +kernel)) (by decide +kernel)) (TT_2 (TT_t1 (List.mem_of_getElem? (i := 148) (by decide +kernel)) (by decide +kernel)) (TT_2 in_X0 (TT_2 (TT_t1 (List.mem_of_getElem? (i := 149) (by decide +kernel)) (by decide +kernel)) TT_0)))⟩
abbrev i_X0_lightAgain : Ym := (yX0_lightAgain, cX0_lightAgain, 2, none, 1)
theorem j_X0_lightAgain : JV i_X0_lightAgain 1 := ⟨⟨by decide +kernel, by decide +kernel, by decide +kernel⟩, TT_2 (TT_t1 (List.mem_of_getElem? (i := 155) (by decide +kernel)) (by decide +kernel)) (TT_2 (TT_t1 (List.mem_of_getElem? (i := 156) (by decide +kernel)) (by decide +kernel)) (TT_2 in_X0 (TT_2 (TT_t1 (List.mem_of_getElem? (i := 157) (by decide +kernel)) (by decide +kernel)) TT_0)))⟩
abbrev i_X0_carryTo : Ym := (yX0_carryTo, cX0_carryTo, 3, none, 1)
theorem j_X0_carryTo : JV i_X0_carryTo 2 := ⟨⟨by decide +kernel, by decide +kernel, by decide +kernel⟩, TT_2 (TT_t1 (List.mem_of_getElem? (i := 167) (by decide +kernel)) (by decide +kernel)) (TT_2 (TT_t1 (List.mem_of_getElem? (i := 168) (by decide +kernel)) (by decide +kernel)) (TT_2 in_X0 (TT_2 (TT_t1 (List.mem_of_getElem? (i := 169) (by decide +kernel)) (by decide +kernel)) TT_0)))⟩
abbrev i_X0_doByLot : Ym := (yX0_doByLot, cX0_doByLot, 4, none, 2)
theorem j_X0_doByLot : JV i_X0_doByLot 1 := ⟨⟨by decide +kernel, by decide +kernel, by decide +kernel⟩, TT_2 (TT_t3 (List.mem_of_getElem? (i := 1) (by decide +kernel)) (by decide +kernel)) (TT_2 (TT_t3 (List.mem_of_getElem? (i := 2) (by decide +kernel)) (by decide +kernel)) (TT_2 in_X0 (TT_2 (TT_t3 (List.mem_of_getElem? (i := 3) (by decide +kernel)) (by decide +kernel)) TT_0)))⟩
abbrev i_X0_write : Ym := (yX0_write, cX0_write, 4, none, 0)
theorem j_X0_write : JV i_X0_write 3 := ⟨⟨by decide +kernel, by decide +kernel, by decide +kernel⟩, TT_2 (TT_t1 (List.mem_of_getElem? (i := 135) (by decide +kernel)) (by decide +kernel)) (TT_2 (TT_pv (List.mem_of_getElem? (i := 7) (by decide +kernel)) (by decide +kernel)) (TT_2 in_X0 (TT_2 (TT_t1 (List.mem_of_getElem? (i := 136) (by decide +kernel)) (by decide +kernel)) TT_0)))⟩
abbrev i_X0_takeBackFrom : Ym := (yX0_takeBackFrom, cX0_takeBackFrom, 2, none, 2)
theorem j_X0_takeBackFrom : JV i_X0_takeBackFrom 1 := ⟨⟨by decide +kernel, by decide +kernel, by decide +kernel⟩, TT_2 (TT_t1 (List.mem_of_getElem? (i := 175) (by decide +kernel)) (by decide +kernel)) (TT_2 (TT_t1 (List.mem_of_getElem? (i := 176) (by decide +kernel)) (by decide +kernel)) (TT_2 in_X0 (TT_2 (TT_t1 (List.mem_of_getElem? (i := 177) (by decide +kernel)) (by decide +kernel)) TT_0)))⟩
abbrev i_X0_takeBack : Ym := (yX0_takeBack, cX0_takeBack, 3, none, 1)
theorem j_X0_takeBack : JV i_X0_takeBack 1 := ⟨⟨by decide +kernel, by decide +kernel, by decide +kernel⟩, TT_2 (TT_t1 (List.mem_of_getElem? (i := 180) (by decide +kernel)) (by decide +kernel)) (TT_2 (TT_pv (List.mem_of_getElem? (i := 8) (by decide +kernel)) (by decide +kernel)) (TT_2 in_X0 (TT_2 (TT_t1 (List.mem_of_getElem? (i := 181) (by decide +kernel)) (by decide +kernel)) TT_0)))⟩
abbrev i_X1_shortest : Ym := (yX1_shortest, cX1_shortest, 7, (some .int), 3)
theorem j_X1_shortest : JV i_X1_shortest 3 := ⟨⟨by decide +kernel, by decide +kernel, by decide +kernel⟩, TT_2 (TT_t2 (List.mem_of_getElem? (i := 89) (by decide +kernel)) (by decide +kernel)) (TT_2 (TT_t2 (List.mem_of_getElem? (i := 90) (by decide +kernel)) (by decide +kernel)) (TT_2 in_X1 (TT_2 (TT_t2 (List.mem_of_getElem? (i := 91) (by decide +kernel)) (by decide +kernel)) TT_0)))⟩
abbrev i_X1_stepsOf : Ym := (yX1_stepsOf, cX1_stepsOf, 2, (some .int), 1)
theorem j_X1_stepsOf : JV i_X1_stepsOf 1 := ⟨⟨by decide +kernel, by decide +kernel, by decide +kernel⟩, TT_2 (TT_t2 (List.mem_of_getElem? (i := 99) (by decide +kernel)) (by decide +kernel)) (TT_2 (TT_pv (List.mem_of_getElem? (i := 11) (by decide +kernel)) (by decide +kernel)) (TT_2 in_X1 (TT_2 (TT_t2 (List.mem_of_getElem? (i := 100) (by decide +kernel)) (by decide +kernel)) TT_0)))⟩
abbrev i_X1_write : Ym := (yX1_write, cX1_write, 7, none, 4)
theorem j_X1_write : JV i_X1_write 3 := ⟨⟨by decide +kernel, by decide +kernel, by decide +kernel⟩, TT_2 (TT_t2 (List.mem_of_getElem? (i := 102) (by decide +kernel)) (by decide +kernel)) (TT_2 (TT_t2 (List.mem_of_getElem? (i := 103) (by decide +kernel)) (by decide +kernel)) (TT_2 in_X1 (TT_2 (TT_t2 (List.mem_of_getElem? (i := 104) (by decide +kernel)) (by decide +kernel)) TT_0)))⟩
abbrev i_X1_lowestNearer : Ym := (yX1_lowestNearer, cX1_lowestNearer, 4, (some .int), 3)
theorem j_X1_lowestNearer : JV i_X1_lowestNearer 2 := ⟨⟨by decide +kernel, by decide +kernel, by decide +kernel⟩, TT_2 (TT_t2 (List.mem_of_getElem? (i := 109) (by decide +kernel)) (by decide +kernel)) (TT_2 (TT_pv (List.mem_of_getElem? (i := 12) (by decide +kernel)) (by decide +kernel)) (TT_2 in_X1 (TT_2 (TT_t2 (List.mem_of_getElem? (i := 110) (by decide +kernel)) (by decide +kernel)) TT_0)))⟩
abbrev i_X2_ofLetter : Ym := (yX2_ofLetter, cX2_ofLetter, 2, (some .int), 0)
theorem j_X2_ofLetter : JS i_X2_ofLetter 1 := ⟨⟨by decide +kernel, by decide +kernel, by decide +kernel⟩, TT_2 (TT_t1 (List.mem_of_getElem? (i := 16) (by decide +kernel)) (by decide +kernel)) (TT_2 in_X2 (TT_2 (TT_t1 (List.mem_of_getElem? (i := 17) (by decide +kernel)) (by decide +kernel)) TT_0))⟩
abbrev i_X2_parentOf : Ym := (yX2_parentOf, cX2_parentOf, 1, (some .int), 0)
theorem j_X2_parentOf : JS i_X2_parentOf 1 := ⟨⟨by decide +kernel, by decide +kernel, by decide +kernel⟩, TT_2 (TT_t1 (List.mem_of_getElem? (i := 105) (by decide +kernel)) (by decide +kernel)) (TT_2 in_X2 (TT_2 (TT_t1 (List.mem_of_getElem? (i := 106) (by decide +kernel)) (by decide +kernel)) TT_0))⟩
abbrev i_X2_isOf : Ym := (yX2_isOf, cX2_isOf, 2, (some .boolean), 1)
theorem j_X2_isOf : JS i_X2_isOf 2 := ⟨⟨by decide +kernel, by decide +kernel, by decide +kernel⟩, TT_2 (TT_t1 (List.mem_of_getElem? (i := 102) (by decide +kernel)) (by decide +kernel)) (TT_2 in_X2 (TT_2 (TT_t1 (List.mem_of_getElem? (i := 103) (by decide +kernel)) (by decide +kernel)) TT_0))⟩
abbrev i_X2_glow : Ym := (yX2_glow, cX2_glow, 5, (some .int), 1)
theorem j_X2_glow : JS i_X2_glow 3 := ⟨⟨by decide +kernel, by decide +kernel, by decide +kernel⟩, TT_2 (TT_t1 (List.mem_of_getElem? (i := 92) (by decide +kernel)) (by decide +kernel)) (TT_2 in_X2 (TT_2 (TT_t1 (List.mem_of_getElem? (i := 93) (by decide +kernel)) (by decide +kernel)) TT_0))⟩
abbrev i_X2_signOf : Ym := (yX2_signOf, cX2_signOf, 5, (some .int), 2)
theorem j_X2_signOf : JS i_X2_signOf 4 := ⟨⟨by decide +kernel, by decide +kernel, by decide +kernel⟩, TT_2 (TT_t1 (List.mem_of_getElem? (i := 113) (by decide +kernel)) (by decide +kernel)) (TT_2 in_X2 (TT_2 (TT_t1 (List.mem_of_getElem? (i := 114) (by decide +kernel)) (by decide +kernel)) TT_0))⟩
abbrev i_X3_arePairs : Ym := (yX3_arePairs, cX3_arePairs, 2, (some .boolean), 2)
theorem j_X3_arePairs : JS i_X3_arePairs 1 := ⟨⟨by decide +kernel, by decide +kernel, by decide +kernel⟩, TT_2 (TT_t2 (List.mem_of_getElem? (i := 141) (by decide +kernel)) (by decide +kernel)) (TT_2 in_X3 (TT_2 (TT_t2 (List.mem_of_getElem? (i := 142) (by decide +kernel)) (by decide +kernel)) TT_0))⟩
abbrev i_X3_areTold : Ym := (yX3_areTold, cX3_areTold, 2, (some .boolean), 2)
theorem j_X3_areTold : JS i_X3_areTold 1 := ⟨⟨by decide +kernel, by decide +kernel, by decide +kernel⟩, TT_2 (TT_t2 (List.mem_of_getElem? (i := 179) (by decide +kernel)) (by decide +kernel)) (TT_2 in_X3 (TT_2 (TT_t2 (List.mem_of_getElem? (i := 180) (by decide +kernel)) (by decide +kernel)) TT_0))⟩
abbrev i_X3_fit : Ym := (yX3_fit, cX3_fit, 4, (some .boolean), 2)
theorem j_X3_fit : JS i_X3_fit 3 := ⟨⟨by decide +kernel, by decide +kernel, by decide +kernel⟩, TT_2 (TT_t2 (List.mem_of_getElem? (i := 149) (by decide +kernel)) (by decide +kernel)) (TT_2 in_X3 (TT_2 (TT_t2 (List.mem_of_getElem? (i := 150) (by decide +kernel)) (by decide +kernel)) TT_0))⟩
abbrev i_X3_fittingFirsts : Ym := (yX3_fittingFirsts, cX3_fittingFirsts, 4, (some .int), 3)
theorem j_X3_fittingFirsts : JS i_X3_fittingFirsts 2 := ⟨⟨by decide +kernel, by decide +kernel, by decide +kernel⟩, TT_2 (TT_t2 (List.mem_of_getElem? (i := 146) (by decide +kernel)) (by decide +kernel)) (TT_2 in_X3 (TT_2 (TT_t2 (List.mem_of_getElem? (i := 147) (by decide +kernel)) (by decide +kernel)) TT_0))⟩
abbrev i_X3_fittingKinds : Ym := (yX3_fittingKinds, cX3_fittingKinds, 4, (some .int), 3)
theorem j_X3_fittingKinds : JS i_X3_fittingKinds 2 := ⟨⟨by decide +kernel, by decide +kernel, by decide +kernel⟩, TT_2 (TT_t2 (List.mem_of_getElem? (i := 157) (by decide +kernel)) (by decide +kernel)) (TT_2 in_X3 (TT_2 (TT_t2 (List.mem_of_getElem? (i := 158) (by decide +kernel)) (by decide +kernel)) TT_0))⟩
abbrev i_X3_tellingNight : Ym := (yX3_tellingNight, cX3_tellingNight, 6, (some .int), 4)
theorem j_X3_tellingNight : JS i_X3_tellingNight 2 := ⟨⟨by decide +kernel, by decide +kernel, by decide +kernel⟩, TT_2 (TT_t2 (List.mem_of_getElem? (i := 164) (by decide +kernel)) (by decide +kernel)) (TT_2 in_X3 (TT_2 (TT_t2 (List.mem_of_getElem? (i := 165) (by decide +kernel)) (by decide +kernel)) TT_0))⟩
abbrev i_X3_largestPart : Ym := (yX3_largestPart, cX3_largestPart, 5, (some .int), 3)
theorem j_X3_largestPart : JS i_X3_largestPart 3 := ⟨⟨by decide +kernel, by decide +kernel, by decide +kernel⟩, TT_2 (TT_t2 (List.mem_of_getElem? (i := 167) (by decide +kernel)) (by decide +kernel)) (TT_2 in_X3 (TT_2 (TT_t2 (List.mem_of_getElem? (i := 168) (by decide +kernel)) (by decide +kernel)) TT_0))⟩
abbrev i_X3_howManyGlow : Ym := (yX3_howManyGlow, cX3_howManyGlow, 6, (some .int), 2)
theorem j_X3_howManyGlow : JS i_X3_howManyGlow 4 := ⟨⟨by decide +kernel, by decide +kernel, by decide +kernel⟩, TT_2 (TT_t2 (List.mem_of_getElem? (i := 170) (by decide +kernel)) (by decide +kernel)) (TT_2 in_X3 (TT_2 (TT_t2 (List.mem_of_getElem? (i := 171) (by decide +kernel)) (by decide +kernel)) TT_0))⟩
abbrev i_X3_fittingOwers : Ym := (yX3_fittingOwers, cX3_fittingOwers, 5, (some .int), 5)
theorem j_X3_fittingOwers : JS i_X3_fittingOwers 3 := ⟨⟨by decide +kernel, by decide +kernel, by decide +kernel⟩, TT_2 (TT_t2 (List.mem_of_getElem? (i := 182) (by decide +kernel)) (by decide +kernel)) (TT_2 in_X3 (TT_2 (TT_t2 (List.mem_of_getElem? (i := 183) (by decide +kernel)) (by decide +kernel)) TT_0))⟩
abbrev i_X3_fitsOwer : Ym := (yX3_fitsOwer, cX3_fitsOwer, 7, (some .boolean), 4)
theorem j_X3_fitsOwer : JS i_X3_fitsOwer 4 := ⟨⟨by decide +kernel, by decide +kernel, by decide +kernel⟩, TT_2 (TT_t2 (List.mem_of_getElem? (i := 186) (by decide +kernel)) (by decide +kernel)) (TT_2 in_X3 (TT_2 (TT_t2 (List.mem_of_getElem? (i := 187) (by decide +kernel)) (by decide +kernel)) TT_0))⟩
abbrev i_X4_setsOf : Ym := (yX4_setsOf, cX4_setsOf, 1, (some .int), 1)
theorem j_X4_setsOf : JS i_X4_setsOf 1 := ⟨⟨by decide +kernel, by decide +kernel, by decide +kernel⟩, TT_2 (TT_t2 (List.mem_of_getElem? (i := 54) (by decide +kernel)) (by decide +kernel)) (TT_2 in_X4 (TT_2 (TT_t2 (List.mem_of_getElem? (i := 55) (by decide +kernel)) (by decide +kernel)) TT_0))⟩
abbrev i_X4_isWithin : Ym := (yX4_isWithin, cX4_isWithin, 2, (some .boolean), 0)
theorem j_X4_isWithin : JS i_X4_isWithin 2 := ⟨⟨by decide +kernel, by decide +kernel, by decide +kernel⟩, TT_2 (TT_t2 (List.mem_of_getElem? (i := 59) (by decide +kernel)) (by decide +kernel)) (TT_2 in_X4 (TT_2 (TT_t2 (List.mem_of_getElem? (i := 60) (by decide +kernel)) (by decide +kernel)) TT_0))⟩
abbrev i_X4_sumUp : Ym := (yX4_sumUp, cX4_sumUp, 4, none, 0)
theorem j_X4_sumUp : JV i_X4_sumUp 0 := ⟨⟨by decide +kernel, by decide +kernel, by decide +kernel⟩, TT_2 (TT_t2 (List.mem_of_getElem? (i := 51) (by decide +kernel)) (by decide +kernel)) (TT_2 (TT_pv (List.mem_of_getElem? (i := 10) (by decide +kernel)) (by decide +kernel)) (TT_2 in_X4 (TT_2 (TT_t2 (List.mem_of_getElem? (i := 52) (by decide +kernel)) (by decide +kernel)) TT_0)))⟩
abbrev i_X4_sumGlow : Ym := (yX4_sumGlow, cX4_sumGlow, 4, none, 4)
theorem j_X4_sumGlow : JV i_X4_sumGlow 2 := ⟨⟨by decide +kernel, by decide +kernel, by decide +kernel⟩, TT_2 (TT_t2 (List.mem_of_getElem? (i := 122) (by decide +kernel)) (by decide +kernel)) (TT_2 (TT_pv (List.mem_of_getElem? (i := 13) (by decide +kernel)) (by decide +kernel)) (TT_2 in_X4 (TT_2 (TT_t2 (List.mem_of_getElem? (i := 123) (by decide +kernel)) (by decide +kernel)) TT_0)))⟩
abbrev i_X4_sumDebts : Ym := (yX4_sumDebts, cX4_sumDebts, 4, (some .int), 3)
theorem j_X4_sumDebts : JV i_X4_sumDebts 1 := ⟨⟨by decide +kernel, by decide +kernel, by decide +kernel⟩, TT_2 (TT_t2 (List.mem_of_getElem? (i := 44) (by decide +kernel)) (by decide +kernel)) (TT_2 (TT_pv (List.mem_of_getElem? (i := 9) (by decide +kernel)) (by decide +kernel)) (TT_2 in_X4 (TT_2 (TT_t2 (List.mem_of_getElem? (i := 45) (by decide +kernel)) (by decide +kernel)) TT_0)))⟩
abbrev i_X4_largestRing : Ym := (yX4_largestRing, cX4_largestRing, 5, (some .int), 4)
theorem j_X4_largestRing : JV i_X4_largestRing 1 := ⟨⟨by decide +kernel, by decide +kernel, by decide +kernel⟩, TT_2 (TT_t2 (List.mem_of_getElem? (i := 39) (by decide +kernel)) (by decide +kernel)) (TT_2 (TT_t2 (List.mem_of_getElem? (i := 40) (by decide +kernel)) (by decide +kernel)) (TT_2 in_X4 (TT_2 (TT_t2 (List.mem_of_getElem? (i := 41) (by decide +kernel)) (by decide +kernel)) TT_0)))⟩
abbrev i_X4_ringsWith : Ym := (yX4_ringsWith, cX4_ringsWith, 6, (some .int), 4)
theorem j_X4_ringsWith : JV i_X4_ringsWith 2 := ⟨⟨by decide +kernel, by decide +kernel, by decide +kernel⟩, TT_2 (TT_t2 (List.mem_of_getElem? (i := 73) (by decide +kernel)) (by decide +kernel)) (TT_2 (TT_t2 (List.mem_of_getElem? (i := 74) (by decide +kernel)) (by decide +kernel)) (TT_2 in_X4 (TT_2 (TT_t2 (List.mem_of_getElem? (i := 75) (by decide +kernel)) (by decide +kernel)) TT_0)))⟩
abbrev i_X4_smallestRingWith : Ym := (yX4_smallestRingWith, cX4_smallestRingWith, 7, (some .int), 4)
theorem j_X4_smallestRingWith : JV i_X4_smallestRingWith 2 := ⟨⟨by decide +kernel, by decide +kernel, by decide +kernel⟩, TT_2 (TT_t2 (List.mem_of_getElem? (i := 81) (by decide +kernel)) (by decide +kernel)) (TT_2 (TT_t2 (List.mem_of_getElem? (i := 82) (by decide +kernel)) (by decide +kernel)) (TT_2 in_X4 (TT_2 (TT_t2 (List.mem_of_getElem? (i := 83) (by decide +kernel)) (by decide +kernel)) TT_0)))⟩
abbrev i_X4_fewestToAnswer : Ym := (yX4_fewestToAnswer, cX4_fewestToAnswer, 9, (some .int), 5)
theorem j_X4_fewestToAnswer : JV i_X4_fewestToAnswer 3 := ⟨⟨by decide +kernel, by decide +kernel, by decide +kernel⟩, TT_2 (TT_t2 (List.mem_of_getElem? (i := 117) (by decide +kernel)) (by decide +kernel)) (TT_2 (TT_t2 (List.mem_of_getElem? (i := 118) (by decide +kernel)) (by decide +kernel)) (TT_2 in_X4 (TT_2 (TT_t2 (List.mem_of_getElem? (i := 119) (by decide +kernel)) (by decide +kernel)) TT_0)))⟩
abbrev i_X4_afterTurns : Ym := (yX4_afterTurns, cX4_afterTurns, 7, (some .int), 5)
theorem j_X4_afterTurns : JV i_X4_afterTurns 3 := ⟨⟨by decide +kernel, by decide +kernel, by decide +kernel⟩, TT_2 (TT_t2 (List.mem_of_getElem? (i := 196) (by decide +kernel)) (by decide +kernel)) (TT_2 (TT_t2 (List.mem_of_getElem? (i := 197) (by decide +kernel)) (by decide +kernel)) (TT_2 in_X4 (TT_2 (TT_t2 (List.mem_of_getElem? (i := 198) (by decide +kernel)) (by decide +kernel)) TT_0)))⟩
abbrev i_X4_letOneAnswer : Ym := (yX4_letOneAnswer, cX4_letOneAnswer, 6, none, 1)
theorem j_X4_letOneAnswer : JV i_X4_letOneAnswer 3 := ⟨⟨by decide +kernel, by decide +kernel, by decide +kernel⟩, TT_2 (TT_t2 (List.mem_of_getElem? (i := 201) (by decide +kernel)) (by decide +kernel)) (TT_2 (TT_pv (List.mem_of_getElem? (i := 15) (by decide +kernel)) (by decide +kernel)) (TT_2 in_X4 (TT_2 (TT_t2 (List.mem_of_getElem? (i := 202) (by decide +kernel)) (by decide +kernel)) TT_0)))⟩
abbrev i_X4_letOneLight : Ym := (yX4_letOneLight, cX4_letOneLight, 6, none, 1)
theorem j_X4_letOneLight : JV i_X4_letOneLight 3 := ⟨⟨by decide +kernel, by decide +kernel, by decide +kernel⟩, TT_2 (TT_t2 (List.mem_of_getElem? (i := 205) (by decide +kernel)) (by decide +kernel)) (TT_2 (TT_pv (List.mem_of_getElem? (i := 16) (by decide +kernel)) (by decide +kernel)) (TT_2 in_X4 (TT_2 (TT_t2 (List.mem_of_getElem? (i := 206) (by decide +kernel)) (by decide +kernel)) TT_0)))⟩
abbrev i_X4_waysToBeDark : Ym := (yX4_waysToBeDark, cX4_waysToBeDark, 10, (some .long), 5)
theorem j_X4_waysToBeDark : JV i_X4_waysToBeDark 4 := ⟨⟨by decide +kernel, by decide +kernel, by decide +kernel⟩, TT_2 (TT_t2 (List.mem_of_getElem? (i := 213) (by decide +kernel)) (by decide +kernel)) (TT_2 (TT_t2 (List.mem_of_getElem? (i := 214) (by decide +kernel)) (by decide +kernel)) (TT_2 in_X4 (TT_2 (TT_t2 (List.mem_of_getElem? (i := 215) (by decide +kernel)) (by decide +kernel)) TT_0)))⟩
abbrev i_X4_power : Ym := (yX4_power, cX4_power, 5, (some .long), 0)
theorem j_X4_power : JS i_X4_power 2 := ⟨⟨by decide +kernel, by decide +kernel, by decide +kernel⟩, TT_2 (TT_t2 (List.mem_of_getElem? (i := 217) (by decide +kernel)) (by decide +kernel)) (TT_2 in_X4 (TT_2 (TT_t2 (List.mem_of_getElem? (i := 218) (by decide +kernel)) (by decide +kernel)) TT_0))⟩
abbrev i_X5_room : Ym := (yX5_room, cX5_room, 1, (some .int), 0)
theorem j_X5_room : JV i_X5_room 0 := ⟨⟨by decide +kernel, by decide +kernel, by decide +kernel⟩, TT_2 (TT_t0 (List.mem_of_getElem? (i := 148) (by decide +kernel)) (by decide +kernel)) (TT_2 (TT_t0 (List.mem_of_getElem? (i := 149) (by decide +kernel)) (by decide +kernel)) (TT_2 in_X5 (TT_2 (TT_t0 (List.mem_of_getElem? (i := 150) (by decide +kernel)) (by decide +kernel)) TT_0)))⟩
abbrev i_X5_size : Ym := (yX5_size, cX5_size, 1, (some .int), 0)
theorem j_X5_size : JV i_X5_size 0 := ⟨⟨by decide +kernel, by decide +kernel, by decide +kernel⟩, TT_2 (TT_t0 (List.mem_of_getElem? (i := 224) (by decide +kernel)) (by decide +kernel)) (TT_2 (TT_t0 (List.mem_of_getElem? (i := 225) (by decide +kernel)) (by decide +kernel)) (TT_2 in_X5 (TT_2 (TT_t0 (List.mem_of_getElem? (i := 226) (by decide +kernel)) (by decide +kernel)) TT_0)))⟩
abbrev i_X5_isMissing : Ym := (yX5_isMissing, cX5_isMissing, 1, (some .boolean), 0)
theorem j_X5_isMissing : JV i_X5_isMissing 0 := ⟨⟨by decide +kernel, by decide +kernel, by decide +kernel⟩, TT_2 (TT_t0 (List.mem_of_getElem? (i := 175) (by decide +kernel)) (by decide +kernel)) (TT_2 (TT_t0 (List.mem_of_getElem? (i := 176) (by decide +kernel)) (by decide +kernel)) (TT_2 in_X5 (TT_2 (TT_t0 (List.mem_of_getElem? (i := 177) (by decide +kernel)) (by decide +kernel)) TT_0)))⟩
abbrev i_X5_remove : Ym := (yX5_remove, cX5_remove, 1, none, 0)
theorem j_X5_remove : JV i_X5_remove 0 := ⟨⟨by decide +kernel, by decide +kernel, by decide +kernel⟩, TT_2 (TT_t0 (List.mem_of_getElem? (i := 200) (by decide +kernel)) (by decide +kernel)) (TT_2 (TT_t0 (List.mem_of_getElem? (i := 201) (by decide +kernel)) (by decide +kernel)) (TT_2 in_X5 (TT_2 (TT_t0 (List.mem_of_getElem? (i := 202) (by decide +kernel)) (by decide +kernel)) TT_0)))⟩
abbrev i_X5_renew : Ym := (yX5_renew, cX5_renew, 4, none, 1)
theorem j_X5_renew : JV i_X5_renew 2 := ⟨⟨by decide +kernel, by decide +kernel, by decide +kernel⟩, TT_2 (TT_t0 (List.mem_of_getElem? (i := 156) (by decide +kernel)) (by decide +kernel)) (TT_2 (TT_t0 (List.mem_of_getElem? (i := 157) (by decide +kernel)) (by decide +kernel)) (TT_2 in_X5 (TT_2 (TT_t0 (List.mem_of_getElem? (i := 158) (by decide +kernel)) (by decide +kernel)) TT_0)))⟩
abbrev i_X5_holds : Ym := (yX5_holds, cX5_holds, 2, (some .boolean), 0)
theorem j_X5_holds : JV i_X5_holds 1 := ⟨⟨by decide +kernel, by decide +kernel, by decide +kernel⟩, TT_2 (TT_t0 (List.mem_of_getElem? (i := 179) (by decide +kernel)) (by decide +kernel)) (TT_2 (TT_t0 (List.mem_of_getElem? (i := 180) (by decide +kernel)) (by decide +kernel)) (TT_2 in_X5 (TT_2 (TT_t0 (List.mem_of_getElem? (i := 181) (by decide +kernel)) (by decide +kernel)) TT_0)))⟩
abbrev i_X5_get : Ym := (yX5_get, cX5_get, 2, (some .int), 1)
theorem j_X5_get : JV i_X5_get 1 := ⟨⟨by decide +kernel, by decide +kernel, by decide +kernel⟩, TT_2 (TT_t0 (List.mem_of_getElem? (i := 183) (by decide +kernel)) (by decide +kernel)) (TT_2 (TT_t0 (List.mem_of_getElem? (i := 184) (by decide +kernel)) (by decide +kernel)) (TT_2 in_X5 (TT_2 (TT_t0 (List.mem_of_getElem? (i := 185) (by decide +kernel)) (by decide +kernel)) TT_0)))⟩
abbrev i_X5_set : Ym := (yX5_set, cX5_set, 3, none, 1)
theorem j_X5_set : JV i_X5_set 2 := ⟨⟨by decide +kernel, by decide +kernel, by decide +kernel⟩, TT_2 (TT_t0 (List.mem_of_getElem? (i := 188) (by decide +kernel)) (by decide +kernel)) (TT_2 (TT_t0 (List.mem_of_getElem? (i := 189) (by decide +kernel)) (by decide +kernel)) (TT_2 in_X5 (TT_2 (TT_t0 (List.mem_of_getElem? (i := 190) (by decide +kernel)) (by decide +kernel)) TT_0)))⟩
abbrev i_X5_holdsRun : Ym := (yX5_holdsRun, cX5_holdsRun, 3, (some .boolean), 0)
theorem j_X5_holdsRun : JV i_X5_holdsRun 2 := ⟨⟨by decide +kernel, by decide +kernel, by decide +kernel⟩, TT_2 (TT_t0 (List.mem_of_getElem? (i := 208) (by decide +kernel)) (by decide +kernel)) (TT_2 (TT_t0 (List.mem_of_getElem? (i := 209) (by decide +kernel)) (by decide +kernel)) (TT_2 in_X5 (TT_2 (TT_t0 (List.mem_of_getElem? (i := 210) (by decide +kernel)) (by decide +kernel)) TT_0)))⟩
abbrev i_X5_takeRun : Ym := (yX5_takeRun, cX5_takeRun, 5, none, 1)
theorem j_X5_takeRun : JV i_X5_takeRun 4 := ⟨⟨by decide +kernel, by decide +kernel, by decide +kernel⟩, TT_2 (TT_t0 (List.mem_of_getElem? (i := 212) (by decide +kernel)) (by decide +kernel)) (TT_2 (TT_t0 (List.mem_of_getElem? (i := 213) (by decide +kernel)) (by decide +kernel)) (TT_2 in_X5 (TT_2 (TT_t0 (List.mem_of_getElem? (i := 214) (by decide +kernel)) (by decide +kernel)) TT_0)))⟩
abbrev i_X5_total : Ym := (yX5_total, cX5_total, 4, (some .long), 0)
theorem j_X5_total : JV i_X5_total 0 := ⟨⟨by decide +kernel, by decide +kernel, by decide +kernel⟩, TT_2 (TT_t0 (List.mem_of_getElem? (i := 228) (by decide +kernel)) (by decide +kernel)) (TT_2 (TT_t0 (List.mem_of_getElem? (i := 229) (by decide +kernel)) (by decide +kernel)) (TT_2 in_X5 (TT_2 (TT_t0 (List.mem_of_getElem? (i := 230) (by decide +kernel)) (by decide +kernel)) TT_0)))⟩
abbrev i_X6_darkest : Ym := (yX6_darkest, cX6_darkest, 7, (some .int), 5)
theorem j_X6_darkest : JS i_X6_darkest 1 := ⟨⟨by decide +kernel, by decide +kernel, by decide +kernel⟩, TT_2 (TT_t2 (List.mem_of_getElem? (i := 7) (by decide +kernel)) (by decide +kernel)) (TT_2 in_X6 (TT_2 (TT_t2 (List.mem_of_getElem? (i := 8) (by decide +kernel)) (by decide +kernel)) TT_0))⟩
abbrev i_X6_brightness : Ym := (yX6_brightness, cX6_brightness, 1, (some .int), 0)
theorem j_X6_brightness : JS i_X6_brightness 1 := ⟨⟨by decide +kernel, by decide +kernel, by decide +kernel⟩, TT_2 (TT_t2 (List.mem_of_getElem? (i := 16) (by decide +kernel)) (by decide +kernel)) (TT_2 in_X6 (TT_2 (TT_t2 (List.mem_of_getElem? (i := 17) (by decide +kernel)) (by decide +kernel)) TT_0))⟩
abbrev i_X6_placesOnRoad : Ym := (yX6_placesOnRoad, cX6_placesOnRoad, 1, (some .int), 0)
theorem j_X6_placesOnRoad : JS i_X6_placesOnRoad 1 := ⟨⟨by decide +kernel, by decide +kernel, by decide +kernel⟩, TT_2 (TT_t2 (List.mem_of_getElem? (i := 13) (by decide +kernel)) (by decide +kernel)) (TT_2 in_X6 (TT_2 (TT_t2 (List.mem_of_getElem? (i := 14) (by decide +kernel)) (by decide +kernel)) TT_0))⟩
abbrev i_X7_firstFault : Ym := (yX7_firstFault, cX7_firstFault, 4, (some .int), 5)
theorem j_X7_firstFault : JS i_X7_firstFault 1 := ⟨⟨by decide +kernel, by decide +kernel, by decide +kernel⟩, TT_2 (TT_t1 (List.mem_of_getElem? (i := 8) (by decide +kernel)) (by decide +kernel)) (TT_2 in_X7 (TT_2 (TT_t1 (List.mem_of_getElem? (i := 9) (by decide +kernel)) (by decide +kernel)) TT_0))⟩
abbrev i_X7_itemFault : Ym := (yX7_itemFault, cX7_itemFault, 3, (some .int), 4)
theorem j_X7_itemFault : JS i_X7_itemFault 2 := ⟨⟨by decide +kernel, by decide +kernel, by decide +kernel⟩, TT_2 (TT_t1 (List.mem_of_getElem? (i := 13) (by decide +kernel)) (by decide +kernel)) (TT_2 in_X7 (TT_2 (TT_t1 (List.mem_of_getElem? (i := 14) (by decide +kernel)) (by decide +kernel)) TT_0))⟩
abbrev i_X7_isFigureOf : Ym := (yX7_isFigureOf, cX7_isFigureOf, 6, (some .boolean), 3)
theorem j_X7_isFigureOf : JS i_X7_isFigureOf 3 := ⟨⟨by decide +kernel, by decide +kernel, by decide +kernel⟩, TT_2 (TT_t1 (List.mem_of_getElem? (i := 21) (by decide +kernel)) (by decide +kernel)) (TT_2 in_X7 (TT_2 (TT_t1 (List.mem_of_getElem? (i := 22) (by decide +kernel)) (by decide +kernel)) TT_0))⟩
abbrev i_X7_figureAt : Ym := (yX7_figureAt, cX7_figureAt, 2, (some .int), 2)
theorem j_X7_figureAt : JS i_X7_figureAt 2 := ⟨⟨by decide +kernel, by decide +kernel, by decide +kernel⟩, TT_2 (TT_t1 (List.mem_of_getElem? (i := 24) (by decide +kernel)) (by decide +kernel)) (TT_2 in_X7 (TT_2 (TT_t1 (List.mem_of_getElem? (i := 25) (by decide +kernel)) (by decide +kernel)) TT_0))⟩
abbrev i_X7_readInto : Ym := (yX7_readInto, cX7_readInto, 3, none, 3)
theorem j_X7_readInto : JS i_X7_readInto 2 := ⟨⟨by decide +kernel, by decide +kernel, by decide +kernel⟩, TT_2 (TT_t1 (List.mem_of_getElem? (i := 31) (by decide +kernel)) (by decide +kernel)) (TT_2 in_X7 (TT_2 (TT_t1 (List.mem_of_getElem? (i := 32) (by decide +kernel)) (by decide +kernel)) TT_0))⟩
abbrev i_J6_bitCount : Ym := (yJ6_bitCount_0f7a4, cJ6_bitCount_0f7a4, 1, some .int, 0)
theorem j_J6_bitCount : JS i_J6_bitCount 1 := ⟨⟨by decide +kernel, by decide +kernel, by decide +kernel⟩, TT_2 (TT_t2 (List.mem_of_getElem? (i := 62) (by decide +kernel)) (by decide +kernel)) (TT_2 in_J6 (TT_2 (TT_t2 (List.mem_of_getElem? (i := 63) (by decide +kernel)) (by decide +kernel)) TT_0))⟩
theorem lw_max_s : Cond.static Lib.Math.max.name ∈ TT := TT_t0 (List.mem_of_getElem? (i := 92) (by decide +kernel)) (by decide +kernel)
theorem lw_max_c : Cond.code Lib.Math.max.name Lib.Math.max.code 2 (some .int) ∈ TT := TT_t0 (List.mem_of_getElem? (i := 93) (by decide +kernel)) (by decide +kernel)
theorem lw_min_s : Cond.static Lib.Math.min.name ∈ TT := TT_t0 (List.mem_of_getElem? (i := 160) (by decide +kernel)) (by decide +kernel)
theorem lw_min_c : Cond.code Lib.Math.min.name Lib.Math.min.code 2 (some .int) ∈ TT := TT_t0 (List.mem_of_getElem? (i := 161) (by decide +kernel)) (by decide +kernel)
theorem lw_abs_s : Cond.static Lib.Math.abs.name ∈ TT := TT_t1 (List.mem_of_getElem? (i := 211) (by decide +kernel)) (by decide +kernel)
theorem lw_abs_c : Cond.code Lib.Math.abs.name Lib.Math.abs.code 1 (some .int) ∈ TT := TT_t1 (List.mem_of_getElem? (i := 212) (by decide +kernel)) (by decide +kernel)
theorem lw_copy_n : Cond.native arraycopyName ∈ TT := TT_t0 (List.mem_of_getElem? (i := 218) (by decide +kernel)) (by decide +kernel)
theorem lw_copy_s : Cond.static arraycopyName ∈ TT := TT_t0 (List.mem_of_getElem? (i := 217) (by decide +kernel)) (by decide +kernel)
end
section
/-! THE MACHINE LAYER: a state St (numbers by cell and field, longs, rows), its world wd, contracts CT, the judgement G at a point of a method's walk, a rule an instruction. -/
abbrev St : Type := (Nat → Nat → Int32) × (Nat → Nat → Int64) × (Nat → Nat → Int32)
def gI (S : St) (k j : Nat) : Int32 := S.1 k j
def gL (S : St) (k j : Nat) : Int64 := S.2.1 k j
def gA (S : St) (k : Nat) : Nat → Int32 := S.2.2 k
def sI (S : St) (k j : Nat) (v : Int32) : St := (fun a b => if a = k ∧ b = j then v else S.1 a b, S.2.1, S.2.2)
def sL (S : St) (k j : Nat) (v : Int64) : St := (S.1, fun a b => if a = k ∧ b = j then v else S.2.1 a b, S.2.2)
def sA (S : St) (k : Nat) (f : Nat → Int32) : St := (S.1, S.2.1, fun a => if a = k then f else S.2.2 a)
theorem gI_sI (S : St) (k j : Nat) (v : Int32) (a b : Nat) : gI (sI S k j v) a b = if a = k ∧ b = j then v else gI S a b := rfl
theorem gI_sL (S : St) (k j : Nat) (v : Int64) (a b : Nat) : gI (sL S k j v) a b = gI S a b := rfl
theorem gI_sA (S : St) (k : Nat) (f : Nat → Int32) (a b : Nat) : gI (sA S k f) a b = gI S a b := rfl
theorem gL_sI (S : St) (k j : Nat) (v : Int32) (a b : Nat) : gL (sI S k j v) a b = gL S a b := rfl
theorem gL_sL (S : St) (k j : Nat) (v : Int64) (a b : Nat) : gL (sL S k j v) a b = if a = k ∧ b = j then v else gL S a b := rfl
theorem gL_sA (S : St) (k : Nat) (f : Nat → Int32) (a b : Nat) : gL (sA S k f) a b = gL S a b := rfl
theorem gA_sI (S : St) (k j : Nat) (v : Int32) (a : Nat) : gA (sI S k j v) a = gA S a := rfl
theorem gA_sL (S : St) (k j : Nat) (v : Int64) (a : Nat) : gA (sL S k j v) a = gA S a := rfl
theorem gA_sA (S : St) (k : Nat) (f : Nat → Int32) (a : Nat) : gA (sA S k f) a = if a = k then f else gA S a := rfl
theorem gA_same (S : St) (k : Nat) (f : Nat → Int32) : gA (sA S k f) k = f := by rw [gA_sA, if_pos rfl]
theorem gI_same (S : St) (k j : Nat) (v : Int32) : gI (sI S k j v) k j = v := by rw [gI_sI, if_pos ⟨rfl, rfl⟩]
theorem gL_same (S : St) (k j : Nat) (v : Int64) : gL (sL S k j v) k j = v := by rw [gL_sL, if_pos ⟨rfl, rfl⟩]
theorem gA_ne {S : St} {k : Nat} {f : Nat → Int32} {a : Nat} (h : a ≠ k) : gA (sA S k f) a = gA S a := by rw [gA_sA, if_neg h]
theorem gI_ne {S : St} {k j : Nat} {v : Int32} {a b : Nat} (h : ¬ (a = k ∧ b = j)) : gI (sI S k j v) a b = gI S a b := by rw [gI_sI, if_neg h]
theorem st_ext {S T : St} (h1 : ∀ a b, gI S a b = gI T a b) (h2 : ∀ a b, gL S a b = gL T a b) (h3 : ∀ a i, gA S a i = gA T a i) : S = T := by
  obtain ⟨a, b, c⟩ := S
  obtain ⟨a2, b2, c2⟩ := T
  have e1 : a = a2 := funext fun x => funext fun y => h1 x y
  have e2 : b = b2 := funext fun x => funext fun y => h2 x y
  have e3 : c = c2 := funext fun x => funext fun y => h3 x y
  rw [e1, e2, e3]
theorem sA_sA (S : St) (k : Nat) (f g : Nat → Int32) : sA (sA S k f) k g = sA S k g := by
  refine st_ext (fun _ _ => rfl) (fun _ _ => rfl) (fun a i => ?_)
  rw [gA_sA, gA_sA, gA_sA]
  by_cases h : a = k <;> simp [h]
theorem sI_sI (S : St) (k j : Nat) (v u : Int32) : sI (sI S k j v) k j u = sI S k j u := by
  refine st_ext (fun a b => ?_) (fun _ _ => rfl) (fun _ _ => rfl)
  rw [gI_sI, gI_sI, gI_sI]
  by_cases h : a = k ∧ b = j <;> simp [h]
theorem sA_self (S : St) (k : Nat) : sA S k (gA S k) = S := by
  refine st_ext (fun _ _ => rfl) (fun _ _ => rfl) (fun a i => ?_)
  rw [gA_sA]
  by_cases h : a = k <;> simp [h]
theorem sI_self (S : St) (k j : Nat) : sI S k j (gI S k j) = S := by
  refine st_ext (fun a b => ?_) (fun _ _ => rfl) (fun _ _ => rfl)
  rw [gI_sI]
  by_cases h : a = k ∧ b = j
  · rw [if_pos h, h.1, h.2]
  · rw [if_neg h]
/-- the launch, the tables' numbers, the addresses of the cells 0 .. 71, the classes of rows of ints, of Banks, of Strips, the letters' address -/
abbrev En : Type := Launch × va_G × (Nat → Nat) × Nat × Nat × Nat × Nat
abbrev eN (E : En) : Launch := E.1
abbrev eD (E : En) : va_G := E.2.1
abbrev eA (E : En) (k : Nat) : Nat := E.2.2.1 k
abbrev eI (E : En) : ClassId := E.2.2.2.1
abbrev eB (E : En) : ClassId := E.2.2.2.2.1
abbrev eS (E : En) : ClassId := E.2.2.2.2.2.1
abbrev eT (E : En) : Nat := E.2.2.2.2.2.2
/-- which kind a cell is: 0 Bank, 1 Chains, 2 Sets, 3 Strip, 4 GlowDebts, 5 the reference, 6 ints, 7 Banks, 8 Strips -/
def kd (k : Nat) : Nat := [4, 8, 8, 7, 6, 2, 6, 6, 1, 6, 3, 3, 3, 3, 3, 3, 3, 3, 3, 3, 6, 6, 6, 6, 6, 6, 6, 6, 6, 6, 0, 0, 0, 0, 6, 6, 6, 6, 6, 6, 6, 6, 6, 6, 6, 6, 6, 6, 6, 6, 6, 6, 6, 6, 6, 6, 6, 6, 5, 6, 6, 6, 6, 6, 6, 6, 6, 6, 6, 6, 6, 6].getD k 99
def ln (k : Nat) : Nat := [0, 6, 4, 3, 6, 0, 8, 256, 0, 6, 0, 0, 0, 0, 0, 0, 0, 0, 0, 0, 40, 40, 40, 40, 40, 40, 60, 60, 60, 60, 0, 0, 0, 0, 8, 8, 8, 8, 8, 40, 8, 8, 8, 8, 8, 40, 8, 8, 8, 8, 8, 40, 8, 8, 8, 8, 8, 40, 0, 1776, 6, 240, 4, 240, 6, 40, 40, 10, 6, 5, 5, 5].getD k 0
def cell (E : En) (S : St) (k : Nat) : va_E := match kd k with
  | 0 => .inr (0, [.ref (eA E (34 + 6 * (k - 30))), .ref (eA E (34 + 6 * (k - 30) + 1)), .ref (eA E (34 + 6 * (k - 30) + 2)), .ref (eA E (34 + 6 * (k - 30) + 3)), .ref (eA E (34 + 6 * (k - 30) + 4)), .ref (eA E (34 + 6 * (k - 30) + 5)), .int (gI S k 6), .int (gI S k 7), .int (gI S k 8), .int (gI S k 9)])
  | 1 => .inr (1, [.ref (eA E 9)])
  | 2 => .inr (2, [.ref (eA E 6), .ref (eA E 7)])
  | 3 => .inr (3, [.ref (eA E (k + 10)), .int (gI S k 1)])
  | 4 => .inr (4, [.ref (eA E 1), .ref (eA E 2), .ref (eA E 30), .ref (eA E 3), .ref (eA E 5), .ref (eA E 8), .ref (eA E 4), .int (gI S k 7), .int (gI S k 8), .long (gL S k 9), .long (gL S k 10)])
  | 5 => .inr (5, [.ref (eA E 59), .ref (eA E 60), .ref (eA E 61), .ref (eA E 62), .ref (eA E 63), .int (gI S k 5), .ref (eA E 64), .int (gI S k 7), .long (gL S k 8), .long (gL S k 9), .ref (eA E 65), .int (gI S k 11), .int (gI S k 12), .int (gI S k 13), .int (gI S k 14), .int (gI S k 15), .ref (eA E 66), .ref (eA E 67), .ref (eA E 68), .ref (eA E 69), .ref (eA E 70), .ref (eA E 71), .long (gL S k 22)])
  | 6 => .inl (eI E, ln k, .inl (gA S k))
  | 7 => .inl (eB E, 3, .inr (.inr (.inr (.inr (fun j => if j < 3 then some (eA E (31 + j)) else none)))))
  | 8 => .inl (eS E, ln k, .inr (.inr (.inr (.inr (fun j => if j < ln k then some (eA E (if k = 1 then 10 + j else 16 + j)) else none)))))
  | _ => .inr (99, [])
def wd (E : En) (S : St) : va_W := (List.range 72).map (fun k => (eA E k, cell E S k))
abbrev tysE (E : En) : List (ClassId × FieldType) := [(eI E, .int), (eB E, .object "GlowDebts$Bank"), (eS E, .object "GlowDebts$Strip")]
def AD (E : En) : Nat → Prop := fun q => ∃ k : Nat, k < 72 ∧ q = eA E k
def InjE (E : En) : Prop := ∀ i j : Nat, i < 72 → j < 72 → eA E i = eA E j → i = j
def letV (j : Nat) : Value := .int ([108, 106, 100, 102, 111, 109].getD j 0)
def Kn (E : En) (A : Nat → Prop) (U : State) : Prop := va_K (eD E) vwCl (tysE E) U ∧ va_Nw (.methodLinkNest RX1 29 yX8_isPerson "GlowDebts") U ∧ (va_Z "GlowDebts$Kinds" "LETTERS" "[I" (.ref (eT E)) A U U.heap ∧ va_T .int (eT E) 6 letV A U U.heap) ∧ InjE E
theorem wd_get {E : En} {S : St} {k : Nat} (h : k < 72) : (wd E S)[k]? = some (eA E k, cell E S k) := by simp [wd, h]
theorem wd_len (E : En) (S : St) : (wd E S).length = 72 := by simp [wd]
theorem wd_set {E : En} {S S' : St} {k : Nat} (h : k < 72) (hc : ∀ j, j < 72 → j ≠ k → cell E S' j = cell E S j) : (wd E S).set k (eA E k, cell E S' k) = wd E S' := by
  refine List.ext_getElem? fun i => ?_
  by_cases hi : i < 72
  · rw [wd_get hi]
    by_cases hk : i = k
    · subst hk
      rw [List.getElem?_set_self (by rw [wd_len]; exact h)]
    · rw [List.getElem?_set_ne (fun z => hk z.symm), wd_get hi, hc i hi hk]
  · rw [List.getElem?_eq_none (by rw [List.length_set, wd_len]; omega), List.getElem?_eq_none (by rw [wd_len]; omega)]
theorem wd_D {E : En} {S : St} {A : Nat → Prop} (hi : InjE E) (hA : ∀ k, k < 72 → A (eA E k)) : va_D A (wd E S) := by
  have key : ∀ (k : Nat) (q : Nat × va_E), (wd E S)[k]? = some q → k < 72 ∧ q.1 = eA E k := by
    intro k q hq
    have hk : k < 72 := by
      have := (List.getElem?_eq_some_iff.mp hq).1
      rwa [wd_len] at this
    rw [wd_get hk] at hq
    cases hq
    exact ⟨hk, rfl⟩
  refine ⟨fun i j p q hp hq e => ?_, fun k q hq => ?_⟩
  · obtain ⟨h1, h2⟩ := key i p hp
    obtain ⟨h3, h4⟩ := key j q hq
    exact hi i j h1 h3 (by rw [← h2, ← h4]; exact e)
  · obtain ⟨h1, h2⟩ := key k q hq
    rw [h2]
    exact hA k h1
abbrev rmD (d : Nat) : Room := { frames := d, cells := 0, slots := 0, locals := 37 * d }
abbrev wsD (I : Ym) : List Cond := .code I.1 I.2.1 I.2.2.1 I.2.2.2.1 :: TT
def Qg (E : En) (Post : St → Option Value → Prop) : Array Value → State → Outcome → State → Prop := fun _ st oc t => (∃ (S' : St) (r : Option Value), oc = .returned r ∧ Post S' r ∧ va_P (eD E) vwCl (wd E S') t.heap) ∧ va_F (AD E) st t
/-- THE CONTRACT of a method: from the world of S, with these arguments, it returns, with Post of the new state and the answer -/
def CT (E : En) (I : Ym) (S : St) (args : List Value) (Post : St → Option Value → Prop) : Prop :=
  Met (eN E) I.1 (wsD I) (rmD I.2.2.2.2) (va_Pc args (fun U => va_P (eD E) vwCl (wd E S) U.heap ∧ Kn E (AD E) U)) (Qg E Post) 0 0 (AD E)
/-- the same, told exactly -/
abbrev CTe (E : En) (I : Ym) (S : St) (args : List Value) (S1 : St) (r : Option Value) : Prop := CT E I S args (fun S' r' => S' = S1 ∧ r' = r)
/-- where a walk stands: all of the machine that stays over it -/
abbrev Xt : Type := (Program × Env × Room × State) × (MethodId × Array Value × List Frame × Method × Code) × (Nat × Nat) × (Nat → Prop) × (State → Prop)
abbrev xp (X : Xt) : Program := X.1.1
abbrev xe (X : Xt) : Env := X.1.2.1
abbrev xR (X : Xt) : Room := X.1.2.2.1
abbrev xs (X : Xt) : State := X.1.2.2.2
abbrev xm (X : Xt) : MethodId := X.2.1.1
abbrev xa (X : Xt) : Array Value := X.2.1.2.1
abbrev xb (X : Xt) : List Frame := X.2.1.2.2.1
abbrev xM (X : Xt) : Method := X.2.1.2.2.2.1
abbrev xc (X : Xt) : Code := X.2.1.2.2.2.2
abbrev xk (X : Xt) : Nat := X.2.2.1.1
abbrev xn (X : Xt) : Nat := X.2.2.1.2
abbrev xA (X : Xt) : Nat → Prop := X.2.2.2.1
abbrev xQ (X : Xt) : State → Prop := X.2.2.2.2
def CX (E : En) (X : Xt) (I : Ym) : Prop := (xp X).tables.exec = Jvm.exec ∧ (xc X).code = I.2.1 ∧ (xc X).maxLocals = I.2.2.1 ∧ (xs X).vm.findClass I.1.cls = some (xm X).cls ∧ (∀ w ∈ TT, w.before (xa X) (xs X) = true) ∧ Kn E (xA X) (xs X) ∧ (∀ k, k < 72 → xA X (eA E k)) ∧ (xM X).locks = false ∧ (I.2.2.2.2 ≤ (xR X).frames ∧ 37 * I.2.2.2.2 ≤ (xR X).locals) ∧ xk X ≤ (xR X).cells ∧ xn X ≤ (xR X).slots
abbrev Wx (E : En) (X : Xt) (H : Heap) (locs : List Loc) (g : JFrame) : Prop := W (xp X) (eN E) (xe X) (xR X) (xs X) (xm X) (xa X) (xb X) (xM X) (xc X) H locs (xk X) (xn X) (xQ X) g
/-- THE JUDGEMENT: at pc, with the state S, these locals, this stack, the walk comes to its end -/
def G (E : En) (X : Xt) (I : Ym) (S : St) (pc : Nat) (L : List (Nat × Value)) (st : List Value) : Prop :=
  CX E X I → ∀ (H : Heap) (locs : List Loc) (ls : Array Slot), va_P (eD E) vwCl (wd E S) H → va_S (xA X) (xs X).heap H locs → lv_has ls I.2.2.1 L → Wx E X H locs (F0 (xm X) pc ls st)
section GR
variable {E : En} {X : Xt} {I : Ym} {S : St} {pc : Nat} {L : List (Nat × Value)} {st : List Value}
theorem g_iconst {n : Int} {v : Int32} (hd : decode I.2.1 pc = .ok (.iconst n, 1)) (hv : Int32.ofInt n = v) (k : G E X I S (pc + 1) L (.int v :: st)) : G E X I S pc L (st) := fun C H locs ls hP hS hl => lv_iconst C.1 C.2.1 hd hv (k C H locs ls hP hS hl)
theorem g_bipush {n : Int} {v : Int32} (hd : decode I.2.1 pc = .ok (.bipush n, 2)) (hv : (Int8.ofInt n).toInt32 = v) (k : G E X I S (pc + 2) L (.int v :: st)) : G E X I S pc L (st) := fun C H locs ls hP hS hl => lv_bipush C.1 C.2.1 hd hv (k C H locs ls hP hS hl)
theorem g_sipush {n : Int} {v : Int32} (hd : decode I.2.1 pc = .ok (.sipush n, 3)) (hv : (Int16.ofInt n).toInt32 = v) (k : G E X I S (pc + 3) L (.int v :: st)) : G E X I S pc L (st) := fun C H locs ls hP hS hl => lv_sipush C.1 C.2.1 hd hv (k C H locs ls hP hS hl)
theorem g_lconst {n : Fin 2} {v : Int64} (hd : decode I.2.1 pc = .ok (.lconst n, 1)) (hv : Int64.ofNat (n : Nat) = v) (k : G E X I S (pc + 1) L (.long v :: st)) : G E X I S pc L (st) := fun C H locs ls hP hS hl => lv_lconst C.1 C.2.1 hd hv (k C H locs ls hP hS hl)
theorem g_iload_n {k : Fin 4} {i : Nat} {x : Int32} (hd : decode I.2.1 pc = .ok (.iload_n k, 1)) (j : Nat) (hi : (k : Nat) = i) (hj : L[j]? = some (i, .int x)) (k : G E X I S (pc + 1) L (.int x :: st)) : G E X I S pc L (st) := fun C H locs ls hP hS hl => lv_iload_n C.1 C.2.1 hd hi (lv_at hl j hj) (k C H locs ls hP hS hl)
theorem g_iload {i : Nat} {x : Int32} (hd : decode I.2.1 pc = .ok (.iload i, 2)) (j : Nat) (hj : L[j]? = some (i, .int x)) (k : G E X I S (pc + 2) L (.int x :: st)) : G E X I S pc L (st) := fun C H locs ls hP hS hl => lv_iload C.1 C.2.1 hd (lv_at hl j hj) (k C H locs ls hP hS hl)
theorem g_lload_n {k : Fin 4} {i : Nat} {x : Int64} (hd : decode I.2.1 pc = .ok (.lload_n k, 1)) (j : Nat) (hi : (k : Nat) = i) (hj : L[j]? = some (i, .long x)) (k : G E X I S (pc + 1) L (.long x :: st)) : G E X I S pc L (st) := fun C H locs ls hP hS hl => lv_lload_n C.1 C.2.1 hd hi (lv_at hl j hj) (k C H locs ls hP hS hl)
theorem g_lload {i : Nat} {x : Int64} (hd : decode I.2.1 pc = .ok (.lload i, 2)) (j : Nat) (hj : L[j]? = some (i, .long x)) (k : G E X I S (pc + 2) L (.long x :: st)) : G E X I S pc L (st) := fun C H locs ls hP hS hl => lv_lload C.1 C.2.1 hd (lv_at hl j hj) (k C H locs ls hP hS hl)
theorem g_aload_n {k : Fin 4} {i : Nat} {x : Nat} (hd : decode I.2.1 pc = .ok (.aload_n k, 1)) (j : Nat) (hi : (k : Nat) = i) (hj : L[j]? = some (i, .ref x)) (k : G E X I S (pc + 1) L (.ref x :: st)) : G E X I S pc L (st) := fun C H locs ls hP hS hl => lv_aload_n C.1 C.2.1 hd hi (lv_at hl j hj) (k C H locs ls hP hS hl)
theorem g_aload {i : Nat} {x : Nat} (hd : decode I.2.1 pc = .ok (.aload i, 2)) (j : Nat) (hj : L[j]? = some (i, .ref x)) (k : G E X I S (pc + 2) L (.ref x :: st)) : G E X I S pc L (st) := fun C H locs ls hP hS hl => lv_aload C.1 C.2.1 hd (lv_at hl j hj) (k C H locs ls hP hS hl)
theorem g_aload_nN {k : Fin 4} {i : Nat} (hd : decode I.2.1 pc = .ok (.aload_n k, 1)) (j : Nat) (hi : (k : Nat) = i) (hj : L[j]? = some (i, .null)) (k : G E X I S (pc + 1) L (.null :: st)) : G E X I S pc L (st) := fun C H locs ls hP hS hl => lv_aload_nN C.1 C.2.1 hd hi (lv_at hl j hj) (k C H locs ls hP hS hl)
theorem g_aloadN {i : Nat} (hd : decode I.2.1 pc = .ok (.aload i, 2)) (j : Nat) (hj : L[j]? = some (i, .null)) (k : G E X I S (pc + 2) L (.null :: st)) : G E X I S pc L (st) := fun C H locs ls hP hS hl => lv_aloadN C.1 C.2.1 hd (lv_at hl j hj) (k C H locs ls hP hS hl)
theorem g_istore_n {k : Fin 4} {i : Nat} {x : Int32} {L' : List (Nat × Value)} (hd : decode I.2.1 pc = .ok (.istore_n k, 1)) (hi : (k : Nat) = i) (hn : i + 1 ≤ I.2.2.1) (hl2 : (i, Value.int x) :: L.filter (fun q => !(q.1 == i) && !(q.1 + 1 == i && q.2.category == 2)) = L') (k : G E X I S (pc + 1) L' st) : G E X I S pc L (Value.int x :: st) := fun C H locs ls hP hS hl => lv_istore_n C.1 C.2.1 hd hi hl hn hl2 (fun ls2 hl3 => k C H locs ls2 hP hS hl3)
theorem g_istore {i : Nat} {x : Int32} {L' : List (Nat × Value)} (hd : decode I.2.1 pc = .ok (.istore i, 2)) (hn : i + 1 ≤ I.2.2.1) (hl2 : (i, Value.int x) :: L.filter (fun q => !(q.1 == i) && !(q.1 + 1 == i && q.2.category == 2)) = L') (k : G E X I S (pc + 2) L' st) : G E X I S pc L (Value.int x :: st) := fun C H locs ls hP hS hl => lv_istore C.1 C.2.1 hd hl hn hl2 (fun ls2 hl3 => k C H locs ls2 hP hS hl3)
theorem g_lstore_n {k : Fin 4} {i : Nat} {x : Int64} {L' : List (Nat × Value)} (hd : decode I.2.1 pc = .ok (.lstore_n k, 1)) (hi : (k : Nat) = i) (hn : i + 2 ≤ I.2.2.1) (hl2 : (i, Value.long x) :: L.filter (fun q => !(q.1 == i) && (!(q.1 == i + 1) && !(q.1 + 1 == i && q.2.category == 2))) = L') (k : G E X I S (pc + 1) L' st) : G E X I S pc L (Value.long x :: st) := fun C H locs ls hP hS hl => lv_lstore_n C.1 C.2.1 hd hi hl hn hl2 (fun ls2 hl3 => k C H locs ls2 hP hS hl3)
theorem g_lstore {i : Nat} {x : Int64} {L' : List (Nat × Value)} (hd : decode I.2.1 pc = .ok (.lstore i, 2)) (hn : i + 2 ≤ I.2.2.1) (hl2 : (i, Value.long x) :: L.filter (fun q => !(q.1 == i) && (!(q.1 == i + 1) && !(q.1 + 1 == i && q.2.category == 2))) = L') (k : G E X I S (pc + 2) L' st) : G E X I S pc L (Value.long x :: st) := fun C H locs ls hP hS hl => lv_lstore C.1 C.2.1 hd hl hn hl2 (fun ls2 hl3 => k C H locs ls2 hP hS hl3)
theorem g_astore_n {k : Fin 4} {i : Nat} {x : Nat} {L' : List (Nat × Value)} (hd : decode I.2.1 pc = .ok (.astore_n k, 1)) (hi : (k : Nat) = i) (hn : i + 1 ≤ I.2.2.1) (hl2 : (i, Value.ref x) :: L.filter (fun q => !(q.1 == i) && !(q.1 + 1 == i && q.2.category == 2)) = L') (k : G E X I S (pc + 1) L' st) : G E X I S pc L (Value.ref x :: st) := fun C H locs ls hP hS hl => lv_astore_n C.1 C.2.1 hd hi hl hn hl2 (fun ls2 hl3 => k C H locs ls2 hP hS hl3)
theorem g_astore {i : Nat} {x : Nat} {L' : List (Nat × Value)} (hd : decode I.2.1 pc = .ok (.astore i, 2)) (hn : i + 1 ≤ I.2.2.1) (hl2 : (i, Value.ref x) :: L.filter (fun q => !(q.1 == i) && !(q.1 + 1 == i && q.2.category == 2)) = L') (k : G E X I S (pc + 2) L' st) : G E X I S pc L (Value.ref x :: st) := fun C H locs ls hP hS hl => lv_astore C.1 C.2.1 hd hl hn hl2 (fun ls2 hl3 => k C H locs ls2 hP hS hl3)
theorem g_astore_nN {k : Fin 4} {i : Nat} {L' : List (Nat × Value)} (hd : decode I.2.1 pc = .ok (.astore_n k, 1)) (hi : (k : Nat) = i) (hn : i + 1 ≤ I.2.2.1) (hl2 : (i, Value.null) :: L.filter (fun q => !(q.1 == i) && !(q.1 + 1 == i && q.2.category == 2)) = L') (k : G E X I S (pc + 1) L' st) : G E X I S pc L (Value.null :: st) := fun C H locs ls hP hS hl => lv_astore_nN C.1 C.2.1 hd hi hl hn hl2 (fun ls2 hl3 => k C H locs ls2 hP hS hl3)
theorem g_astoreN {i : Nat} {L' : List (Nat × Value)} (hd : decode I.2.1 pc = .ok (.astore i, 2)) (hn : i + 1 ≤ I.2.2.1) (hl2 : (i, Value.null) :: L.filter (fun q => !(q.1 == i) && !(q.1 + 1 == i && q.2.category == 2)) = L') (k : G E X I S (pc + 2) L' st) : G E X I S pc L (Value.null :: st) := fun C H locs ls hP hS hl => lv_astoreN C.1 C.2.1 hd hl hn hl2 (fun ls2 hl3 => k C H locs ls2 hP hS hl3)
theorem g_iinc {i k : Nat} {n : Int} {x v : Int32} {L' : List (Nat × Value)} (hd : decode I.2.1 pc = .ok (.iinc i n, 3)) (hk : L[k]? = some (i, .int x)) (hv : x + Int32.ofInt n = v) (hn : i + 1 ≤ I.2.2.1) (hl2 : (i, Value.int v) :: L.filter (fun q => !(q.1 == i) && !(q.1 + 1 == i && q.2.category == 2)) = L') (kk : G E X I S (pc + 3) L' st) : G E X I S pc L st := fun C H locs ls hP hS hl => lv_iinc C.1 C.2.1 hd hl hk hv hn hl2 (fun ls2 hl3 => kk C H locs ls2 hP hS hl3)
theorem g_iadd {x y : Int32} (hd : decode I.2.1 pc = .ok (.iadd, 1)) (k : G E X I S (pc + 1) L (.int (x + y) :: st)) : G E X I S pc L (.int y :: .int x :: st) := fun C H locs ls hP hS hl => lv_iadd C.1 C.2.1 hd (k C H locs ls hP hS hl)
theorem g_isub {x y : Int32} (hd : decode I.2.1 pc = .ok (.isub, 1)) (k : G E X I S (pc + 1) L (.int (x - y) :: st)) : G E X I S pc L (.int y :: .int x :: st) := fun C H locs ls hP hS hl => lv_isub C.1 C.2.1 hd (k C H locs ls hP hS hl)
theorem g_imul {x y : Int32} (hd : decode I.2.1 pc = .ok (.imul, 1)) (k : G E X I S (pc + 1) L (.int (x * y) :: st)) : G E X I S pc L (.int y :: .int x :: st) := fun C H locs ls hP hS hl => lv_imul C.1 C.2.1 hd (k C H locs ls hP hS hl)
theorem g_iand {x y : Int32} (hd : decode I.2.1 pc = .ok (.iand, 1)) (k : G E X I S (pc + 1) L (.int (x &&& y) :: st)) : G E X I S pc L (.int y :: .int x :: st) := fun C H locs ls hP hS hl => lv_iand C.1 C.2.1 hd (k C H locs ls hP hS hl)
theorem g_ior {x y : Int32} (hd : decode I.2.1 pc = .ok (.ior, 1)) (k : G E X I S (pc + 1) L (.int (x ||| y) :: st)) : G E X I S pc L (.int y :: .int x :: st) := fun C H locs ls hP hS hl => lv_ior C.1 C.2.1 hd (k C H locs ls hP hS hl)
theorem g_ixor {x y : Int32} (hd : decode I.2.1 pc = .ok (.ixor, 1)) (k : G E X I S (pc + 1) L (.int (x ^^^ y) :: st)) : G E X I S pc L (.int y :: .int x :: st) := fun C H locs ls hP hS hl => lv_ixor C.1 C.2.1 hd (k C H locs ls hP hS hl)
theorem g_ishl {x y : Int32} (hd : decode I.2.1 pc = .ok (.ishl, 1)) (k : G E X I S (pc + 1) L (.int (x <<< (y &&& 31)) :: st)) : G E X I S pc L (.int y :: .int x :: st) := fun C H locs ls hP hS hl => lv_ishl C.1 C.2.1 hd (k C H locs ls hP hS hl)
theorem g_ishr {x y : Int32} (hd : decode I.2.1 pc = .ok (.ishr, 1)) (k : G E X I S (pc + 1) L (.int (x >>> (y &&& 31)) :: st)) : G E X I S pc L (.int y :: .int x :: st) := fun C H locs ls hP hS hl => lv_ishr C.1 C.2.1 hd (k C H locs ls hP hS hl)
theorem g_idiv {x y : Int32} (hd : decode I.2.1 pc = .ok (.idiv, 1)) (hne : ¬ y = 0) (k : G E X I S (pc + 1) L (.int (x / y) :: st)) : G E X I S pc L (.int y :: .int x :: st) := fun C H locs ls hP hS hl => lv_idiv C.1 C.2.1 hd hne (k C H locs ls hP hS hl)
theorem g_irem {x y : Int32} (hd : decode I.2.1 pc = .ok (.irem, 1)) (hne : ¬ y = 0) (k : G E X I S (pc + 1) L (.int (x - x / y * y) :: st)) : G E X I S pc L (.int y :: .int x :: st) := fun C H locs ls hP hS hl => lv_irem C.1 C.2.1 hd hne (k C H locs ls hP hS hl)
theorem g_ineg {x : Int32} (hd : decode I.2.1 pc = .ok (.ineg, 1)) (k : G E X I S (pc + 1) L (.int (-x) :: st)) : G E X I S pc L (.int x :: st) := fun C H locs ls hP hS hl => lv_ineg C.1 C.2.1 hd (k C H locs ls hP hS hl)
theorem g_ladd {x y : Int64} (hd : decode I.2.1 pc = .ok (.ladd, 1)) (k : G E X I S (pc + 1) L (.long (x + y) :: st)) : G E X I S pc L (.long y :: .long x :: st) := fun C H locs ls hP hS hl => lv_ladd C.1 C.2.1 hd (k C H locs ls hP hS hl)
theorem g_lsub {x y : Int64} (hd : decode I.2.1 pc = .ok (.lsub, 1)) (k : G E X I S (pc + 1) L (.long (x - y) :: st)) : G E X I S pc L (.long y :: .long x :: st) := fun C H locs ls hP hS hl => lv_lsub C.1 C.2.1 hd (k C H locs ls hP hS hl)
theorem g_lmul {x y : Int64} (hd : decode I.2.1 pc = .ok (.lmul, 1)) (k : G E X I S (pc + 1) L (.long (x * y) :: st)) : G E X I S pc L (.long y :: .long x :: st) := fun C H locs ls hP hS hl => lv_lmul C.1 C.2.1 hd (k C H locs ls hP hS hl)
theorem g_ldiv {x y : Int64} (hd : decode I.2.1 pc = .ok (.ldiv, 1)) (hne : ¬ y = 0) (k : G E X I S (pc + 1) L (.long (x / y) :: st)) : G E X I S pc L (.long y :: .long x :: st) := fun C H locs ls hP hS hl => lv_ldiv C.1 C.2.1 hd hne (k C H locs ls hP hS hl)
theorem g_lrem {x y : Int64} (hd : decode I.2.1 pc = .ok (.lrem, 1)) (hne : ¬ y = 0) (k : G E X I S (pc + 1) L (.long (x - x / y * y) :: st)) : G E X I S pc L (.long y :: .long x :: st) := fun C H locs ls hP hS hl => lv_lrem C.1 C.2.1 hd hne (k C H locs ls hP hS hl)
theorem g_lcmp {x y : Int64} (hd : decode I.2.1 pc = .ok (.lcmp, 1)) (k : G E X I S (pc + 1) L (.int (lg_cmp x y) :: st)) : G E X I S pc L (.long y :: .long x :: st) := fun C H locs ls hP hS hl => W.lcmp C.1 C.2.1 hd (k C H locs ls hP hS hl)
theorem g_i2l {x : Int32} (hd : decode I.2.1 pc = .ok (.i2l, 1)) (k : G E X I S (pc + 1) L (.long x.toInt64 :: st)) : G E X I S pc L (.int x :: st) := fun C H locs ls hP hS hl => lv_i2l C.1 C.2.1 hd rfl (k C H locs ls hP hS hl)
theorem g_l2i {x : Int64} (hd : decode I.2.1 pc = .ok (.l2i, 1)) (k : G E X I S (pc + 1) L (.int x.toInt32 :: st)) : G E X I S pc L (.long x :: st) := fun C H locs ls hP hS hl => lv_l2i C.1 C.2.1 hd rfl (k C H locs ls hP hS hl)
theorem g_i2b {x : Int32} (hd : decode I.2.1 pc = .ok (.i2b, 1)) (k : G E X I S (pc + 1) L (.int x.toInt8.toInt32 :: st)) : G E X I S pc L (.int x :: st) := fun C H locs ls hP hS hl => lv_i2b C.1 C.2.1 hd rfl (k C H locs ls hP hS hl)
theorem g_iushr {x y : Int32} (hd : decode I.2.1 pc = .ok (.iushr, 1)) (k : G E X I S (pc + 1) L (.int ((x.toUInt32 >>> (y.toUInt32 &&& Int32.toUInt32 31)).toInt32) :: st)) : G E X I S pc L (.int y :: .int x :: st) := fun C H locs ls hP hS hl => lv_iushr C.1 C.2.1 hd rfl (k C H locs ls hP hS hl)
theorem g_dup {va : Value} (hd : decode I.2.1 pc = .ok (.dup, 1)) (h1 : va.category = 1) (k : G E X I S (pc + 1) L (va :: va :: st)) : G E X I S pc L (va :: st) := fun C H locs ls hP hS hl => lv_dup C.1 C.2.1 hd h1 (k C H locs ls hP hS hl)
theorem g_pop {va : Value} (hd : decode I.2.1 pc = .ok (.pop, 1)) (h1 : va.category = 1) (k : G E X I S (pc + 1) L (st)) : G E X I S pc L (va :: st) := fun C H locs ls hP hS hl => lv_pop C.1 C.2.1 hd h1 (k C H locs ls hP hS hl)
theorem g_dup2 {va vb : Value} (hd : decode I.2.1 pc = .ok (.dup2, 1)) (h1 : va.category = 1) (h2 : vb.category = 1) (k : G E X I S (pc + 1) L (va :: vb :: va :: vb :: st)) : G E X I S pc L (va :: vb :: st) := fun C H locs ls hP hS hl => lv_dup2_11 C.1 C.2.1 hd h1 h2 (k C H locs ls hP hS hl)
theorem g_null  (hd : decode I.2.1 pc = .ok (.aconst_null, 1)) (k : G E X I S (pc + 1) L (.null :: st)) : G E X I S pc L (st) := fun C H locs ls hP hS hl => lv_null C.1 C.2.1 hd (k C H locs ls hP hS hl)
theorem g_goto {off : Int} {tgt : Nat} (hd : decode I.2.1 pc = .ok (.goto off, 3)) (ht : (pc : Int) + off = (tgt : Int)) (k : G E X I S tgt L st) : G E X I S pc L st := fun C H locs ls hP hS hl => lv_goto C.1 C.2.1 hd ht (k C H locs ls hP hS hl)
theorem g_if_eq {x : Int32} {off : Int} {tgt : Nat} (hd : decode I.2.1 pc = .ok (.ifCond .eq off, 3)) (ht : (pc : Int) + off = (tgt : Int)) (kt : x = 0 → G E X I S tgt L st) (kf : ¬ x = 0 → G E X I S (pc + 3) L st) : G E X I S pc L (.int x :: st) := fun C H locs ls hP hS hl => lv_if_eq C.1 C.2.1 hd ht (fun q => kt q C H locs ls hP hS hl) (fun q => kf q C H locs ls hP hS hl)
theorem g_icmp_eq {x y : Int32} {off : Int} {tgt : Nat} (hd : decode I.2.1 pc = .ok (.if_icmp .eq off, 3)) (ht : (pc : Int) + off = (tgt : Int)) (kt : x = y → G E X I S tgt L st) (kf : ¬ x = y → G E X I S (pc + 3) L st) : G E X I S pc L (.int y :: .int x :: st) := fun C H locs ls hP hS hl => lv_icmp_eq C.1 C.2.1 hd ht (fun q => kt q C H locs ls hP hS hl) (fun q => kf q C H locs ls hP hS hl)
theorem g_if_ne {x : Int32} {off : Int} {tgt : Nat} (hd : decode I.2.1 pc = .ok (.ifCond .ne off, 3)) (ht : (pc : Int) + off = (tgt : Int)) (kt : ¬ x = 0 → G E X I S tgt L st) (kf : x = 0 → G E X I S (pc + 3) L st) : G E X I S pc L (.int x :: st) := fun C H locs ls hP hS hl => lv_if_ne C.1 C.2.1 hd ht (fun q => kt q C H locs ls hP hS hl) (fun q => kf q C H locs ls hP hS hl)
theorem g_icmp_ne {x y : Int32} {off : Int} {tgt : Nat} (hd : decode I.2.1 pc = .ok (.if_icmp .ne off, 3)) (ht : (pc : Int) + off = (tgt : Int)) (kt : ¬ x = y → G E X I S tgt L st) (kf : x = y → G E X I S (pc + 3) L st) : G E X I S pc L (.int y :: .int x :: st) := fun C H locs ls hP hS hl => lv_icmp_ne C.1 C.2.1 hd ht (fun q => kt q C H locs ls hP hS hl) (fun q => kf q C H locs ls hP hS hl)
theorem g_if_lt {x : Int32} {off : Int} {tgt : Nat} (hd : decode I.2.1 pc = .ok (.ifCond .lt off, 3)) (ht : (pc : Int) + off = (tgt : Int)) (kt : x < 0 → G E X I S tgt L st) (kf : ¬ x < 0 → G E X I S (pc + 3) L st) : G E X I S pc L (.int x :: st) := fun C H locs ls hP hS hl => lv_if_lt C.1 C.2.1 hd ht (fun q => kt q C H locs ls hP hS hl) (fun q => kf q C H locs ls hP hS hl)
theorem g_icmp_lt {x y : Int32} {off : Int} {tgt : Nat} (hd : decode I.2.1 pc = .ok (.if_icmp .lt off, 3)) (ht : (pc : Int) + off = (tgt : Int)) (kt : x < y → G E X I S tgt L st) (kf : ¬ x < y → G E X I S (pc + 3) L st) : G E X I S pc L (.int y :: .int x :: st) := fun C H locs ls hP hS hl => lv_icmp_lt C.1 C.2.1 hd ht (fun q => kt q C H locs ls hP hS hl) (fun q => kf q C H locs ls hP hS hl)
theorem g_if_ge {x : Int32} {off : Int} {tgt : Nat} (hd : decode I.2.1 pc = .ok (.ifCond .ge off, 3)) (ht : (pc : Int) + off = (tgt : Int)) (kt : 0 ≤ x → G E X I S tgt L st) (kf : ¬ 0 ≤ x → G E X I S (pc + 3) L st) : G E X I S pc L (.int x :: st) := fun C H locs ls hP hS hl => lv_if_ge C.1 C.2.1 hd ht (fun q => kt q C H locs ls hP hS hl) (fun q => kf q C H locs ls hP hS hl)
theorem g_icmp_ge {x y : Int32} {off : Int} {tgt : Nat} (hd : decode I.2.1 pc = .ok (.if_icmp .ge off, 3)) (ht : (pc : Int) + off = (tgt : Int)) (kt : y ≤ x → G E X I S tgt L st) (kf : ¬ y ≤ x → G E X I S (pc + 3) L st) : G E X I S pc L (.int y :: .int x :: st) := fun C H locs ls hP hS hl => lv_icmp_ge C.1 C.2.1 hd ht (fun q => kt q C H locs ls hP hS hl) (fun q => kf q C H locs ls hP hS hl)
theorem g_if_gt {x : Int32} {off : Int} {tgt : Nat} (hd : decode I.2.1 pc = .ok (.ifCond .gt off, 3)) (ht : (pc : Int) + off = (tgt : Int)) (kt : 0 < x → G E X I S tgt L st) (kf : ¬ 0 < x → G E X I S (pc + 3) L st) : G E X I S pc L (.int x :: st) := fun C H locs ls hP hS hl => lv_if_gt C.1 C.2.1 hd ht (fun q => kt q C H locs ls hP hS hl) (fun q => kf q C H locs ls hP hS hl)
theorem g_icmp_gt {x y : Int32} {off : Int} {tgt : Nat} (hd : decode I.2.1 pc = .ok (.if_icmp .gt off, 3)) (ht : (pc : Int) + off = (tgt : Int)) (kt : y < x → G E X I S tgt L st) (kf : ¬ y < x → G E X I S (pc + 3) L st) : G E X I S pc L (.int y :: .int x :: st) := fun C H locs ls hP hS hl => lv_icmp_gt C.1 C.2.1 hd ht (fun q => kt q C H locs ls hP hS hl) (fun q => kf q C H locs ls hP hS hl)
theorem g_if_le {x : Int32} {off : Int} {tgt : Nat} (hd : decode I.2.1 pc = .ok (.ifCond .le off, 3)) (ht : (pc : Int) + off = (tgt : Int)) (kt : x ≤ 0 → G E X I S tgt L st) (kf : ¬ x ≤ 0 → G E X I S (pc + 3) L st) : G E X I S pc L (.int x :: st) := fun C H locs ls hP hS hl => lv_if_le C.1 C.2.1 hd ht (fun q => kt q C H locs ls hP hS hl) (fun q => kf q C H locs ls hP hS hl)
theorem g_icmp_le {x y : Int32} {off : Int} {tgt : Nat} (hd : decode I.2.1 pc = .ok (.if_icmp .le off, 3)) (ht : (pc : Int) + off = (tgt : Int)) (kt : x ≤ y → G E X I S tgt L st) (kf : ¬ x ≤ y → G E X I S (pc + 3) L st) : G E X I S pc L (.int y :: .int x :: st) := fun C H locs ls hP hS hl => lv_icmp_le C.1 C.2.1 hd ht (fun q => kt q C H locs ls hP hS hl) (fun q => kf q C H locs ls hP hS hl)
theorem g_ifnull {x : Nat} {off : Int} (hd : decode I.2.1 pc = .ok (.ifnull off, 3)) (k : G E X I S (pc + 3) L st) : G E X I S pc L (.ref x :: st) := fun C H locs ls hP hS hl => lv_ifnull C.1 C.2.1 hd (k C H locs ls hP hS hl)
theorem g_ifnullN {off : Int} {tgt : Nat} (hd : decode I.2.1 pc = .ok (.ifnull off, 3)) (ht : (pc : Int) + off = (tgt : Int)) (k : G E X I S tgt L st) : G E X I S pc L (.null :: st) := fun C H locs ls hP hS hl => lv_ifnullN C.1 C.2.1 hd ht (k C H locs ls hP hS hl)
theorem g_ifnonnull {x : Nat} {off : Int} {tgt : Nat} (hd : decode I.2.1 pc = .ok (.ifnonnull off, 3)) (ht : (pc : Int) + off = (tgt : Int)) (k : G E X I S tgt L st) : G E X I S pc L (.ref x :: st) := fun C H locs ls hP hS hl => lv_ifnonnull C.1 C.2.1 hd ht (k C H locs ls hP hS hl)
theorem g_ifnonnullN {off : Int} (hd : decode I.2.1 pc = .ok (.ifnonnull off, 3)) (k : G E X I S (pc + 3) L st) : G E X I S pc L (.null :: st) := fun C H locs ls hP hS hl => lv_ifnonnullN C.1 C.2.1 hd (k C H locs ls hP hS hl)
theorem g_ldc {index : Nat} {v : Int32} (hw : Cond.constant I.1.cls index v ∈ TT) (hd : decode I.2.1 pc = .ok (.ldc index, 2)) (k : G E X I S (pc + 2) L (.int v :: st)) : G E X I S pc L st := fun C H locs ls hP hS hl => lv_ldc C.1 C.2.1 C.2.2.2.1 (C.2.2.2.2.1 _ hw) hd (k C H locs ls hP hS hl)
theorem g_ldcw {index : Nat} {v : Int32} (hw : Cond.constant I.1.cls index v ∈ TT) (hd : decode I.2.1 pc = .ok (.ldc_w index, 3)) (k : G E X I S (pc + 3) L (.int v :: st)) : G E X I S pc L st := fun C H locs ls hP hS hl => lv_ldcw C.1 C.2.1 C.2.2.2.1 (C.2.2.2.2.1 _ hw) hd (k C H locs ls hP hS hl)
theorem g_ldc2 {index : Nat} {v : Int64} (hw : Cond.constantLong I.1.cls index v ∈ TT) (hd : decode I.2.1 pc = .ok (.ldc2_w index, 3)) (k : G E X I S (pc + 3) L (.long v :: st)) : G E X I S pc L st := fun C H locs ls hP hS hl => lv_ldc2 C.1 C.2.1 C.2.2.2.1 (C.2.2.2.2.1 _ hw) hd (k C H locs ls hP hS hl)
theorem g_tsOut {dflt lo hi : Int} {offs : Array Int} {len : Nat} {x : Int32} {tgt : Nat} (hd : decode I.2.1 pc = .ok (.tableswitch dflt lo hi offs, len)) (h : x.toInt < lo ∨ hi < x.toInt) (ht : (pc : Int) + dflt = (tgt : Int)) (k : G E X I S tgt L st) : G E X I S pc L (.int x :: st) := fun C H locs ls hP hS hl => lv_tableOut C.1 C.2.1 hd h ht (k C H locs ls hP hS hl)
theorem g_tsIn {dflt lo hi : Int} {offs : Array Int} {len : Nat} {x : Int32} {off : Int} {tgt : Nat} (hd : decode I.2.1 pc = .ok (.tableswitch dflt lo hi offs, len)) (h1 : ¬ x.toInt < lo) (h2 : ¬ hi < x.toInt) (ho : offs[(x.toInt - lo).toNat]? = some off) (ht : (pc : Int) + off = (tgt : Int)) (k : G E X I S tgt L st) : G E X I S pc L (.int x :: st) := fun C H locs ls hP hS hl => lv_tableIn C.1 C.2.1 hd h1 h2 ho ht (k C H locs ls hP hS hl)
theorem g_lookup {dflt : Int} {ps : Array (Int × Int)} {len : Nat} {x : Int32} {off : Int} {tgt : Nat} (hd : decode I.2.1 pc = .ok (.lookupswitch dflt ps, len)) (hp : (ps.toList.zip (ps.toList.drop 1)).all (fun (a, next) => a.1 < next.1) = true) (ho : Op.lookupswitch.offset ps.toList dflt x.toInt = off) (ht : (pc : Int) + off = (tgt : Int)) (k : G E X I S tgt L st) : G E X I S pc L (.int x :: st) := fun C H locs ls hP hS hl => lv_lookup C.1 C.2.1 hd hp ho ht (k C H locs ls hP hS hl)
/-- fewer locals, in any order -/
theorem g_sub {L' : List (Nat × Value)} (ks : List Nat) (hk : lv_pick L ks = L') (k : G E X I S pc L' st) : G E X I S pc L st := fun C H locs ls hP hS hl => k C H locs ls hP hS (lv_sub hl ks hk)
/-- the same point, told otherwise -/
theorem g_eq {S' : St} {L' : List (Nat × Value)} {st' : List Value} (h1 : S = S') (h2 : L = L') (h3 : st = st') (k : G E X I S' pc L' st') : G E X I S pc L st := by subst h1; subst h2; subst h3; exact k
theorem Kn_call {A : Nat → Prop} {s U : State} {H : Heap} {locs : List Loc} (h : Kn E A s) (hA : ∀ q, AD E q → A q) (hS : va_S A s.heap H locs) (hU : U.heap = H) (hW : s.WarmedH U.vm) : Kn E (AD E) U := by
  obtain ⟨h1, h2, ⟨h3, h4⟩, h5⟩ := h
  refine ⟨va_K.moved hW.alike h1, va_Nw.warmM hW h2, ⟨?_, ?_⟩, h5⟩
  · rw [hU]
    exact ((h3.kept hS.2.1).moved hW.alike).narrow hA
  · rw [hU]
    exact ((h4.kept hS.2.1).moved hW.alike).narrow hA
theorem Kn_blind {A : Nat → Prop} {U : State} (a : Array Value) (g : JFrame) (mk : MethodId) (h : Kn E A U) : Kn E A (U.calling g mk a) := by
  obtain ⟨h1, h2, ⟨h3, h4⟩, h5⟩ := h
  exact ⟨va_K.moved (u := U) (U := U.calling g mk a) (Vm.Alike.refl U.vm) h1, va_Nw.same rfl rfl h2, ⟨h3.moved (u := U) (U := U.calling g mk a) (Vm.Alike.refl U.vm), h4.moved (u := U) (U := U.calling g mk a) (Vm.Alike.refl U.vm)⟩, h5⟩
/-- what comes of a run of a callee -/
theorem g_runB {p : Program} {e : Env} {R : Room} {s : State} {m : MethodId} {args a : Array Value} {below : List Frame} {meth : Method} {c : Code} {H : Heap} {locs : List Loc} {cells slots : Nat} {Q : State → Prop} {ls : Array Slot} {rest st0 : List Value} {A : Nat → Prop} {Post : St → Option Value → Prop}
    (hr : va_Run p (eN E) e R s m args below meth c H locs cells slots 0 0 (F0 m pc ls st0) rest (Qg E Post a) (AD E)) (hS : va_S A s.heap H locs) (hA : ∀ q, AD E q → A q)
    (kk : ∀ (S' : St) (r : Option Value) (H1 : Heap) (locs1 : List Loc), Post S' r → va_P (eD E) vwCl (wd E S') H1 → va_S A s.heap H1 locs1 → W p (eN E) e R s m args below meth c H1 locs1 cells slots Q (F0 m (pc + 3) ls (r.toList ++ rest))) : W p (eN E) e R s m args below meth c H locs cells slots Q (F0 m pc ls st0) := by
  intro T hT Y
  obtain ⟨v, st₀, t, T', Lc, h0, Y', hL, e1, e2, ⟨⟨S', r, hv, hp, hb⟩, hz, hk⟩, go⟩ := hr T hT Y
  cases hv
  rw [h0] at hz hk
  obtain ⟨t2, a1, b1⟩ := kk S' v T'.heap (locs ++ Lc) hp (by rw [e1]; exact hb)
    ⟨Nat.le_trans hS.1 (by rw [e1]; exact hz), fun q h1 h2 => by rw [e1, hk q (Nat.lt_of_lt_of_le h1 hS.1) (fun z => h2 (hA q z))]; exact hS.2.1 q h1 h2, fun q hq => by
      rcases List.mem_append.mp hq with h | h
      · exact hS.2.2 q h
      · exact hA _ (hL q h)⟩ T' rfl Y'
  exact ⟨t2, go t2 a1, b1⟩
theorem AD_A {A : Nat → Prop} (h : ∀ k, k < 72 → A (eA E k)) : ∀ q, AD E q → A q := by
  rintro q ⟨k, hk, rfl⟩
  exact h k hk
/-- a cell is an object of that class -/
def rcv (E : En) (S : St) (C : String) (k : Nat) : Prop := k < 72 ∧ ∃ (ci : Nat) (fs : List Value) (q : vw_C), cell E S k = .inr (ci, fs) ∧ vwCl[ci]? = some q ∧ q.1 = C
theorem g_invR {J : Ym} {n idx : Nat} {k : Nat} {As L2 : List Value} {Post : St → Option Value → Prop} (hJ : JV J n) (hm : Cond.methodLink I.1.cls idx J.1 ∈ TT) (hd : decode I.2.1 pc = .ok (.invokevirtual idx, 3)) (hk : rcv E S J.1.cls k) (hn : As.length = n) (hc : CT E J S (.ref (eA E k) :: As) Post)
    (hdep : J.2.2.2.2 + 1 ≤ I.2.2.2.2) (hnl : J.2.2.1 ≤ 18) (hst : st = As.reverse ++ .ref (eA E k) :: L2) (hrest : (L2.map fun v => v.category).sum ≤ 8)
    (kk : ∀ (S' : St) (r : Option Value), Post S' r → G E X I S' (pc + 3) L (r.toList ++ L2)) : G E X I S pc L st := by
  intro C H locs ls hP hS hl
  obtain ⟨hx, hb, hml, hown, hts, hK, hA, hlk, ⟨hf, hlo⟩, hcc, hss⟩ := id C
  obtain ⟨hJ1, hJ2⟩ := hJ
  obtain ⟨hk1, ci, fs, q, hk2, hk3, hk4⟩ := hk
  have hAD := AD_A hA
  have hpg : ∀ w ∈ wsD J, w ∈ TT ∧ ((w.onTables && w.keeps) = true ∨ ∃ ty, w = .arrayClass ty) := by
    intro w hw
    rcases List.mem_cons.mp hw with rfl | hw
    · exact hJ2 _ (by simp)
    · exact TT_ok w hw
  have cb : CallB (xR X) (xs X) (xa X) I.1.cls idx J.1 J.2.1 J.2.2.1 J.2.2.2.1 (wsD J) (rmD J.2.2.2.2) 0 0 n := callB_of n hts hpg rfl rfl rfl (hts _ (hJ2 _ (by simp)).1) (hts _ hm) hJ1 ⟨by show J.2.2.2.2 + 1 ≤ _; omega, by show 8 + (J.2.2.1 + 11) + 37 * J.2.2.2.2 ≤ _; omega⟩
  have hrun := va_runV (C := J.1.cls) (y := J.1) (l := eN E) (e := xe X) (below := xb X) (meth := xM X) (locs := locs) (cells := xk X) (slots := xn X) (rest := L2) (g := F0 (xm X) pc ls st) (nL := I.2.2.1) (H := H) (Ts := TT) ⟨hx, hb, hml, hown, hts⟩ hc ⟨cb, hts _ (hJ2 _ (by simp)).1, hts _ (hJ2 _ (by simp)).1⟩
    ⟨fun a U g mk z => ⟨z.1, z.2.1, Kn_blind a g mk z.2.2⟩, hk4 ▸ va_recv hK.1 hP hk3 ((wd_get hk1).trans (by rw [hk2])), fun U hU hW => ⟨rfl, by rw [hU]; exact hP, Kn_call hK hAD hS hU hW⟩⟩
    rfl hn hl.1 hst (lv_room hrest) hd ⟨by omega, by omega⟩
  exact g_runB hrun hS hAD (fun S' r H1 locs1 hp hP1 hS1 => kk S' r hp C H1 locs1 ls hP1 hS1 hl)
theorem g_invSR {J : Ym} {n idx : Nat} {As L2 : List Value} {Post : St → Option Value → Prop} (hJ : JS J n) (hm : Cond.methodLink I.1.cls idx J.1 ∈ TT) (hd : decode I.2.1 pc = .ok (.invokestatic idx, 3)) (hn : As.length = n) (hc : CT E J S As Post)
    (hdep : J.2.2.2.2 + 1 ≤ I.2.2.2.2) (hnl : J.2.2.1 ≤ 18) (hst : st = As.reverse ++ L2) (hrest : (L2.map fun v => v.category).sum ≤ 8)
    (kk : ∀ (S' : St) (r : Option Value), Post S' r → G E X I S' (pc + 3) L (r.toList ++ L2)) : G E X I S pc L st := by
  intro C H locs ls hP hS hl
  obtain ⟨hx, hb, hml, hown, hts, hK, hA, hlk, ⟨hf, hlo⟩, hcc, hss⟩ := id C
  obtain ⟨hJ1, hJ2⟩ := hJ
  have hAD := AD_A hA
  have hpg : ∀ w ∈ wsD J, w ∈ TT ∧ ((w.onTables && w.keeps) = true ∨ ∃ ty, w = .arrayClass ty) := by
    intro w hw
    rcases List.mem_cons.mp hw with rfl | hw
    · exact hJ2 _ (by simp)
    · exact TT_ok w hw
  have cb : CallB (xR X) (xs X) (xa X) I.1.cls idx J.1 J.2.1 J.2.2.1 J.2.2.2.1 (wsD J) (rmD J.2.2.2.2) 0 0 n := callB_of n hts hpg rfl rfl rfl (hts _ (hJ2 _ (by simp)).1) (hts _ hm) hJ1 ⟨by show J.2.2.2.2 + 1 ≤ _; omega, by show 8 + (J.2.2.1 + 11) + 37 * J.2.2.2.2 ≤ _; omega⟩
  have hrun := va_runS (y := J.1) (l := eN E) (e := xe X) (below := xb X) (meth := xM X) (locs := locs) (cells := xk X) (slots := xn X) (rest := L2) (g := F0 (xm X) pc ls st) (nL := I.2.2.1) (H := H) (Ts := TT) ⟨hx, hb, hml, hown, hts⟩ hc ⟨cb, hts _ (hJ2 _ (by simp)).1⟩
    ⟨fun a U g mk z => ⟨z.1, z.2.1, Kn_blind a g mk z.2.2⟩, fun U hU hW => ⟨rfl, by rw [hU]; exact hP, Kn_call hK hAD hS hU hW⟩⟩
    rfl hn hl.1 hst (lv_room hrest) hd ⟨by omega, by omega⟩
  exact g_runB hrun hS hAD (fun S' r H1 locs1 hp hP1 hS1 => kk S' r hp C H1 locs1 ls hP1 hS1 hl)
end GR
end
section
section GF
variable {E : En} {X : Xt} {I : Ym} {S : St} {pc : Nat} {L : List (Nat × Value)} {st : List Value}
theorem kd_lt {k c : Nat} (h : kd k = c) (hc : c ≠ 99) : k < 72 := by
  rcases Nat.lt_or_ge k 72 with q | q
  · exact q
  · exfalso
    apply hc
    rw [← h]
    unfold kd
    rw [List.getD_eq_getElem?_getD, List.getElem?_eq_none (by exact q)]
    rfl
theorem cell_sI (E : En) (S : St) {k j : Nat} (v : Int32) {i : Nat} (h : i ≠ k) : cell E (sI S k j v) i = cell E S i := by
  have e : ∀ b, gI (sI S k j v) i b = gI S i b := fun b => gI_ne (fun q => h q.1)
  unfold cell
  simp only [e, gL_sI, gA_sI]
theorem cell_sL (E : En) (S : St) {k j : Nat} (v : Int64) {i : Nat} (h : i ≠ k) : cell E (sL S k j v) i = cell E S i := by
  have e : ∀ b, gL (sL S k j v) i b = gL S i b := fun b => by rw [gL_sL, if_neg (fun q => h q.1)]
  unfold cell
  simp only [e, gI_sL, gA_sL]
theorem cell_sA (E : En) (S : St) {k : Nat} (f : Nat → Int32) {i : Nat} (h : i ≠ k) : cell E (sA S k f) i = cell E S i := by
  unfold cell
  simp only [gI_sA, gL_sA, gA_ne h]
theorem cell_0 (E : En) (S : St) {k : Nat} (h : kd k = 0) : cell E S k = .inr (0, [.ref (eA E (34 + 6 * (k - 30))), .ref (eA E (34 + 6 * (k - 30) + 1)), .ref (eA E (34 + 6 * (k - 30) + 2)), .ref (eA E (34 + 6 * (k - 30) + 3)), .ref (eA E (34 + 6 * (k - 30) + 4)), .ref (eA E (34 + 6 * (k - 30) + 5)), .int (gI S k 6), .int (gI S k 7), .int (gI S k 8), .int (gI S k 9)]) := by unfold cell; rw [h]; rfl
theorem cell_3 (E : En) (S : St) {k : Nat} (h : kd k = 3) : cell E S k = .inr (3, [.ref (eA E (k + 10)), .int (gI S k 1)]) := by unfold cell; rw [h]; rfl
theorem cell_6 (E : En) (S : St) {k : Nat} (h : kd k = 6) : cell E S k = .inl (eI E, ln k, .inl (gA S k)) := by unfold cell; rw [h]; rfl
theorem cell_4 (E : En) (S : St) : cell E S 0 = .inr (4, [.ref (eA E 1), .ref (eA E 2), .ref (eA E 30), .ref (eA E 3), .ref (eA E 5), .ref (eA E 8), .ref (eA E 4), .int (gI S 0 7), .int (gI S 0 8), .long (gL S 0 9), .long (gL S 0 10)]) := rfl
theorem cell_5 (E : En) (S : St) : cell E S 58 = .inr (5, [.ref (eA E 59), .ref (eA E 60), .ref (eA E 61), .ref (eA E 62), .ref (eA E 63), .int (gI S 58 5), .ref (eA E 64), .int (gI S 58 7), .long (gL S 58 8), .long (gL S 58 9), .ref (eA E 65), .int (gI S 58 11), .int (gI S 58 12), .int (gI S 58 13), .int (gI S 58 14), .int (gI S 58 15), .ref (eA E 66), .ref (eA E 67), .ref (eA E 68), .ref (eA E 69), .ref (eA E 70), .ref (eA E 71), .long (gL S 58 22)]) := rfl
theorem cell_1 (E : En) (S : St) : cell E S 8 = .inr (1, [.ref (eA E 9)]) := rfl
theorem cell_2 (E : En) (S : St) : cell E S 5 = .inr (2, [.ref (eA E 6), .ref (eA E 7)]) := rfl
theorem rcv_X8 : rcv E S "GlowDebts" 0 := ⟨by omega, 4, _, _, cell_4 E S, rfl, rfl⟩
theorem rcv_X9 : rcv E S "GlowDebtsModel" 58 := ⟨by omega, 5, _, _, cell_5 E S, rfl, rfl⟩
theorem rcv_X4 : rcv E S "GlowDebts$Sets" 5 := ⟨by omega, 2, _, _, cell_2 E S, rfl, rfl⟩
theorem rcv_X1 : rcv E S "GlowDebts$Chains" 8 := ⟨by omega, 1, _, _, cell_1 E S, rfl, rfl⟩
theorem rcv_X0 {k : Nat} (h : kd k = 0) : rcv E S "GlowDebts$Bank" k := ⟨kd_lt h (by omega), 0, _, _, cell_0 E S h, rfl, rfl⟩
theorem rcv_X5 {k : Nat} (h : kd k = 3) : rcv E S "GlowDebts$Strip" k := ⟨kd_lt h (by omega), 3, _, _, cell_3 E S h, rfl, rfl⟩
theorem g_get {k ci j N idx : Nat} {C : String} {T : u_T} {fs : List Value} {v : Value} (hc : cell E S k = .inr (ci, fs)) (hk : k < 72) (hcl : vwCl[ci]? = some (C, T, N)) (hix : ∀ w ∈ u_ws C T N, w ∈ TT) (hj : j < N) (hw : Cond.fieldLink I.1.cls idx (T j).1 (T j).2.1 (T j).2.2.1 ∈ TT) (hv : fs[j]? = some v) (hd : decode I.2.1 pc = .ok (.getfield idx, 3)) (kk : G E X I S (pc + 3) L (v :: st)) : G E X I S pc L (.ref (eA E k) :: st) :=
  fun Y H locs ls hP hS hl => va_get Y.1 Y.2.1 Y.2.2.2.2.1 hix Y.2.2.2.1 Y.2.2.2.2.2.1.1 hP k ((wd_get hk).trans (by rw [hc])) hcl j hj (Y.2.2.2.2.1 _ hw) (fun _ h => h) hv hd (kk Y H locs ls hP hS hl)
theorem g_put {S' : St} {k ci j N idx : Nat} {C : String} {T : u_T} {fs : List Value} {v : Value} {ty : FieldType} (ty0 : Nat → FieldType) (hty : ∀ k, k < N → parseFieldDescriptor (T k).2.2.1 = some (ty0 k)) (hnm : ∀ a, a < N → ∀ b, b < N → a ≠ b → (T a).2.1 ≠ (T b).2.1) (hc : cell E S k = .inr (ci, fs)) (hc' : cell E S' k = .inr (ci, fs.set j v)) (ho : ∀ i, i < 72 → i ≠ k → cell E S' i = cell E S i) (hk : k < 72) (hcl : vwCl[ci]? = some (C, T, N)) (hix : ∀ w ∈ u_ws C T N, w ∈ TT) (hj : j < N) (hw : Cond.fieldLink I.1.cls idx (T j).1 (T j).2.1 (T j).2.2.1 ∈ TT) (hfin : (T j).2.2.2 = false) (htd : parseFieldDescriptor (T j).2.2.1 = some ty) (hn : narrow ty v = v) (hfit : fits ty v = true) (hl2 : j < fs.length) (hd : decode I.2.1 pc = .ok (.putfield idx, 3)) (kk : G E X I S' (pc + 3) L st) : G E X I S pc L (v :: .ref (eA E k) :: st) :=
  fun Y H locs ls hP hS hl => va_put Y.1 Y.2.1 Y.2.2.2.2.1 hix ty0 hty hnm Y.2.2.2.1 Y.2.2.2.2.2.1.1 hP (wd_D Y.2.2.2.2.2.1.2.2.2 Y.2.2.2.2.2.2.1) hS k ((wd_get hk).trans (by rw [hc])) hcl j hj (Y.2.2.2.2.1 _ hw) (fun _ h => h) hfin htd hn hfit hl2 hd (fun H1 locs1 hP1 _ hS1 => kk Y H1 locs1 ls (by rw [← hc', wd_set hk ho] at hP1; exact hP1) hS1 hl)
/-- a place of a row of ints is read -/
theorem g_iald (n : Nat) {k : Nat} {i : Int32} (hi : i = nI n) (hk : kd k = 6) (hn : n < ln k) (hb : ln k < 2 ^ 31) (hd : decode I.2.1 pc = .ok (.iaload, 1)) (kk : G E X I S (pc + 1) L (.int (gA S k n) :: st)) : G E X I S pc L (.int i :: .ref (eA E k) :: st) := by
  subst hi
  have hc : (nI n).toNatClampNeg = n := nI_clamp (by omega)
  intro Y H locs ls hP hS hl
  refine va_iald Y.1 Y.2.1 Y.2.2.2.2.2.1.1 hP k 0 ((wd_get (kd_lt hk (by omega))).trans (by rw [cell_6 E S hk])) rfl (vp_in_nI hn hb) hd ?_
  rw [hc]
  exact kk Y H locs ls hP hS hl
theorem g_iast (n : Nat) {k : Nat} {i x : Int32} (hi : i = nI n) (hk : kd k = 6) (hn : n < ln k) (hb : ln k < 2 ^ 31) (hd : decode I.2.1 pc = .ok (.iastore, 1)) (kk : G E X I (sA S k (upd (gA S k) n x)) (pc + 1) L st) : G E X I S pc L (.int x :: .int i :: .ref (eA E k) :: st) := by
  subst hi
  have hc : (nI n).toNatClampNeg = n := nI_clamp (by omega)
  have hk1 := kd_lt hk (by omega)
  intro Y H locs ls hP hS hl
  refine va_iast Y.1 Y.2.1 Y.2.2.2.2.2.1.1 hP (wd_D Y.2.2.2.2.2.1.2.2.2 Y.2.2.2.2.2.2.1) hS k 0 ((wd_get hk1).trans (by rw [cell_6 E S hk])) rfl (vp_in_nI hn hb) hd (fun H1 locs1 hP1 _ hS1 => kk Y H1 locs1 ls ?_ hS1 hl)
  have e := cell_6 E (sA S k (upd (gA S k) n x)) hk
  rw [gA_same] at e
  rw [hc, ← e, wd_set hk1 (fun i _ hne => cell_sA E S _ hne)] at hP1
  exact hP1
theorem g_alen {k : Nat} {v : Int32} (hk : kd k = 6) (hv : Int32.ofNat (ln k) = v) (hd : decode I.2.1 pc = .ok (.arraylength, 1)) (kk : G E X I S (pc + 1) L (.int v :: st)) : G E X I S pc L (.ref (eA E k) :: st) :=
  fun Y H locs ls hP hS hl => va_alen Y.1 Y.2.1 Y.2.2.2.2.2.1.1 hP k 0 ((wd_get (kd_lt hk (by omega))).trans (by rw [cell_6 E S hk])) rfl hv hd (kk Y H locs ls hP hS hl)
theorem g_alenS {k : Nat} {v : Int32} (hk : k = 1 ∨ k = 2) (hv : Int32.ofNat (ln k) = v) (hd : decode I.2.1 pc = .ok (.arraylength, 1)) (kk : G E X I S (pc + 1) L (.int v :: st)) : G E X I S pc L (.ref (eA E k) :: st) := by
  rcases hk with rfl | rfl
  · exact fun Y H locs ls hP hS hl => va_alen Y.1 Y.2.1 Y.2.2.2.2.2.1.1 hP 1 2 (wd_get (by omega)) rfl hv hd (kk Y H locs ls hP hS hl)
  · exact fun Y H locs ls hP hS hl => va_alen Y.1 Y.2.1 Y.2.2.2.2.2.1.1 hP 2 2 (wd_get (by omega)) rfl hv hd (kk Y H locs ls hP hS hl)
theorem g_alenB (hd : decode I.2.1 pc = .ok (.arraylength, 1)) (kk : G E X I S (pc + 1) L (.int 3 :: st)) : G E X I S pc L (.ref (eA E 3) :: st) :=
  fun Y H locs ls hP hS hl => va_alen Y.1 Y.2.1 Y.2.2.2.2.2.1.1 hP 3 1 (wd_get (by omega)) rfl rfl hd (kk Y H locs ls hP hS hl)
theorem g_aald1 (n : Nat) {i : Int32} (hi : i = nI n) (hn : n < 6) (hd : decode I.2.1 pc = .ok (.aaload, 1)) (kk : G E X I S (pc + 1) L (.ref (eA E (10 + n)) :: st)) : G E X I S pc L (.int i :: .ref (eA E 1) :: st) := by
  subst hi
  have hc : (nI n).toNatClampNeg = n := nI_clamp (by omega)
  intro Y H locs ls hP hS hl
  refine va_aldq Y.1 Y.2.1 Y.2.2.2.2.2.1.1 hP 1 2 (wd_get (by omega)) rfl (vp_in_nI (N := 6) hn (by omega)) hd ?_
  rw [hc]
  have e : (if n < ln 1 then some (eA E (if (1 : Nat) = 1 then 10 + n else 16 + n)) else none) = some (eA E (10 + n)) := by rw [if_pos (show n < ln 1 from hn), if_pos rfl]
  show Wx E X H locs (F0 _ _ _ (va_rf (if n < ln 1 then some (eA E (if (1 : Nat) = 1 then 10 + n else 16 + n)) else none) :: st))
  rw [e]
  exact kk Y H locs ls hP hS hl
theorem g_aald2 (n : Nat) {i : Int32} (hi : i = nI n) (hn : n < 4) (hd : decode I.2.1 pc = .ok (.aaload, 1)) (kk : G E X I S (pc + 1) L (.ref (eA E (16 + n)) :: st)) : G E X I S pc L (.int i :: .ref (eA E 2) :: st) := by
  subst hi
  have hc : (nI n).toNatClampNeg = n := nI_clamp (by omega)
  intro Y H locs ls hP hS hl
  refine va_aldq Y.1 Y.2.1 Y.2.2.2.2.2.1.1 hP 2 2 (wd_get (by omega)) rfl (vp_in_nI (N := 4) hn (by omega)) hd ?_
  rw [hc]
  have e : (if n < ln 2 then some (eA E (if (2 : Nat) = 1 then 10 + n else 16 + n)) else none) = some (eA E (16 + n)) := by rw [if_pos (show n < ln 2 from hn), if_neg (by omega)]
  show Wx E X H locs (F0 _ _ _ (va_rf (if n < ln 2 then some (eA E (if (2 : Nat) = 1 then 10 + n else 16 + n)) else none) :: st))
  rw [e]
  exact kk Y H locs ls hP hS hl
theorem g_aald3 (n : Nat) {i : Int32} (hi : i = nI n) (hn : n < 3) (hd : decode I.2.1 pc = .ok (.aaload, 1)) (kk : G E X I S (pc + 1) L (.ref (eA E (31 + n)) :: st)) : G E X I S pc L (.int i :: .ref (eA E 3) :: st) := by
  subst hi
  have hc : (nI n).toNatClampNeg = n := nI_clamp (by omega)
  intro Y H locs ls hP hS hl
  refine va_aldq Y.1 Y.2.1 Y.2.2.2.2.2.1.1 hP 3 1 (wd_get (by omega)) rfl (vp_in_nI (N := 3) hn (by omega)) hd ?_
  rw [hc]
  have e : (if n < 3 then some (eA E (31 + n)) else none) = some (eA E (31 + n)) := if_pos hn
  show Wx E X H locs (F0 _ _ _ (va_rf (if n < 3 then some (eA E (31 + n)) else none) :: st))
  rw [e]
  exact kk Y H locs ls hP hS hl
theorem g_letters (ho : I.1.cls = RX2) (hd : decode I.2.1 pc = .ok (.getstatic 9, 3)) (kk : G E X I S (pc + 3) L (.ref (eT E) :: st)) : G E X I S pc L st :=
  fun Y H locs ls hP hS hl => va_gets Y.1 Y.2.1 Y.2.2.2.2.2.1.2.2.1.1 hS Y.2.2.2.1 (Y.2.2.2.2.1 _ (ho ▸ fw_X2_9)) (fun _ h => h) hd (kk Y H locs ls hP hS hl)
theorem g_tlen (hd : decode I.2.1 pc = .ok (.arraylength, 1)) (kk : G E X I S (pc + 1) L (.int 6 :: st)) : G E X I S pc L (.ref (eT E) :: st) :=
  fun Y H locs ls hP hS hl => va_tlen Y.1 Y.2.1 Y.2.2.2.2.2.1.2.2.1.2 hS rfl hd (kk Y H locs ls hP hS hl)
theorem g_tald (n : Nat) {i : Int32} (hi : i = nI n) (hn : n < 6) (hd : decode I.2.1 pc = .ok (.iaload, 1)) (kk : G E X I S (pc + 1) L (letV n :: st)) : G E X I S pc L (.int i :: .ref (eT E) :: st) := by
  subst hi
  have hc : (nI n).toNatClampNeg = n := nI_clamp (by omega)
  exact fun Y H locs ls hP hS hl => va_ti Y.1 Y.2.1 Y.2.2.2.2.2.1.2.2.1.2 hS (vp_in_nI hn (by omega)) (by rw [hc]) hd (kk Y H locs ls hP hS hl)
theorem g_max {idx : Nat} {x y : Int32} (hw : Cond.methodLink I.1.cls idx Lib.Math.max.name ∈ TT) (hd : decode I.2.1 pc = .ok (.invokestatic idx, 3)) (h1 : 1 ≤ I.2.2.2.2) (h2 : (st.map fun v => v.category).sum + 13 ≤ 37) (kk : G E X I S (pc + 3) L (.int (if x < y then y else x) :: st)) : G E X I S pc L (.int y :: .int x :: st) :=
  fun Y H locs ls hP hS hl => va_mmax Y.1 Y.2.1 (Y.2.2.1.trans hl.1.symm) Y.2.2.2.1 (Y.2.2.2.2.1 _ hw) (Y.2.2.2.2.1 _ lw_max_s) (Y.2.2.2.2.1 _ in_J9) (Y.2.2.2.2.1 _ lw_max_c) (by have := Y.2.2.2.2.2.2.2.2.1.1; omega) (by have := Y.2.2.2.2.2.2.2.2.1.2; omega) Y.2.2.2.2.2.2.2.2.2.1 Y.2.2.2.2.2.2.2.2.2.2 hd (kk Y H locs ls hP hS hl)
theorem g_min {idx : Nat} {x y : Int32} (hw : Cond.methodLink I.1.cls idx Lib.Math.min.name ∈ TT) (hd : decode I.2.1 pc = .ok (.invokestatic idx, 3)) (h1 : 1 ≤ I.2.2.2.2) (h2 : (st.map fun v => v.category).sum + 13 ≤ 37) (kk : G E X I S (pc + 3) L (.int (if y < x then y else x) :: st)) : G E X I S pc L (.int y :: .int x :: st) :=
  fun Y H locs ls hP hS hl => va_mmin Y.1 Y.2.1 (Y.2.2.1.trans hl.1.symm) Y.2.2.2.1 (Y.2.2.2.2.1 _ hw) (Y.2.2.2.2.1 _ lw_min_s) (Y.2.2.2.2.1 _ in_J9) (Y.2.2.2.2.1 _ lw_min_c) (by have := Y.2.2.2.2.2.2.2.2.1.1; omega) (by have := Y.2.2.2.2.2.2.2.2.1.2; omega) Y.2.2.2.2.2.2.2.2.2.1 Y.2.2.2.2.2.2.2.2.2.2 hd (kk Y H locs ls hP hS hl)
theorem g_abs {idx : Nat} {x : Int32} (hw : Cond.methodLink I.1.cls idx Lib.Math.abs.name ∈ TT) (hd : decode I.2.1 pc = .ok (.invokestatic idx, 3)) (h1 : 1 ≤ I.2.2.2.2) (h2 : (st.map fun v => v.category).sum + 13 ≤ 37) (kk : G E X I S (pc + 3) L (.int (if 0 ≤ x then x else 0 - x) :: st)) : G E X I S pc L (.int x :: st) :=
  fun Y H locs ls hP hS hl => va_mabs Y.1 Y.2.1 (Y.2.2.1.trans hl.1.symm) Y.2.2.2.1 (Y.2.2.2.2.1 _ hw) (Y.2.2.2.2.1 _ lw_abs_s) (Y.2.2.2.2.1 _ in_J9) (Y.2.2.2.2.1 _ lw_abs_c) (by have := Y.2.2.2.2.2.2.2.2.1.1; omega) (by have := Y.2.2.2.2.2.2.2.2.1.2; omega) Y.2.2.2.2.2.2.2.2.2.1 Y.2.2.2.2.2.2.2.2.2.2 hd (kk Y H locs ls hP hS hl)
/-- System.arraycopy between rows of ints (one and the same, too) -/
theorem g_copy (a b z : Nat) {idx k0 k1 : Nat} {sp dp n : Int32} (hw : Cond.methodLink I.1.cls idx arraycopyName ∈ TT) (ha : sp = nI a) (hb : dp = nI b) (hz : n = nI z) (hk0 : kd k0 = 6) (hk1 : kd k1 = 6) (h4 : a + z ≤ ln k0) (h5 : b + z ≤ ln k1) (hb0 : ln k0 < 2 ^ 31) (hb1 : ln k1 < 2 ^ 31) (hd : decode I.2.1 pc = .ok (.invokestatic idx, 3)) (h1 : 1 ≤ I.2.2.2.2) (h2 : (st.map fun v => v.category).sum + 18 ≤ 37)
    (kk : G E X I (sA S k1 (va_cpy (gA S k0) (gA S k1) a b z)) (pc + 3) L st) : G E X I S pc L (.int n :: .int dp :: .ref (eA E k1) :: .int sp :: .ref (eA E k0) :: st) := by
  subst ha; subst hb; subst hz
  have c1 : (nI a).toNatClampNeg = a := nI_clamp (by omega)
  have c2 : (nI b).toNatClampNeg = b := nI_clamp (by omega)
  have c3 : (nI z).toNatClampNeg = z := nI_clamp (by omega)
  have q0 := kd_lt hk0 (by omega)
  have q1 := kd_lt hk1 (by omega)
  intro Y H locs ls hP hS hl
  refine va_copyi Y.1 Y.2.1 (Y.2.2.1.trans hl.1.symm) Y.2.2.2.1 (Y.2.2.2.2.1 _ hw) (Y.2.2.2.2.1 _ lw_copy_n) (Y.2.2.2.2.1 _ lw_copy_s) (Y.2.2.2.2.1 _ in_J10) Y.2.2.2.2.2.1.1 hP (wd_D Y.2.2.2.2.2.1.2.2.2 Y.2.2.2.2.2.2.1) hS k0 k1 0 0 (ty := .int) ((wd_get q0).trans (by rw [cell_6 E S hk0])) ((wd_get q1).trans (by rw [cell_6 E S hk1])) rfl rfl rfl (nI_pos (by omega)) (nI_pos (by omega)) (nI_pos (by omega)) (by rw [c1, c3]; exact h4) (by rw [c2, c3]; exact h5) (fun _ _ => rfl) (by have := Y.2.2.2.2.2.2.2.2.1.1; omega) ?_ hd (fun H1 locs1 hP1 _ hS1 => kk Y H1 locs1 ls ?_ hS1 hl)
  · have := Y.2.2.2.2.2.2.2.2.1.2
    have e : nativeFrameWords "java/lang/System" "arraycopy" 5 = 7 := by decide +kernel
    rw [e]
    omega
  · have e := cell_6 E (sA S k1 (va_cpy (gA S k0) (gA S k1) a b z)) hk1
    rw [gA_same] at e
    rw [c1, c2, c3, ← e, wd_set q1 (fun i _ hne => cell_sA E S _ hne)] at hP1
    exact hP1
/-- the one call of a private method of another class: Chains asks isPerson -/
theorem g_nest {As L2 : List Value} {Post : St → Option Value → Prop} (ho : I.1.cls = RX1) (hd : decode I.2.1 pc = .ok (.invokestatic 29, 3)) (hn : As.length = 1) (hc : CT E i_X8_isPerson S As Post) (hdep : i_X8_isPerson.2.2.2.2 + 1 ≤ I.2.2.2.2) (hst : st = As.reverse ++ L2) (hrest : (L2.map fun v => v.category).sum ≤ 8)
    (kk : ∀ (S' : St) (r : Option Value), Post S' r → G E X I S' (pc + 3) L (r.toList ++ L2)) : G E X I S pc L st := by
  intro Y H locs ls hP hS hl
  obtain ⟨hx, hb, hml, hown, hts, hK, hA, hlk, ⟨hf, hlo⟩, hcc, hss⟩ := id Y
  obtain ⟨hJ1, hJ2⟩ := j_X8_isPerson
  have hAD := AD_A hA
  have hpg : ∀ w ∈ wsD i_X8_isPerson, w ∈ TT ∧ ((w.onTables && w.keeps) = true ∨ ∃ ty, w = .arrayClass ty) := by
    intro w hw
    rcases List.mem_cons.mp hw with rfl | hw
    · exact hJ2 _ (by simp)
    · exact TT_ok w hw
  have cb := va_cnB (R := xR X) (s := xs X) (args := xa X) (own := I.1.cls) (host := "GlowDebts") (index := 29) (y := yX8_isPerson) (rm := rmD i_X8_isPerson.2.2.2.2) (mc := 0) (ms := 0) 1 hts hpg rfl rfl rfl (by rw [ho]; exact hK.2.1) (hts _ (hJ2 _ (by simp)).1) hJ1 ⟨by show i_X8_isPerson.2.2.2.2 + 1 ≤ _; omega, by show 8 + (1 + 11) + 37 * i_X8_isPerson.2.2.2.2 ≤ _; omega⟩
  have hrun := va_runSN (y := yX8_isPerson) (l := eN E) (e := xe X) (below := xb X) (meth := xM X) (locs := locs) (cells := xk X) (slots := xn X) (rest := L2) (g := F0 (xm X) pc ls st) (nL := I.2.2.1) (H := H) (Ts := TT) ⟨hx, hb, hml, hown, hts⟩ hc ⟨cb, hts _ (hJ2 _ (by simp)).1, trivial⟩
    ⟨fun a U g mk z => ⟨z.1, z.2.1, Kn_blind a g mk z.2.2⟩, fun U hU hW => ⟨rfl, by rw [hU]; exact hP, Kn_call hK hAD hS hU hW⟩⟩
    rfl hn hl.1 hst (lv_room hrest) hd ⟨by omega, by omega⟩
  exact g_runB hrun hS hAD (fun S' r H1 locs1 hp hP1 hS1 => kk S' r hp Y H1 locs1 ls hP1 hS1 hl)
/-- the calls, told exactly: an answer, or none -/
theorem g_invV {J : Ym} {n idx : Nat} {k : Nat} {As L2 : List Value} {S1 : St} {v : Value} (hJ : JV J n) (hm : Cond.methodLink I.1.cls idx J.1 ∈ TT) (hd : decode I.2.1 pc = .ok (.invokevirtual idx, 3)) (hk : rcv E S J.1.cls k) (hn : As.length = n) (hc : CTe E J S (.ref (eA E k) :: As) S1 (some v)) (hdep : J.2.2.2.2 + 1 ≤ I.2.2.2.2) (hnl : J.2.2.1 ≤ 18) (hst : st = As.reverse ++ .ref (eA E k) :: L2) (hrest : (L2.map fun v => v.category).sum ≤ 8) (kk : G E X I S1 (pc + 3) L (v :: L2)) : G E X I S pc L st :=
  g_invR hJ hm hd hk hn hc hdep hnl hst hrest (fun S' r h => by obtain ⟨rfl, rfl⟩ := h; exact kk)
theorem g_invN {J : Ym} {n idx : Nat} {k : Nat} {As L2 : List Value} {S1 : St} (hJ : JV J n) (hm : Cond.methodLink I.1.cls idx J.1 ∈ TT) (hd : decode I.2.1 pc = .ok (.invokevirtual idx, 3)) (hk : rcv E S J.1.cls k) (hn : As.length = n) (hc : CTe E J S (.ref (eA E k) :: As) S1 none) (hdep : J.2.2.2.2 + 1 ≤ I.2.2.2.2) (hnl : J.2.2.1 ≤ 18) (hst : st = As.reverse ++ .ref (eA E k) :: L2) (hrest : (L2.map fun v => v.category).sum ≤ 8) (kk : G E X I S1 (pc + 3) L L2) : G E X I S pc L st :=
  g_invR hJ hm hd hk hn hc hdep hnl hst hrest (fun S' r h => by obtain ⟨rfl, rfl⟩ := h; exact kk)
theorem g_invS {J : Ym} {n idx : Nat} {As L2 : List Value} {S1 : St} {v : Value} (hJ : JS J n) (hm : Cond.methodLink I.1.cls idx J.1 ∈ TT) (hd : decode I.2.1 pc = .ok (.invokestatic idx, 3)) (hn : As.length = n) (hc : CTe E J S As S1 (some v)) (hdep : J.2.2.2.2 + 1 ≤ I.2.2.2.2) (hnl : J.2.2.1 ≤ 18) (hst : st = As.reverse ++ L2) (hrest : (L2.map fun v => v.category).sum ≤ 8) (kk : G E X I S1 (pc + 3) L (v :: L2)) : G E X I S pc L st :=
  g_invSR hJ hm hd hn hc hdep hnl hst hrest (fun S' r h => by obtain ⟨rfl, rfl⟩ := h; exact kk)
theorem g_invSN {J : Ym} {n idx : Nat} {As L2 : List Value} {S1 : St} (hJ : JS J n) (hm : Cond.methodLink I.1.cls idx J.1 ∈ TT) (hd : decode I.2.1 pc = .ok (.invokestatic idx, 3)) (hn : As.length = n) (hc : CTe E J S As S1 none) (hdep : J.2.2.2.2 + 1 ≤ I.2.2.2.2) (hnl : J.2.2.1 ≤ 18) (hst : st = As.reverse ++ L2) (hrest : (L2.map fun v => v.category).sum ≤ 8) (kk : G E X I S1 (pc + 3) L L2) : G E X I S pc L st :=
  g_invSR hJ hm hd hn hc hdep hnl hst hrest (fun S' r h => by obtain ⟨rfl, rfl⟩ := h; exact kk)
/-- what a method's end needs of where it stands -/
def MX (E : En) (X : Xt) (I : Ym) (Post : St → Option Value → Prop) : Prop := xQ X = MQ (xb X) (Qg E Post) (xa X) (xs X) 0 0 (AD E) ∧ xA X = AD E ∧ (xM X).sig.returnType = I.2.2.2.1 ∧ xk X = 0 ∧ xn X = 0
theorem ct_of {args : List Value} {Post : St → Option Value → Prop} (L : List (Nat × Value)) (hy : plainName I.1.cls = true) (hlen : (lg_sl args).length ≤ I.2.2.1) (hL : lv_args 0 args = L) (hg : ∀ X, MX E X I Post → G E X I S 0 L []) : CT E I S args Post := by
  refine Met.ofW (cc := I.2.1) (maxL := I.2.2.1) (ret := I.2.2.2.1) hy rfl ?_
  intro p e s m as below meth c s₁ B hml hv
  obtain ⟨rfl, hP, hK⟩ := hv
  have hown : s.vm.findClass I.1.cls = some m.cls := findClass_of_methodNamed B.named
  have hts := atoms_spec (ws := wsD I) B.pre
  have hl := lv_entry args (n := I.2.2.1) hlen
  rw [lg_entry_eq]
  generalize (lg_sl args ++ List.replicate (I.2.2.1 - (lg_sl args).length) Slot.unset).toArray = ls at hl ⊢
  rw [hL] at hl
  exact hg ((p, e, rmD I.2.2.2.2, s), (m, args.toArray, below, meth, c), (0, 0), AD E, MQ below (Qg E Post) args.toArray s 0 0 (AD E)) ⟨rfl, rfl, B.returns, rfl, rfl⟩
    ⟨B.exec, B.bytes, hml, hown, fun w hw => hts w (List.mem_cons_of_mem _ hw), hK, fun k hk => ⟨k, hk, rfl⟩, B.notSynchronized, ⟨Nat.le_refl _, Nat.le_refl _⟩, Nat.zero_le _, Nat.zero_le _⟩ s.heap [] ls hP va_S.rf hl
theorem g_post {H : Heap} {locs : List Loc} {Post : St → Option Value → Prop} (hM : MX E X I Post) (hP : va_P (eD E) vwCl (wd E S) H) (hS : va_S (xA X) (xs X).heap H locs) {r : Option Value} (hp : Post S r) : (∀ t : State, t.heap = H → (xs X).WarmedH t.vm → Qg E Post (xa X) (xs X) (.returned r) t) ∧ (∀ q ∈ locs, AD E q.base) := by
  rw [hM.2.1] at hS
  exact ⟨fun t ht hW => ⟨⟨S, r, rfl, hp, by rw [ht]; exact hP⟩, hS.F ht⟩, hS.2.2⟩
theorem g_iret {Post : St → Option Value → Prop} {v : Int32} {ty : FieldType} (hM : MX E X I Post) (hr : I.2.2.2.1 = some ty) (hn : narrow ty (.int v) = .int v) (hp : Post S (some (.int v))) (hd : decode I.2.1 pc = .ok (.ireturn, 1)) : G E X I S pc L [.int v] := by
  intro Y H locs ls hP hS hl
  obtain ⟨h1, h2⟩ := g_post hM hP hS hp
  show W _ _ _ _ _ _ _ _ _ _ _ _ _ _ (xQ X) _
  rw [hM.1, hM.2.2.2.1, hM.2.2.2.2]
  exact W.zret (v := v) (ty := ty) Y.1 Y.2.1 (hM.2.2.1.trans hr) hn h1 h2 hd (hlocks := Y.2.2.2.2.2.2.2.1)
theorem g_lret {Post : St → Option Value → Prop} {v : Int64} (hM : MX E X I Post) (hr : I.2.2.2.1 = some .long) (hp : Post S (some (.long v))) (hd : decode I.2.1 pc = .ok (.lreturn, 1)) : G E X I S pc L [.long v] := by
  intro Y H locs ls hP hS hl
  obtain ⟨h1, h2⟩ := g_post hM hP hS hp
  show W _ _ _ _ _ _ _ _ _ _ _ _ _ _ (xQ X) _
  rw [hM.1, hM.2.2.2.1, hM.2.2.2.2]
  exact W.lret (v := v) Y.1 Y.2.1 (hM.2.2.1.trans hr) h1 h2 hd (hlocks := Y.2.2.2.2.2.2.2.1)
theorem g_vret {Post : St → Option Value → Prop} (hM : MX E X I Post) (hr : I.2.2.2.1 = none) (hp : Post S none) (hd : decode I.2.1 pc = .ok (.return_, 1)) : G E X I S pc L [] := by
  intro Y H locs ls hP hS hl
  obtain ⟨h1, h2⟩ := g_post hM hP hS hp
  show W _ _ _ _ _ _ _ _ _ _ _ _ _ _ (xQ X) _
  rw [hM.1, hM.2.2.2.1, hM.2.2.2.2]
  exact W.vret Y.1 Y.2.1 (hM.2.2.1.trans hr) h1 h2 hd (hlocks := Y.2.2.2.2.2.2.2.1)
theorem g_aret {Post : St → Option Value → Prop} {v : Value} {C : String} (hM : MX E X I Post) (hr : I.2.2.2.1 = some (.object C)) (hv : v = .null ∨ ∃ a, v = .ref a) (hp : Post S (some v)) (hd : decode I.2.1 pc = .ok (.areturn, 1)) : G E X I S pc L [v] := by
  intro Y H locs ls hP hS hl
  obtain ⟨h1, h2⟩ := g_post hM hP hS hp
  show W _ _ _ _ _ _ _ _ _ _ _ _ _ _ (xQ X) _
  rw [hM.1, hM.2.2.2.1, hM.2.2.2.2]
  exact W.aret (v := v) Y.1 Y.2.1 (hM.2.2.1.trans hr) (Or.inl ⟨C, rfl⟩) hv h1 h2 hd (hlocks := Y.2.2.2.2.2.2.2.1)
theorem pf_X8_47 {x : Int32} (ho : I.1.cls = RX8) (hd : decode I.2.1 pc = .ok (.putfield 47, 3)) (kk : G E X I (sI S 0 7 x) (pc + 3) L st) : G E X I S pc L (.int x :: .ref (eA E 0) :: st) := by
  have e := (cell_4 E (sI S 0 7 x))
  simp only [gI_sI, gL_sI, gI_sL, gL_sL] at e
  exact g_put (k := 0) (j := 7) (ty := .int) tyX8 tyX8_ok nmX8 (cell_4 E S) (e.trans (by simp)) (fun i _ hne => cell_sI E S _ hne) (by omega) rfl ix_X8 (by omega) (ho ▸ fw_X8_47) rfl (by decide +kernel) rfl rfl (by show 7 < 11; omega) hd kk
theorem pf_X8_51 {x : Int32} (ho : I.1.cls = RX8) (hd : decode I.2.1 pc = .ok (.putfield 51, 3)) (kk : G E X I (sI S 0 8 x) (pc + 3) L st) : G E X I S pc L (.int x :: .ref (eA E 0) :: st) := by
  have e := (cell_4 E (sI S 0 8 x))
  simp only [gI_sI, gL_sI, gI_sL, gL_sL] at e
  exact g_put (k := 0) (j := 8) (ty := .int) tyX8 tyX8_ok nmX8 (cell_4 E S) (e.trans (by simp)) (fun i _ hne => cell_sI E S _ hne) (by omega) rfl ix_X8 (by omega) (ho ▸ fw_X8_51) rfl (by decide +kernel) rfl rfl (by show 8 < 11; omega) hd kk
theorem pf_X8_54 {x : Int64} (ho : I.1.cls = RX8) (hd : decode I.2.1 pc = .ok (.putfield 54, 3)) (kk : G E X I (sL S 0 9 x) (pc + 3) L st) : G E X I S pc L (.long x :: .ref (eA E 0) :: st) := by
  have e := (cell_4 E (sL S 0 9 x))
  simp only [gI_sI, gL_sI, gI_sL, gL_sL] at e
  exact g_put (k := 0) (j := 9) (ty := .long) tyX8 tyX8_ok nmX8 (cell_4 E S) (e.trans (by simp)) (fun i _ hne => cell_sL E S _ hne) (by omega) rfl ix_X8 (by omega) (ho ▸ fw_X8_54) rfl (by decide +kernel) rfl rfl (by show 9 < 11; omega) hd kk
theorem pf_X8_58 {x : Int64} (ho : I.1.cls = RX8) (hd : decode I.2.1 pc = .ok (.putfield 58, 3)) (kk : G E X I (sL S 0 10 x) (pc + 3) L st) : G E X I S pc L (.long x :: .ref (eA E 0) :: st) := by
  have e := (cell_4 E (sL S 0 10 x))
  simp only [gI_sI, gL_sI, gI_sL, gL_sL] at e
  exact g_put (k := 0) (j := 10) (ty := .long) tyX8 tyX8_ok nmX8 (cell_4 E S) (e.trans (by simp)) (fun i _ hne => cell_sL E S _ hne) (by omega) rfl ix_X8 (by omega) (ho ▸ fw_X8_58) rfl (by decide +kernel) rfl rfl (by show 10 < 11; omega) hd kk
theorem gf_X8_11 (ho : I.1.cls = RX8) (hd : decode I.2.1 pc = .ok (.getfield 11, 3)) (kk : G E X I S (pc + 3) L (.ref (eA E 1) :: st)) : G E X I S pc L (.ref (eA E 0) :: st) := g_get (k := 0) (j := 0) (cell_4 E S) (by omega) rfl ix_X8 (by omega) (ho ▸ fw_X8_11) rfl hd kk
theorem gf_X8_15 (ho : I.1.cls = RX8) (hd : decode I.2.1 pc = .ok (.getfield 15, 3)) (kk : G E X I S (pc + 3) L (.ref (eA E 2) :: st)) : G E X I S pc L (.ref (eA E 0) :: st) := g_get (k := 0) (j := 1) (cell_4 E S) (by omega) rfl ix_X8 (by omega) (ho ▸ fw_X8_15) rfl hd kk
theorem gf_X8_25 (ho : I.1.cls = RX8) (hd : decode I.2.1 pc = .ok (.getfield 25, 3)) (kk : G E X I S (pc + 3) L (.ref (eA E 3) :: st)) : G E X I S pc L (.ref (eA E 0) :: st) := g_get (k := 0) (j := 3) (cell_4 E S) (by omega) rfl ix_X8 (by omega) (ho ▸ fw_X8_25) rfl hd kk
theorem gf_X8_21 (ho : I.1.cls = RX8) (hd : decode I.2.1 pc = .ok (.getfield 21, 3)) (kk : G E X I S (pc + 3) L (.ref (eA E 30) :: st)) : G E X I S pc L (.ref (eA E 0) :: st) := g_get (k := 0) (j := 2) (cell_4 E S) (by omega) rfl ix_X8 (by omega) (ho ▸ fw_X8_21) rfl hd kk
theorem gf_X8_32 (ho : I.1.cls = RX8) (hd : decode I.2.1 pc = .ok (.getfield 32, 3)) (kk : G E X I S (pc + 3) L (.ref (eA E 5) :: st)) : G E X I S pc L (.ref (eA E 0) :: st) := g_get (k := 0) (j := 4) (cell_4 E S) (by omega) rfl ix_X8 (by omega) (ho ▸ fw_X8_32) rfl hd kk
theorem gf_X8_39 (ho : I.1.cls = RX8) (hd : decode I.2.1 pc = .ok (.getfield 39, 3)) (kk : G E X I S (pc + 3) L (.ref (eA E 8) :: st)) : G E X I S pc L (.ref (eA E 0) :: st) := g_get (k := 0) (j := 5) (cell_4 E S) (by omega) rfl ix_X8 (by omega) (ho ▸ fw_X8_39) rfl hd kk
theorem gf_X8_51 (ho : I.1.cls = RX8) (hd : decode I.2.1 pc = .ok (.getfield 51, 3)) (kk : G E X I S (pc + 3) L (.int (gI S 0 8) :: st)) : G E X I S pc L (.ref (eA E 0) :: st) := g_get (k := 0) (j := 8) (cell_4 E S) (by omega) rfl ix_X8 (by omega) (ho ▸ fw_X8_51) rfl hd kk
theorem gf_X8_54 (ho : I.1.cls = RX8) (hd : decode I.2.1 pc = .ok (.getfield 54, 3)) (kk : G E X I S (pc + 3) L (.long (gL S 0 9) :: st)) : G E X I S pc L (.ref (eA E 0) :: st) := g_get (k := 0) (j := 9) (cell_4 E S) (by omega) rfl ix_X8 (by omega) (ho ▸ fw_X8_54) rfl hd kk
theorem gf_X8_58 (ho : I.1.cls = RX8) (hd : decode I.2.1 pc = .ok (.getfield 58, 3)) (kk : G E X I S (pc + 3) L (.long (gL S 0 10) :: st)) : G E X I S pc L (.ref (eA E 0) :: st) := g_get (k := 0) (j := 10) (cell_4 E S) (by omega) rfl ix_X8 (by omega) (ho ▸ fw_X8_58) rfl hd kk
theorem gf_X8_47 (ho : I.1.cls = RX8) (hd : decode I.2.1 pc = .ok (.getfield 47, 3)) (kk : G E X I S (pc + 3) L (.int (gI S 0 7) :: st)) : G E X I S pc L (.ref (eA E 0) :: st) := g_get (k := 0) (j := 7) (cell_4 E S) (by omega) rfl ix_X8 (by omega) (ho ▸ fw_X8_47) rfl hd kk
theorem gf_X8_43 (ho : I.1.cls = RX8) (hd : decode I.2.1 pc = .ok (.getfield 43, 3)) (kk : G E X I S (pc + 3) L (.ref (eA E 4) :: st)) : G E X I S pc L (.ref (eA E 0) :: st) := g_get (k := 0) (j := 6) (cell_4 E S) (by omega) rfl ix_X8 (by omega) (ho ▸ fw_X8_43) rfl hd kk
theorem pf_X9_28 {x : Int64} (ho : I.1.cls = RX9) (hd : decode I.2.1 pc = .ok (.putfield 28, 3)) (kk : G E X I (sL S 58 9 x) (pc + 3) L st) : G E X I S pc L (.long x :: .ref (eA E 58) :: st) := by
  have e := (cell_5 E (sL S 58 9 x))
  simp only [gI_sI, gL_sI, gI_sL, gL_sL] at e
  exact g_put (k := 58) (j := 9) (ty := .long) tyX9 tyX9_ok nmX9 (cell_5 E S) (e.trans (by simp)) (fun i _ hne => cell_sL E S _ hne) (by omega) rfl ix_X9 (by omega) (ho ▸ fw_X9_28) rfl (by decide +kernel) rfl rfl (by show 9 < 23; omega) hd kk
theorem gf_X9_13 (ho : I.1.cls = RX9) (hd : decode I.2.1 pc = .ok (.getfield 13, 3)) (kk : G E X I S (pc + 3) L (.ref (eA E 60) :: st)) : G E X I S pc L (.ref (eA E 58) :: st) := g_get (k := 58) (j := 1) (cell_5 E S) (by omega) rfl ix_X9 (by omega) (ho ▸ fw_X9_13) rfl hd kk
theorem gf_X9_19 (ho : I.1.cls = RX9) (hd : decode I.2.1 pc = .ok (.getfield 19, 3)) (kk : G E X I S (pc + 3) L (.ref (eA E 62) :: st)) : G E X I S pc L (.ref (eA E 58) :: st) := g_get (k := 58) (j := 3) (cell_5 E S) (by omega) rfl ix_X9 (by omega) (ho ▸ fw_X9_19) rfl hd kk
theorem pf_X9_53 {x : Int32} (ho : I.1.cls = RX9) (hd : decode I.2.1 pc = .ok (.putfield 53, 3)) (kk : G E X I (sI S 58 5 x) (pc + 3) L st) : G E X I S pc L (.int x :: .ref (eA E 58) :: st) := by
  have e := (cell_5 E (sI S 58 5 x))
  simp only [gI_sI, gL_sI, gI_sL, gL_sL] at e
  exact g_put (k := 58) (j := 5) (ty := .int) tyX9 tyX9_ok nmX9 (cell_5 E S) (e.trans (by simp)) (fun i _ hne => cell_sI E S _ hne) (by omega) rfl ix_X9 (by omega) (ho ▸ fw_X9_53) rfl (by decide +kernel) rfl rfl (by show 5 < 23; omega) hd kk
theorem gf_X9_25 (ho : I.1.cls = RX9) (hd : decode I.2.1 pc = .ok (.getfield 25, 3)) (kk : G E X I S (pc + 3) L (.ref (eA E 64) :: st)) : G E X I S pc L (.ref (eA E 58) :: st) := g_get (k := 58) (j := 6) (cell_5 E S) (by omega) rfl ix_X9 (by omega) (ho ▸ fw_X9_25) rfl hd kk
theorem pf_X9_57 {x : Int32} (ho : I.1.cls = RX9) (hd : decode I.2.1 pc = .ok (.putfield 57, 3)) (kk : G E X I (sI S 58 7 x) (pc + 3) L st) : G E X I S pc L (.int x :: .ref (eA E 58) :: st) := by
  have e := (cell_5 E (sI S 58 7 x))
  simp only [gI_sI, gL_sI, gI_sL, gL_sL] at e
  exact g_put (k := 58) (j := 7) (ty := .int) tyX9 tyX9_ok nmX9 (cell_5 E S) (e.trans (by simp)) (fun i _ hne => cell_sI E S _ hne) (by omega) rfl ix_X9 (by omega) (ho ▸ fw_X9_57) rfl (by decide +kernel) rfl rfl (by show 7 < 23; omega) hd kk
theorem gf_X9_7 (ho : I.1.cls = RX9) (hd : decode I.2.1 pc = .ok (.getfield 7, 3)) (kk : G E X I S (pc + 3) L (.ref (eA E 59) :: st)) : G E X I S pc L (.ref (eA E 58) :: st) := g_get (k := 58) (j := 0) (cell_5 E S) (by omega) rfl ix_X9 (by omega) (ho ▸ fw_X9_7) rfl hd kk
theorem gf_X9_16 (ho : I.1.cls = RX9) (hd : decode I.2.1 pc = .ok (.getfield 16, 3)) (kk : G E X I S (pc + 3) L (.ref (eA E 61) :: st)) : G E X I S pc L (.ref (eA E 58) :: st) := g_get (k := 58) (j := 2) (cell_5 E S) (by omega) rfl ix_X9 (by omega) (ho ▸ fw_X9_16) rfl hd kk
theorem gf_X9_32 (ho : I.1.cls = RX9) (hd : decode I.2.1 pc = .ok (.getfield 32, 3)) (kk : G E X I S (pc + 3) L (.ref (eA E 65) :: st)) : G E X I S pc L (.ref (eA E 58) :: st) := g_get (k := 58) (j := 10) (cell_5 E S) (by omega) rfl ix_X9 (by omega) (ho ▸ fw_X9_32) rfl hd kk
theorem gf_X9_22 (ho : I.1.cls = RX9) (hd : decode I.2.1 pc = .ok (.getfield 22, 3)) (kk : G E X I S (pc + 3) L (.ref (eA E 63) :: st)) : G E X I S pc L (.ref (eA E 58) :: st) := g_get (k := 58) (j := 4) (cell_5 E S) (by omega) rfl ix_X9 (by omega) (ho ▸ fw_X9_22) rfl hd kk
theorem gf_X9_83 (ho : I.1.cls = RX9) (hd : decode I.2.1 pc = .ok (.getfield 83, 3)) (kk : G E X I S (pc + 3) L (.int (gI S 58 12) :: st)) : G E X I S pc L (.ref (eA E 58) :: st) := g_get (k := 58) (j := 12) (cell_5 E S) (by omega) rfl ix_X9 (by omega) (ho ▸ fw_X9_83) rfl hd kk
theorem gf_X9_86 (ho : I.1.cls = RX9) (hd : decode I.2.1 pc = .ok (.getfield 86, 3)) (kk : G E X I S (pc + 3) L (.int (gI S 58 13) :: st)) : G E X I S pc L (.ref (eA E 58) :: st) := g_get (k := 58) (j := 13) (cell_5 E S) (by omega) rfl ix_X9 (by omega) (ho ▸ fw_X9_86) rfl hd kk
theorem gf_X9_89 (ho : I.1.cls = RX9) (hd : decode I.2.1 pc = .ok (.getfield 89, 3)) (kk : G E X I S (pc + 3) L (.int (gI S 58 11) :: st)) : G E X I S pc L (.ref (eA E 58) :: st) := g_get (k := 58) (j := 11) (cell_5 E S) (by omega) rfl ix_X9 (by omega) (ho ▸ fw_X9_89) rfl hd kk
theorem pf_X9_96 {x : Int32} (ho : I.1.cls = RX9) (hd : decode I.2.1 pc = .ok (.putfield 96, 3)) (kk : G E X I (sI S 58 14 x) (pc + 3) L st) : G E X I S pc L (.int x :: .ref (eA E 58) :: st) := by
  have e := (cell_5 E (sI S 58 14 x))
  simp only [gI_sI, gL_sI, gI_sL, gL_sL] at e
  exact g_put (k := 58) (j := 14) (ty := .int) tyX9 tyX9_ok nmX9 (cell_5 E S) (e.trans (by simp)) (fun i _ hne => cell_sI E S _ hne) (by omega) rfl ix_X9 (by omega) (ho ▸ fw_X9_96) rfl (by decide +kernel) rfl rfl (by show 14 < 23; omega) hd kk
theorem pf_X9_83 {x : Int32} (ho : I.1.cls = RX9) (hd : decode I.2.1 pc = .ok (.putfield 83, 3)) (kk : G E X I (sI S 58 12 x) (pc + 3) L st) : G E X I S pc L (.int x :: .ref (eA E 58) :: st) := by
  have e := (cell_5 E (sI S 58 12 x))
  simp only [gI_sI, gL_sI, gI_sL, gL_sL] at e
  exact g_put (k := 58) (j := 12) (ty := .int) tyX9 tyX9_ok nmX9 (cell_5 E S) (e.trans (by simp)) (fun i _ hne => cell_sI E S _ hne) (by omega) rfl ix_X9 (by omega) (ho ▸ fw_X9_83) rfl (by decide +kernel) rfl rfl (by show 12 < 23; omega) hd kk
theorem gf_X9_102 (ho : I.1.cls = RX9) (hd : decode I.2.1 pc = .ok (.getfield 102, 3)) (kk : G E X I S (pc + 3) L (.int (gI S 58 15) :: st)) : G E X I S pc L (.ref (eA E 58) :: st) := g_get (k := 58) (j := 15) (cell_5 E S) (by omega) rfl ix_X9 (by omega) (ho ▸ fw_X9_102) rfl hd kk
theorem gf_X9_35 (ho : I.1.cls = RX9) (hd : decode I.2.1 pc = .ok (.getfield 35, 3)) (kk : G E X I S (pc + 3) L (.ref (eA E 66) :: st)) : G E X I S pc L (.ref (eA E 58) :: st) := g_get (k := 58) (j := 16) (cell_5 E S) (by omega) rfl ix_X9 (by omega) (ho ▸ fw_X9_35) rfl hd kk
theorem gf_X9_96 (ho : I.1.cls = RX9) (hd : decode I.2.1 pc = .ok (.getfield 96, 3)) (kk : G E X I S (pc + 3) L (.int (gI S 58 14) :: st)) : G E X I S pc L (.ref (eA E 58) :: st) := g_get (k := 58) (j := 14) (cell_5 E S) (by omega) rfl ix_X9 (by omega) (ho ▸ fw_X9_96) rfl hd kk
theorem pf_X9_102 {x : Int32} (ho : I.1.cls = RX9) (hd : decode I.2.1 pc = .ok (.putfield 102, 3)) (kk : G E X I (sI S 58 15 x) (pc + 3) L st) : G E X I S pc L (.int x :: .ref (eA E 58) :: st) := by
  have e := (cell_5 E (sI S 58 15 x))
  simp only [gI_sI, gL_sI, gI_sL, gL_sL] at e
  exact g_put (k := 58) (j := 15) (ty := .int) tyX9 tyX9_ok nmX9 (cell_5 E S) (e.trans (by simp)) (fun i _ hne => cell_sI E S _ hne) (by omega) rfl ix_X9 (by omega) (ho ▸ fw_X9_102) rfl (by decide +kernel) rfl rfl (by show 15 < 23; omega) hd kk
theorem pf_X9_89 {x : Int32} (ho : I.1.cls = RX9) (hd : decode I.2.1 pc = .ok (.putfield 89, 3)) (kk : G E X I (sI S 58 11 x) (pc + 3) L st) : G E X I S pc L (.int x :: .ref (eA E 58) :: st) := by
  have e := (cell_5 E (sI S 58 11 x))
  simp only [gI_sI, gL_sI, gI_sL, gL_sL] at e
  exact g_put (k := 58) (j := 11) (ty := .int) tyX9 tyX9_ok nmX9 (cell_5 E S) (e.trans (by simp)) (fun i _ hne => cell_sI E S _ hne) (by omega) rfl ix_X9 (by omega) (ho ▸ fw_X9_89) rfl (by decide +kernel) rfl rfl (by show 11 < 23; omega) hd kk
theorem pf_X9_86 {x : Int32} (ho : I.1.cls = RX9) (hd : decode I.2.1 pc = .ok (.putfield 86, 3)) (kk : G E X I (sI S 58 13 x) (pc + 3) L st) : G E X I S pc L (.int x :: .ref (eA E 58) :: st) := by
  have e := (cell_5 E (sI S 58 13 x))
  simp only [gI_sI, gL_sI, gI_sL, gL_sL] at e
  exact g_put (k := 58) (j := 13) (ty := .int) tyX9 tyX9_ok nmX9 (cell_5 E S) (e.trans (by simp)) (fun i _ hne => cell_sI E S _ hne) (by omega) rfl ix_X9 (by omega) (ho ▸ fw_X9_86) rfl (by decide +kernel) rfl rfl (by show 13 < 23; omega) hd kk
theorem gf_X9_38 (ho : I.1.cls = RX9) (hd : decode I.2.1 pc = .ok (.getfield 38, 3)) (kk : G E X I S (pc + 3) L (.ref (eA E 67) :: st)) : G E X I S pc L (.ref (eA E 58) :: st) := g_get (k := 58) (j := 17) (cell_5 E S) (by omega) rfl ix_X9 (by omega) (ho ▸ fw_X9_38) rfl hd kk
theorem gf_X9_41 (ho : I.1.cls = RX9) (hd : decode I.2.1 pc = .ok (.getfield 41, 3)) (kk : G E X I S (pc + 3) L (.ref (eA E 68) :: st)) : G E X I S pc L (.ref (eA E 58) :: st) := g_get (k := 58) (j := 18) (cell_5 E S) (by omega) rfl ix_X9 (by omega) (ho ▸ fw_X9_41) rfl hd kk
theorem gf_X9_44 (ho : I.1.cls = RX9) (hd : decode I.2.1 pc = .ok (.getfield 44, 3)) (kk : G E X I S (pc + 3) L (.ref (eA E 69) :: st)) : G E X I S pc L (.ref (eA E 58) :: st) := g_get (k := 58) (j := 19) (cell_5 E S) (by omega) rfl ix_X9 (by omega) (ho ▸ fw_X9_44) rfl hd kk
theorem gf_X9_47 (ho : I.1.cls = RX9) (hd : decode I.2.1 pc = .ok (.getfield 47, 3)) (kk : G E X I S (pc + 3) L (.ref (eA E 70) :: st)) : G E X I S pc L (.ref (eA E 58) :: st) := g_get (k := 58) (j := 20) (cell_5 E S) (by omega) rfl ix_X9 (by omega) (ho ▸ fw_X9_47) rfl hd kk
theorem gf_X9_50 (ho : I.1.cls = RX9) (hd : decode I.2.1 pc = .ok (.getfield 50, 3)) (kk : G E X I S (pc + 3) L (.ref (eA E 71) :: st)) : G E X I S pc L (.ref (eA E 58) :: st) := g_get (k := 58) (j := 21) (cell_5 E S) (by omega) rfl ix_X9 (by omega) (ho ▸ fw_X9_50) rfl hd kk
theorem pf_X9_223 {x : Int64} (ho : I.1.cls = RX9) (hd : decode I.2.1 pc = .ok (.putfield 223, 3)) (kk : G E X I (sL S 58 8 x) (pc + 3) L st) : G E X I S pc L (.long x :: .ref (eA E 58) :: st) := by
  have e := (cell_5 E (sL S 58 8 x))
  simp only [gI_sI, gL_sI, gI_sL, gL_sL] at e
  exact g_put (k := 58) (j := 8) (ty := .long) tyX9 tyX9_ok nmX9 (cell_5 E S) (e.trans (by simp)) (fun i _ hne => cell_sL E S _ hne) (by omega) rfl ix_X9 (by omega) (ho ▸ fw_X9_223) rfl (by decide +kernel) rfl rfl (by show 8 < 23; omega) hd kk
theorem gf_X9_57 (ho : I.1.cls = RX9) (hd : decode I.2.1 pc = .ok (.getfield 57, 3)) (kk : G E X I S (pc + 3) L (.int (gI S 58 7) :: st)) : G E X I S pc L (.ref (eA E 58) :: st) := g_get (k := 58) (j := 7) (cell_5 E S) (by omega) rfl ix_X9 (by omega) (ho ▸ fw_X9_57) rfl hd kk
theorem gf_X9_223 (ho : I.1.cls = RX9) (hd : decode I.2.1 pc = .ok (.getfield 223, 3)) (kk : G E X I S (pc + 3) L (.long (gL S 58 8) :: st)) : G E X I S pc L (.ref (eA E 58) :: st) := g_get (k := 58) (j := 8) (cell_5 E S) (by omega) rfl ix_X9 (by omega) (ho ▸ fw_X9_223) rfl hd kk
theorem gf_X9_28 (ho : I.1.cls = RX9) (hd : decode I.2.1 pc = .ok (.getfield 28, 3)) (kk : G E X I S (pc + 3) L (.long (gL S 58 9) :: st)) : G E X I S pc L (.ref (eA E 58) :: st) := g_get (k := 58) (j := 9) (cell_5 E S) (by omega) rfl ix_X9 (by omega) (ho ▸ fw_X9_28) rfl hd kk
theorem gf_X9_53 (ho : I.1.cls = RX9) (hd : decode I.2.1 pc = .ok (.getfield 53, 3)) (kk : G E X I S (pc + 3) L (.int (gI S 58 5) :: st)) : G E X I S pc L (.ref (eA E 58) :: st) := g_get (k := 58) (j := 5) (cell_5 E S) (by omega) rfl ix_X9 (by omega) (ho ▸ fw_X9_53) rfl hd kk
theorem gf_X9_261 (ho : I.1.cls = RX9) (hd : decode I.2.1 pc = .ok (.getfield 261, 3)) (kk : G E X I S (pc + 3) L (.long (gL S 58 22) :: st)) : G E X I S pc L (.ref (eA E 58) :: st) := g_get (k := 58) (j := 22) (cell_5 E S) (by omega) rfl ix_X9 (by omega) (ho ▸ fw_X9_261) rfl hd kk
theorem pf_X9_261 {x : Int64} (ho : I.1.cls = RX9) (hd : decode I.2.1 pc = .ok (.putfield 261, 3)) (kk : G E X I (sL S 58 22 x) (pc + 3) L st) : G E X I S pc L (.long x :: .ref (eA E 58) :: st) := by
  have e := (cell_5 E (sL S 58 22 x))
  simp only [gI_sI, gL_sI, gI_sL, gL_sL] at e
  exact g_put (k := 58) (j := 22) (ty := .long) tyX9 tyX9_ok nmX9 (cell_5 E S) (e.trans (by simp)) (fun i _ hne => cell_sL E S _ hne) (by omega) rfl ix_X9 (by omega) (ho ▸ fw_X9_261) rfl (by decide +kernel) rfl rfl (by show 22 < 23; omega) hd kk
theorem pf_X0_30 {k : Nat} (h : kd k = 0) {x : Int32} (ho : I.1.cls = RX0) (hd : decode I.2.1 pc = .ok (.putfield 30, 3)) (kk : G E X I (sI S k 6 x) (pc + 3) L st) : G E X I S pc L (.int x :: .ref (eA E k) :: st) := by
  have e := (cell_0 E (sI S k 6 x) h)
  simp only [gI_sI, gL_sI, gI_sL, gL_sL] at e
  exact g_put (k := k) (j := 6) (ty := .int) tyX0 tyX0_ok nmX0 (cell_0 E S h) (e.trans (by simp)) (fun i _ hne => cell_sI E S _ hne) (kd_lt h (by omega)) rfl ix_X0 (by omega) (ho ▸ fw_X0_30) rfl (by decide +kernel) rfl rfl (by show 6 < 10; omega) hd kk
theorem pf_X0_34 {k : Nat} (h : kd k = 0) {x : Int32} (ho : I.1.cls = RX0) (hd : decode I.2.1 pc = .ok (.putfield 34, 3)) (kk : G E X I (sI S k 7 x) (pc + 3) L st) : G E X I S pc L (.int x :: .ref (eA E k) :: st) := by
  have e := (cell_0 E (sI S k 7 x) h)
  simp only [gI_sI, gL_sI, gI_sL, gL_sL] at e
  exact g_put (k := k) (j := 7) (ty := .int) tyX0 tyX0_ok nmX0 (cell_0 E S h) (e.trans (by simp)) (fun i _ hne => cell_sI E S _ hne) (kd_lt h (by omega)) rfl ix_X0 (by omega) (ho ▸ fw_X0_34) rfl (by decide +kernel) rfl rfl (by show 7 < 10; omega) hd kk
theorem pf_X0_37 {k : Nat} (h : kd k = 0) {x : Int32} (ho : I.1.cls = RX0) (hd : decode I.2.1 pc = .ok (.putfield 37, 3)) (kk : G E X I (sI S k 8 x) (pc + 3) L st) : G E X I S pc L (.int x :: .ref (eA E k) :: st) := by
  have e := (cell_0 E (sI S k 8 x) h)
  simp only [gI_sI, gL_sI, gI_sL, gL_sL] at e
  exact g_put (k := k) (j := 8) (ty := .int) tyX0 tyX0_ok nmX0 (cell_0 E S h) (e.trans (by simp)) (fun i _ hne => cell_sI E S _ hne) (kd_lt h (by omega)) rfl ix_X0 (by omega) (ho ▸ fw_X0_37) rfl (by decide +kernel) rfl rfl (by show 8 < 10; omega) hd kk
theorem pf_X0_40 {k : Nat} (h : kd k = 0) {x : Int32} (ho : I.1.cls = RX0) (hd : decode I.2.1 pc = .ok (.putfield 40, 3)) (kk : G E X I (sI S k 9 x) (pc + 3) L st) : G E X I S pc L (.int x :: .ref (eA E k) :: st) := by
  have e := (cell_0 E (sI S k 9 x) h)
  simp only [gI_sI, gL_sI, gI_sL, gL_sL] at e
  exact g_put (k := k) (j := 9) (ty := .int) tyX0 tyX0_ok nmX0 (cell_0 E S h) (e.trans (by simp)) (fun i _ hne => cell_sI E S _ hne) (kd_lt h (by omega)) rfl ix_X0 (by omega) (ho ▸ fw_X0_40) rfl (by decide +kernel) rfl rfl (by show 9 < 10; omega) hd kk
theorem gf_X0_30 {k : Nat} (h : kd k = 0) (ho : I.1.cls = RX0) (hd : decode I.2.1 pc = .ok (.getfield 30, 3)) (kk : G E X I S (pc + 3) L (.int (gI S k 6) :: st)) : G E X I S pc L (.ref (eA E k) :: st) := g_get (k := k) (j := 6) (cell_0 E S h) (kd_lt h (by omega)) rfl ix_X0 (by omega) (ho ▸ fw_X0_30) rfl hd kk
theorem gf_X0_9 {k : Nat} (h : kd k = 0) (ho : I.1.cls = RX0) (hd : decode I.2.1 pc = .ok (.getfield 9, 3)) (kk : G E X I S (pc + 3) L (.ref (eA E (34 + 6 * (k - 30))) :: st)) : G E X I S pc L (.ref (eA E k) :: st) := g_get (k := k) (j := 0) (cell_0 E S h) (kd_lt h (by omega)) rfl ix_X0 (by omega) (ho ▸ fw_X0_9) rfl hd kk
theorem gf_X0_15 {k : Nat} (h : kd k = 0) (ho : I.1.cls = RX0) (hd : decode I.2.1 pc = .ok (.getfield 15, 3)) (kk : G E X I S (pc + 3) L (.ref (eA E (34 + 6 * (k - 30) + 1)) :: st)) : G E X I S pc L (.ref (eA E k) :: st) := g_get (k := k) (j := 1) (cell_0 E S h) (kd_lt h (by omega)) rfl ix_X0 (by omega) (ho ▸ fw_X0_15) rfl hd kk
theorem gf_X0_18 {k : Nat} (h : kd k = 0) (ho : I.1.cls = RX0) (hd : decode I.2.1 pc = .ok (.getfield 18, 3)) (kk : G E X I S (pc + 3) L (.ref (eA E (34 + 6 * (k - 30) + 2)) :: st)) : G E X I S pc L (.ref (eA E k) :: st) := g_get (k := k) (j := 2) (cell_0 E S h) (kd_lt h (by omega)) rfl ix_X0 (by omega) (ho ▸ fw_X0_18) rfl hd kk
theorem gf_X0_21 {k : Nat} (h : kd k = 0) (ho : I.1.cls = RX0) (hd : decode I.2.1 pc = .ok (.getfield 21, 3)) (kk : G E X I S (pc + 3) L (.ref (eA E (34 + 6 * (k - 30) + 3)) :: st)) : G E X I S pc L (.ref (eA E k) :: st) := g_get (k := k) (j := 3) (cell_0 E S h) (kd_lt h (by omega)) rfl ix_X0 (by omega) (ho ▸ fw_X0_21) rfl hd kk
theorem gf_X0_24 {k : Nat} (h : kd k = 0) (ho : I.1.cls = RX0) (hd : decode I.2.1 pc = .ok (.getfield 24, 3)) (kk : G E X I S (pc + 3) L (.ref (eA E (34 + 6 * (k - 30) + 4)) :: st)) : G E X I S pc L (.ref (eA E k) :: st) := g_get (k := k) (j := 4) (cell_0 E S h) (kd_lt h (by omega)) rfl ix_X0 (by omega) (ho ▸ fw_X0_24) rfl hd kk
theorem gf_X0_34 {k : Nat} (h : kd k = 0) (ho : I.1.cls = RX0) (hd : decode I.2.1 pc = .ok (.getfield 34, 3)) (kk : G E X I S (pc + 3) L (.int (gI S k 7) :: st)) : G E X I S pc L (.ref (eA E k) :: st) := g_get (k := k) (j := 7) (cell_0 E S h) (kd_lt h (by omega)) rfl ix_X0 (by omega) (ho ▸ fw_X0_34) rfl hd kk
theorem gf_X0_27 {k : Nat} (h : kd k = 0) (ho : I.1.cls = RX0) (hd : decode I.2.1 pc = .ok (.getfield 27, 3)) (kk : G E X I S (pc + 3) L (.ref (eA E (34 + 6 * (k - 30) + 5)) :: st)) : G E X I S pc L (.ref (eA E k) :: st) := g_get (k := k) (j := 5) (cell_0 E S h) (kd_lt h (by omega)) rfl ix_X0 (by omega) (ho ▸ fw_X0_27) rfl hd kk
theorem gf_X0_37 {k : Nat} (h : kd k = 0) (ho : I.1.cls = RX0) (hd : decode I.2.1 pc = .ok (.getfield 37, 3)) (kk : G E X I S (pc + 3) L (.int (gI S k 8) :: st)) : G E X I S pc L (.ref (eA E k) :: st) := g_get (k := k) (j := 8) (cell_0 E S h) (kd_lt h (by omega)) rfl ix_X0 (by omega) (ho ▸ fw_X0_37) rfl hd kk
theorem gf_X0_40 {k : Nat} (h : kd k = 0) (ho : I.1.cls = RX0) (hd : decode I.2.1 pc = .ok (.getfield 40, 3)) (kk : G E X I S (pc + 3) L (.int (gI S k 9) :: st)) : G E X I S pc L (.ref (eA E k) :: st) := g_get (k := k) (j := 9) (cell_0 E S h) (kd_lt h (by omega)) rfl ix_X0 (by omega) (ho ▸ fw_X0_40) rfl hd kk
theorem gf_X1_9 (ho : I.1.cls = RX1) (hd : decode I.2.1 pc = .ok (.getfield 9, 3)) (kk : G E X I S (pc + 3) L (.ref (eA E 9) :: st)) : G E X I S pc L (.ref (eA E 8) :: st) := g_get (k := 8) (j := 0) (cell_1 E S) (by omega) rfl ix_X1 (by omega) (ho ▸ fw_X1_9) rfl hd kk
theorem gf_X4_15 (ho : I.1.cls = RX4) (hd : decode I.2.1 pc = .ok (.getfield 15, 3)) (kk : G E X I S (pc + 3) L (.ref (eA E 7) :: st)) : G E X I S pc L (.ref (eA E 5) :: st) := g_get (k := 5) (j := 1) (cell_2 E S) (by omega) rfl ix_X4 (by omega) (ho ▸ fw_X4_15) rfl hd kk
theorem gf_X4_9 (ho : I.1.cls = RX4) (hd : decode I.2.1 pc = .ok (.getfield 9, 3)) (kk : G E X I S (pc + 3) L (.ref (eA E 6) :: st)) : G E X I S pc L (.ref (eA E 5) :: st) := g_get (k := 5) (j := 0) (cell_2 E S) (by omega) rfl ix_X4 (by omega) (ho ▸ fw_X4_9) rfl hd kk
theorem pf_X5_9 {k : Nat} (h : kd k = 3) {x : Int32} (ho : I.1.cls = RX5) (hd : decode I.2.1 pc = .ok (.putfield 9, 3)) (kk : G E X I (sI S k 1 x) (pc + 3) L st) : G E X I S pc L (.int x :: .ref (eA E k) :: st) := by
  have e := (cell_3 E (sI S k 1 x) h)
  simp only [gI_sI, gL_sI, gI_sL, gL_sL] at e
  exact g_put (k := k) (j := 1) (ty := .int) tyX5 tyX5_ok nmX5 (cell_3 E S h) (e.trans (by simp)) (fun i _ hne => cell_sI E S _ hne) (kd_lt h (by omega)) rfl ix_X5 (by omega) (ho ▸ fw_X5_9) rfl (by decide +kernel) rfl rfl (by show 1 < 2; omega) hd kk
theorem gf_X5_19 {k : Nat} (h : kd k = 3) (ho : I.1.cls = RX5) (hd : decode I.2.1 pc = .ok (.getfield 19, 3)) (kk : G E X I S (pc + 3) L (.ref (eA E (k + 10)) :: st)) : G E X I S pc L (.ref (eA E k) :: st) := g_get (k := k) (j := 0) (cell_3 E S h) (kd_lt h (by omega)) rfl ix_X5 (by omega) (ho ▸ fw_X5_19) rfl hd kk
theorem gf_X5_9 {k : Nat} (h : kd k = 3) (ho : I.1.cls = RX5) (hd : decode I.2.1 pc = .ok (.getfield 9, 3)) (kk : G E X I S (pc + 3) L (.int (gI S k 1) :: st)) : G E X I S pc L (.ref (eA E k) :: st) := g_get (k := k) (j := 1) (cell_3 E S h) (kd_lt h (by omega)) rfl ix_X5 (by omega) (ho ▸ fw_X5_9) rfl hd kk
end GF
end
