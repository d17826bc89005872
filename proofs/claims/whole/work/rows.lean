section
-- ===== PART A: goes FIRST, ahead of the names: the tables' words, and 'selects' of the private methods out of them =====
/-- a private method of a class that the tables say can be made, by its rows of tables_1 -/
def lw_okq (q : MethodName × Nat) : Prop := (q.1.cls ≠ "java/lang/invoke/MethodHandle" ∧ q.1.cls ≠ "java/lang/invoke/VarHandle") ∧ Cond.instantiable q.1.cls q.2 ∈ tables_1 ∧ Cond.privateMethod q.1 ∈ tables_1 ∧ Cond.instanceMethod q.1 ∈ tables_1
theorem lw_p0 : lw_okq (⟨"PluginChains", "refuse", "(I)I"⟩, 14) := ⟨⟨by decide +kernel, by decide +kernel⟩, List.mem_of_getElem? (i := 17) (by decide +kernel), List.mem_of_getElem? (i := 377) (by decide +kernel), List.mem_of_getElem? (i := 378) (by decide +kernel)⟩
theorem lw_p1 : lw_okq (⟨"PluginChains", "rowProblem", "(I)I"⟩, 14) := ⟨⟨by decide +kernel, by decide +kernel⟩, List.mem_of_getElem? (i := 17) (by decide +kernel), List.mem_of_getElem? (i := 392) (by decide +kernel), List.mem_of_getElem? (i := 393) (by decide +kernel)⟩
theorem lw_p2 : lw_okq (⟨"PluginChains$Shelf", "narrowed", "(J)J"⟩, 4) := ⟨⟨by decide +kernel, by decide +kernel⟩, List.mem_of_getElem? (i := 263) (by decide +kernel), List.mem_of_getElem? (i := 413) (by decide +kernel), List.mem_of_getElem? (i := 414) (by decide +kernel)⟩
theorem lw_p3 : lw_okq (⟨"PluginChains", "copyProblem", "(II)I"⟩, 14) := ⟨⟨by decide +kernel, by decide +kernel⟩, List.mem_of_getElem? (i := 17) (by decide +kernel), List.mem_of_getElem? (i := 421) (by decide +kernel), List.mem_of_getElem? (i := 422) (by decide +kernel)⟩
theorem lw_p4 : lw_okq (⟨"PluginChains$Plug", "strengthByKind", "()I"⟩, 11) := ⟨⟨by decide +kernel, by decide +kernel⟩, List.mem_of_getElem? (i := 36) (by decide +kernel), List.mem_of_getElem? (i := 494) (by decide +kernel), List.mem_of_getElem? (i := 495) (by decide +kernel)⟩
theorem lw_p5 : lw_okq (⟨"PluginChains$Plug", "lettersFromLeft", "()I"⟩, 11) := ⟨⟨by decide +kernel, by decide +kernel⟩, List.mem_of_getElem? (i := 36) (by decide +kernel), List.mem_of_getElem? (i := 501) (by decide +kernel), List.mem_of_getElem? (i := 502) (by decide +kernel)⟩
theorem lw_p6 : lw_okq (⟨"PluginChains$TextReader", "readItem", "()Z"⟩, 6) := ⟨⟨by decide +kernel, by decide +kernel⟩, List.mem_of_getElem? (i := 256) (by decide +kernel), List.mem_of_getElem? (i := 513) (by decide +kernel), List.mem_of_getElem? (i := 514) (by decide +kernel)⟩
theorem lw_p7 : lw_okq (⟨"PluginChains$TextReader", "take", "(I)Z"⟩, 6) := ⟨⟨by decide +kernel, by decide +kernel⟩, List.mem_of_getElem? (i := 256) (by decide +kernel), List.mem_of_getElem? (i := 517) (by decide +kernel), List.mem_of_getElem? (i := 518) (by decide +kernel)⟩
theorem lw_p8 : lw_okq (⟨"PluginChains$TextReader", "look", "()I"⟩, 6) := ⟨⟨by decide +kernel, by decide +kernel⟩, List.mem_of_getElem? (i := 256) (by decide +kernel), List.mem_of_getElem? (i := 521) (by decide +kernel), List.mem_of_getElem? (i := 522) (by decide +kernel)⟩
theorem lw_p9 : lw_okq (⟨"PluginChains$TextReader", "failAt", "(I)Z"⟩, 6) := ⟨⟨by decide +kernel, by decide +kernel⟩, List.mem_of_getElem? (i := 256) (by decide +kernel), List.mem_of_getElem? (i := 526) (by decide +kernel), List.mem_of_getElem? (i := 527) (by decide +kernel)⟩
theorem lw_p10 : lw_okq (⟨"PluginChains$TextReader", "readName", "(LPluginChains$Plug;)Z"⟩, 6) := ⟨⟨by decide +kernel, by decide +kernel⟩, List.mem_of_getElem? (i := 256) (by decide +kernel), List.mem_of_getElem? (i := 531) (by decide +kernel), List.mem_of_getElem? (i := 532) (by decide +kernel)⟩
theorem lw_p11 : lw_okq (⟨"PluginChains$TextReader", "hasItemNamed", "(I)Z"⟩, 6) := ⟨⟨by decide +kernel, by decide +kernel⟩, List.mem_of_getElem? (i := 256) (by decide +kernel), List.mem_of_getElem? (i := 539) (by decide +kernel), List.mem_of_getElem? (i := 540) (by decide +kernel)⟩
theorem lw_p12 : lw_okq (⟨"PluginChains$TextReader", "readNumbers", "(LPluginChains$Plug;)Z"⟩, 6) := ⟨⟨by decide +kernel, by decide +kernel⟩, List.mem_of_getElem? (i := 256) (by decide +kernel), List.mem_of_getElem? (i := 543) (by decide +kernel), List.mem_of_getElem? (i := 544) (by decide +kernel)⟩
theorem lw_p13 : lw_okq (⟨"PluginChains$TextReader", "takeDigit", "(I)I"⟩, 6) := ⟨⟨by decide +kernel, by decide +kernel⟩, List.mem_of_getElem? (i := 256) (by decide +kernel), List.mem_of_getElem? (i := 547) (by decide +kernel), List.mem_of_getElem? (i := 548) (by decide +kernel)⟩
theorem lw_p14 : lw_okq (⟨"PluginChains$TextReader", "readMarks", "(LPluginChains$Plug;)Z"⟩, 6) := ⟨⟨by decide +kernel, by decide +kernel⟩, List.mem_of_getElem? (i := 256) (by decide +kernel), List.mem_of_getElem? (i := 551) (by decide +kernel), List.mem_of_getElem? (i := 552) (by decide +kernel)⟩
theorem lw_p15 : lw_okq (⟨"PluginChains$TextReader", "readMark", "(LPluginChains$Plug;)Z"⟩, 6) := ⟨⟨by decide +kernel, by decide +kernel⟩, List.mem_of_getElem? (i := 256) (by decide +kernel), List.mem_of_getElem? (i := 555) (by decide +kernel), List.mem_of_getElem? (i := 556) (by decide +kernel)⟩
def lw_privs_1 : List (MethodName × Nat) := [(⟨"PluginChains", "refuse", "(I)I"⟩, 14), (⟨"PluginChains", "rowProblem", "(I)I"⟩, 14), (⟨"PluginChains$Shelf", "narrowed", "(J)J"⟩, 4), (⟨"PluginChains", "copyProblem", "(II)I"⟩, 14), (⟨"PluginChains$Plug", "strengthByKind", "()I"⟩, 11), (⟨"PluginChains$Plug", "lettersFromLeft", "()I"⟩, 11), (⟨"PluginChains$TextReader", "readItem", "()Z"⟩, 6), (⟨"PluginChains$TextReader", "take", "(I)Z"⟩, 6), (⟨"PluginChains$TextReader", "look", "()I"⟩, 6), (⟨"PluginChains$TextReader", "failAt", "(I)Z"⟩, 6), (⟨"PluginChains$TextReader", "readName", "(LPluginChains$Plug;)Z"⟩, 6), (⟨"PluginChains$TextReader", "hasItemNamed", "(I)Z"⟩, 6), (⟨"PluginChains$TextReader", "readNumbers", "(LPluginChains$Plug;)Z"⟩, 6), (⟨"PluginChains$TextReader", "takeDigit", "(I)I"⟩, 6), (⟨"PluginChains$TextReader", "readMarks", "(LPluginChains$Plug;)Z"⟩, 6), (⟨"PluginChains$TextReader", "readMark", "(LPluginChains$Plug;)Z"⟩, 6)]
theorem lw_r1 : ∀ q ∈ lw_privs_1, lw_okq q := List.forall_mem_cons.mpr ⟨lw_p0, List.forall_mem_cons.mpr ⟨lw_p1, List.forall_mem_cons.mpr ⟨lw_p2, List.forall_mem_cons.mpr ⟨lw_p3, List.forall_mem_cons.mpr ⟨lw_p4, List.forall_mem_cons.mpr ⟨lw_p5, List.forall_mem_cons.mpr ⟨lw_p6, List.forall_mem_cons.mpr ⟨lw_p7, List.forall_mem_cons.mpr ⟨lw_p8, List.forall_mem_cons.mpr ⟨lw_p9, List.forall_mem_cons.mpr ⟨lw_p10, List.forall_mem_cons.mpr ⟨lw_p11, List.forall_mem_cons.mpr ⟨lw_p12, List.forall_mem_cons.mpr ⟨lw_p13, List.forall_mem_cons.mpr ⟨lw_p14, List.forall_mem_cons.mpr ⟨lw_p15, fun _ h => absurd h List.not_mem_nil⟩⟩⟩⟩⟩⟩⟩⟩⟩⟩⟩⟩⟩⟩⟩⟩
theorem lw_p16 : lw_okq (⟨"PluginChains", "refuseByTen", "(I)I"⟩, 14) := ⟨⟨by decide +kernel, by decide +kernel⟩, List.mem_of_getElem? (i := 17) (by decide +kernel), List.mem_of_getElem? (i := 580) (by decide +kernel), List.mem_of_getElem? (i := 581) (by decide +kernel)⟩
theorem lw_p17 : lw_okq (⟨"PluginChains", "tryStart", "(I)Z"⟩, 14) := ⟨⟨by decide +kernel, by decide +kernel⟩, List.mem_of_getElem? (i := 17) (by decide +kernel), List.mem_of_getElem? (i := 624) (by decide +kernel), List.mem_of_getElem? (i := 625) (by decide +kernel)⟩
theorem lw_p18 : lw_okq (⟨"PluginChains$Plan", "bring", "(II)Z"⟩, 8) := ⟨⟨by decide +kernel, by decide +kernel⟩, List.mem_of_getElem? (i := 168) (by decide +kernel), List.mem_of_getElem? (i := 636) (by decide +kernel), List.mem_of_getElem? (i := 637) (by decide +kernel)⟩
theorem lw_p19 : lw_okq (⟨"PluginChains$Plan", "fails", "(IIII)Z"⟩, 8) := ⟨⟨by decide +kernel, by decide +kernel⟩, List.mem_of_getElem? (i := 168) (by decide +kernel), List.mem_of_getElem? (i := 641) (by decide +kernel), List.mem_of_getElem? (i := 642) (by decide +kernel)⟩
theorem lw_p20 : lw_okq (⟨"PluginChains$Plan", "bringOffer", "(III)Z"⟩, 8) := ⟨⟨by decide +kernel, by decide +kernel⟩, List.mem_of_getElem? (i := 168) (by decide +kernel), List.mem_of_getElem? (i := 647) (by decide +kernel), List.mem_of_getElem? (i := 648) (by decide +kernel)⟩
theorem lw_p21 : lw_okq (⟨"PluginChains$Plan", "idleOffer", "(II)I"⟩, 8) := ⟨⟨by decide +kernel, by decide +kernel⟩, List.mem_of_getElem? (i := 168) (by decide +kernel), List.mem_of_getElem? (i := 652) (by decide +kernel), List.mem_of_getElem? (i := 653) (by decide +kernel)⟩
theorem lw_p22 : lw_okq (⟨"PluginChains", "run", "(I)V"⟩, 14) := ⟨⟨by decide +kernel, by decide +kernel⟩, List.mem_of_getElem? (i := 17) (by decide +kernel), List.mem_of_getElem? (i := 660) (by decide +kernel), List.mem_of_getElem? (i := 661) (by decide +kernel)⟩
theorem lw_p23 : lw_okq (⟨"PluginChains", "breakDown", "(I)V"⟩, 14) := ⟨⟨by decide +kernel, by decide +kernel⟩, List.mem_of_getElem? (i := 17) (by decide +kernel), List.mem_of_getElem? (i := 668) (by decide +kernel), List.mem_of_getElem? (i := 669) (by decide +kernel)⟩
theorem lw_p24 : lw_okq (⟨"PluginChains", "stopStarted", "()V"⟩, 14) := ⟨⟨by decide +kernel, by decide +kernel⟩, List.mem_of_getElem? (i := 17) (by decide +kernel), List.mem_of_getElem? (i := 672) (by decide +kernel), List.mem_of_getElem? (i := 673) (by decide +kernel)⟩
theorem lw_p25 : lw_okq (⟨"PluginChains", "idle", "(I)V"⟩, 14) := ⟨⟨by decide +kernel, by decide +kernel⟩, List.mem_of_getElem? (i := 17) (by decide +kernel), List.mem_of_getElem? (i := 676) (by decide +kernel), List.mem_of_getElem? (i := 677) (by decide +kernel)⟩
theorem lw_p26 : lw_okq (⟨"PluginChains", "stopWaves", "(I)I"⟩, 14) := ⟨⟨by decide +kernel, by decide +kernel⟩, List.mem_of_getElem? (i := 17) (by decide +kernel), List.mem_of_getElem? (i := 688) (by decide +kernel), List.mem_of_getElem? (i := 689) (by decide +kernel)⟩
theorem lw_p27 : lw_okq (⟨"PluginChains$Waves", "addWave", "(I)I"⟩, 2) := ⟨⟨by decide +kernel, by decide +kernel⟩, List.mem_of_getElem? (i := 205) (by decide +kernel), List.mem_of_getElem? (i := 700) (by decide +kernel), List.mem_of_getElem? (i := 701) (by decide +kernel)⟩
theorem lw_p28 : lw_okq (⟨"PluginChains$Waves", "leftBits", "()I"⟩, 2) := ⟨⟨by decide +kernel, by decide +kernel⟩, List.mem_of_getElem? (i := 205) (by decide +kernel), List.mem_of_getElem? (i := 704) (by decide +kernel), List.mem_of_getElem? (i := 705) (by decide +kernel)⟩
theorem lw_p29 : lw_okq (⟨"PluginChains$Waves", "lacksOffer", "(II)Z"⟩, 2) := ⟨⟨by decide +kernel, by decide +kernel⟩, List.mem_of_getElem? (i := 205) (by decide +kernel), List.mem_of_getElem? (i := 708) (by decide +kernel), List.mem_of_getElem? (i := 709) (by decide +kernel)⟩
theorem lw_p30 : lw_okq (⟨"PluginChains$Firing", "insert", "(I)V"⟩, 8) := ⟨⟨by decide +kernel, by decide +kernel⟩, List.mem_of_getElem? (i := 219) (by decide +kernel), List.mem_of_getElem? (i := 768) (by decide +kernel), List.mem_of_getElem? (i := 769) (by decide +kernel)⟩
theorem lw_p31 : lw_okq (⟨"PluginChains$Firing", "runsAhead", "(LPluginChains$Hook;LPluginChains$Hook;)Z"⟩, 8) := ⟨⟨by decide +kernel, by decide +kernel⟩, List.mem_of_getElem? (i := 219) (by decide +kernel), List.mem_of_getElem? (i := 772) (by decide +kernel), List.mem_of_getElem? (i := 773) (by decide +kernel)⟩
def lw_privs_2 : List (MethodName × Nat) := [(⟨"PluginChains", "refuseByTen", "(I)I"⟩, 14), (⟨"PluginChains", "tryStart", "(I)Z"⟩, 14), (⟨"PluginChains$Plan", "bring", "(II)Z"⟩, 8), (⟨"PluginChains$Plan", "fails", "(IIII)Z"⟩, 8), (⟨"PluginChains$Plan", "bringOffer", "(III)Z"⟩, 8), (⟨"PluginChains$Plan", "idleOffer", "(II)I"⟩, 8), (⟨"PluginChains", "run", "(I)V"⟩, 14), (⟨"PluginChains", "breakDown", "(I)V"⟩, 14), (⟨"PluginChains", "stopStarted", "()V"⟩, 14), (⟨"PluginChains", "idle", "(I)V"⟩, 14), (⟨"PluginChains", "stopWaves", "(I)I"⟩, 14), (⟨"PluginChains$Waves", "addWave", "(I)I"⟩, 2), (⟨"PluginChains$Waves", "leftBits", "()I"⟩, 2), (⟨"PluginChains$Waves", "lacksOffer", "(II)Z"⟩, 2), (⟨"PluginChains$Firing", "insert", "(I)V"⟩, 8), (⟨"PluginChains$Firing", "runsAhead", "(LPluginChains$Hook;LPluginChains$Hook;)Z"⟩, 8)]
theorem lw_r2 : ∀ q ∈ lw_privs_2, lw_okq q := List.forall_mem_cons.mpr ⟨lw_p16, List.forall_mem_cons.mpr ⟨lw_p17, List.forall_mem_cons.mpr ⟨lw_p18, List.forall_mem_cons.mpr ⟨lw_p19, List.forall_mem_cons.mpr ⟨lw_p20, List.forall_mem_cons.mpr ⟨lw_p21, List.forall_mem_cons.mpr ⟨lw_p22, List.forall_mem_cons.mpr ⟨lw_p23, List.forall_mem_cons.mpr ⟨lw_p24, List.forall_mem_cons.mpr ⟨lw_p25, List.forall_mem_cons.mpr ⟨lw_p26, List.forall_mem_cons.mpr ⟨lw_p27, List.forall_mem_cons.mpr ⟨lw_p28, List.forall_mem_cons.mpr ⟨lw_p29, List.forall_mem_cons.mpr ⟨lw_p30, List.forall_mem_cons.mpr ⟨lw_p31, fun _ h => absurd h List.not_mem_nil⟩⟩⟩⟩⟩⟩⟩⟩⟩⟩⟩⟩⟩⟩⟩⟩
theorem lw_p32 : lw_okq (⟨"PluginChains$Firing", "ask", "(II)I"⟩, 8) := ⟨⟨by decide +kernel, by decide +kernel⟩, List.mem_of_getElem? (i := 219) (by decide +kernel), List.mem_of_getElem? (i := 786) (by decide +kernel), List.mem_of_getElem? (i := 787) (by decide +kernel)⟩
theorem lw_p33 : lw_okq (⟨"PluginChains$Firing", "lookFirst", "(ILPluginChains$Hook;I)I"⟩, 8) := ⟨⟨by decide +kernel, by decide +kernel⟩, List.mem_of_getElem? (i := 219) (by decide +kernel), List.mem_of_getElem? (i := 793) (by decide +kernel), List.mem_of_getElem? (i := 794) (by decide +kernel)⟩
theorem lw_p34 : lw_okq (⟨"PluginChains$Firing", "restFirst", "(ILPluginChains$Hook;I)I"⟩, 8) := ⟨⟨by decide +kernel, by decide +kernel⟩, List.mem_of_getElem? (i := 219) (by decide +kernel), List.mem_of_getElem? (i := 801) (by decide +kernel), List.mem_of_getElem? (i := 802) (by decide +kernel)⟩
theorem lw_p35 : lw_okq (⟨"PluginChains", "liveDay", "()V"⟩, 14) := ⟨⟨by decide +kernel, by decide +kernel⟩, List.mem_of_getElem? (i := 17) (by decide +kernel), List.mem_of_getElem? (i := 863) (by decide +kernel), List.mem_of_getElem? (i := 864) (by decide +kernel)⟩
theorem lw_p36 : lw_okq (⟨"PluginChainsModel", "no", "(I)I"⟩, 37) := ⟨⟨by decide +kernel, by decide +kernel⟩, List.mem_of_getElem? (i := 902) (by decide +kernel), List.mem_of_getElem? (i := 1027) (by decide +kernel), List.mem_of_getElem? (i := 1028) (by decide +kernel)⟩
theorem lw_p37 : lw_okq (⟨"PluginChainsModel", "noRow", "(I)I"⟩, 37) := ⟨⟨by decide +kernel, by decide +kernel⟩, List.mem_of_getElem? (i := 902) (by decide +kernel), List.mem_of_getElem? (i := 1035) (by decide +kernel), List.mem_of_getElem? (i := 1036) (by decide +kernel)⟩
theorem lw_p38 : lw_okq (⟨"PluginChainsModel", "isRow", "(I)Z"⟩, 37) := ⟨⟨by decide +kernel, by decide +kernel⟩, List.mem_of_getElem? (i := 902) (by decide +kernel), List.mem_of_getElem? (i := 1039) (by decide +kernel), List.mem_of_getElem? (i := 1040) (by decide +kernel)⟩
theorem lw_p39 : lw_okq (⟨"PluginChainsModel", "isPlug", "(I)Z"⟩, 37) := ⟨⟨by decide +kernel, by decide +kernel⟩, List.mem_of_getElem? (i := 902) (by decide +kernel), List.mem_of_getElem? (i := 1055) (by decide +kernel), List.mem_of_getElem? (i := 1056) (by decide +kernel)⟩
theorem lw_p40 : lw_okq (⟨"PluginChainsModel", "of", "(II)I"⟩, 37) := ⟨⟨by decide +kernel, by decide +kernel⟩, List.mem_of_getElem? (i := 902) (by decide +kernel), List.mem_of_getElem? (i := 1067) (by decide +kernel), List.mem_of_getElem? (i := 1068) (by decide +kernel)⟩
theorem lw_p41 : lw_okq (⟨"PluginChainsModel", "strength", "(I)I"⟩, 37) := ⟨⟨by decide +kernel, by decide +kernel⟩, List.mem_of_getElem? (i := 902) (by decide +kernel), List.mem_of_getElem? (i := 1078) (by decide +kernel), List.mem_of_getElem? (i := 1079) (by decide +kernel)⟩
theorem lw_p42 : lw_okq (⟨"PluginChainsModel", "isThere", "(I)Z"⟩, 37) := ⟨⟨by decide +kernel, by decide +kernel⟩, List.mem_of_getElem? (i := 902) (by decide +kernel), List.mem_of_getElem? (i := 1091) (by decide +kernel), List.mem_of_getElem? (i := 1092) (by decide +kernel)⟩
theorem lw_p43 : lw_okq (⟨"PluginChainsModel", "state", "(I)I"⟩, 37) := ⟨⟨by decide +kernel, by decide +kernel⟩, List.mem_of_getElem? (i := 902) (by decide +kernel), List.mem_of_getElem? (i := 1095) (by decide +kernel), List.mem_of_getElem? (i := 1096) (by decide +kernel)⟩
theorem lw_p44 : lw_okq (⟨"PluginChainsModel", "newPlug", "(IIIIII)I"⟩, 37) := ⟨⟨by decide +kernel, by decide +kernel⟩, List.mem_of_getElem? (i := 902) (by decide +kernel), List.mem_of_getElem? (i := 1099) (by decide +kernel), List.mem_of_getElem? (i := 1100) (by decide +kernel)⟩
theorem lw_p45 : lw_okq (⟨"PluginChainsModel", "item", "()Z"⟩, 37) := ⟨⟨by decide +kernel, by decide +kernel⟩, List.mem_of_getElem? (i := 902) (by decide +kernel), List.mem_of_getElem? (i := 1107) (by decide +kernel), List.mem_of_getElem? (i := 1108) (by decide +kernel)⟩
theorem lw_p46 : lw_okq (⟨"PluginChainsModel", "is", "(I)Z"⟩, 37) := ⟨⟨by decide +kernel, by decide +kernel⟩, List.mem_of_getElem? (i := 902) (by decide +kernel), List.mem_of_getElem? (i := 1111) (by decide +kernel), List.mem_of_getElem? (i := 1112) (by decide +kernel)⟩
theorem lw_p47 : lw_okq (⟨"PluginChainsModel", "sign", "()I"⟩, 37) := ⟨⟨by decide +kernel, by decide +kernel⟩, List.mem_of_getElem? (i := 902) (by decide +kernel), List.mem_of_getElem? (i := 1115) (by decide +kernel), List.mem_of_getElem? (i := 1116) (by decide +kernel)⟩
def lw_privs_3 : List (MethodName × Nat) := [(⟨"PluginChains$Firing", "ask", "(II)I"⟩, 8), (⟨"PluginChains$Firing", "lookFirst", "(ILPluginChains$Hook;I)I"⟩, 8), (⟨"PluginChains$Firing", "restFirst", "(ILPluginChains$Hook;I)I"⟩, 8), (⟨"PluginChains", "liveDay", "()V"⟩, 14), (⟨"PluginChainsModel", "no", "(I)I"⟩, 37), (⟨"PluginChainsModel", "noRow", "(I)I"⟩, 37), (⟨"PluginChainsModel", "isRow", "(I)Z"⟩, 37), (⟨"PluginChainsModel", "isPlug", "(I)Z"⟩, 37), (⟨"PluginChainsModel", "of", "(II)I"⟩, 37), (⟨"PluginChainsModel", "strength", "(I)I"⟩, 37), (⟨"PluginChainsModel", "isThere", "(I)Z"⟩, 37), (⟨"PluginChainsModel", "state", "(I)I"⟩, 37), (⟨"PluginChainsModel", "newPlug", "(IIIIII)I"⟩, 37), (⟨"PluginChainsModel", "item", "()Z"⟩, 37), (⟨"PluginChainsModel", "is", "(I)Z"⟩, 37), (⟨"PluginChainsModel", "sign", "()I"⟩, 37)]
theorem lw_r3 : ∀ q ∈ lw_privs_3, lw_okq q := List.forall_mem_cons.mpr ⟨lw_p32, List.forall_mem_cons.mpr ⟨lw_p33, List.forall_mem_cons.mpr ⟨lw_p34, List.forall_mem_cons.mpr ⟨lw_p35, List.forall_mem_cons.mpr ⟨lw_p36, List.forall_mem_cons.mpr ⟨lw_p37, List.forall_mem_cons.mpr ⟨lw_p38, List.forall_mem_cons.mpr ⟨lw_p39, List.forall_mem_cons.mpr ⟨lw_p40, List.forall_mem_cons.mpr ⟨lw_p41, List.forall_mem_cons.mpr ⟨lw_p42, List.forall_mem_cons.mpr ⟨lw_p43, List.forall_mem_cons.mpr ⟨lw_p44, List.forall_mem_cons.mpr ⟨lw_p45, List.forall_mem_cons.mpr ⟨lw_p46, List.forall_mem_cons.mpr ⟨lw_p47, fun _ h => absurd h List.not_mem_nil⟩⟩⟩⟩⟩⟩⟩⟩⟩⟩⟩⟩⟩⟩⟩⟩
theorem lw_p48 : lw_okq (⟨"PluginChainsModel", "name", "()I"⟩, 37) := ⟨⟨by decide +kernel, by decide +kernel⟩, List.mem_of_getElem? (i := 902) (by decide +kernel), List.mem_of_getElem? (i := 1119) (by decide +kernel), List.mem_of_getElem? (i := 1120) (by decide +kernel)⟩
theorem lw_p49 : lw_okq (⟨"PluginChainsModel", "digit", "(I)I"⟩, 37) := ⟨⟨by decide +kernel, by decide +kernel⟩, List.mem_of_getElem? (i := 902) (by decide +kernel), List.mem_of_getElem? (i := 1123) (by decide +kernel), List.mem_of_getElem? (i := 1124) (by decide +kernel)⟩
theorem lw_p50 : lw_okq (⟨"PluginChainsModel", "marks", "(I)Z"⟩, 37) := ⟨⟨by decide +kernel, by decide +kernel⟩, List.mem_of_getElem? (i := 902) (by decide +kernel), List.mem_of_getElem? (i := 1127) (by decide +kernel), List.mem_of_getElem? (i := 1128) (by decide +kernel)⟩
theorem lw_p51 : lw_okq (⟨"PluginChainsModel", "no10", "(I)I"⟩, 37) := ⟨⟨by decide +kernel, by decide +kernel⟩, List.mem_of_getElem? (i := 902) (by decide +kernel), List.mem_of_getElem? (i := 1143) (by decide +kernel), List.mem_of_getElem? (i := 1144) (by decide +kernel)⟩
theorem lw_p52 : lw_okq (⟨"PluginChainsModel", "isNeeded", "(II)Z"⟩, 37) := ⟨⟨by decide +kernel, by decide +kernel⟩, List.mem_of_getElem? (i := 902) (by decide +kernel), List.mem_of_getElem? (i := 1158) (by decide +kernel), List.mem_of_getElem? (i := 1159) (by decide +kernel)⟩
theorem lw_p53 : lw_okq (⟨"PluginChainsModel", "provides", "(II)I"⟩, 37) := ⟨⟨by decide +kernel, by decide +kernel⟩, List.mem_of_getElem? (i := 902) (by decide +kernel), List.mem_of_getElem? (i := 1162) (by decide +kernel), List.mem_of_getElem? (i := 1163) (by decide +kernel)⟩
theorem lw_p54 : lw_okq (⟨"PluginChainsModel", "isOffered", "(II)Z"⟩, 37) := ⟨⟨by decide +kernel, by decide +kernel⟩, List.mem_of_getElem? (i := 902) (by decide +kernel), List.mem_of_getElem? (i := 1166) (by decide +kernel), List.mem_of_getElem? (i := 1167) (by decide +kernel)⟩
theorem lw_p55 : lw_okq (⟨"PluginChainsModel", "isOlder", "(II)Z"⟩, 37) := ⟨⟨by decide +kernel, by decide +kernel⟩, List.mem_of_getElem? (i := 902) (by decide +kernel), List.mem_of_getElem? (i := 1170) (by decide +kernel), List.mem_of_getElem? (i := 1171) (by decide +kernel)⟩
theorem lw_p56 : lw_okq (⟨"PluginChainsModel", "begins", "(I)Z"⟩, 37) := ⟨⟨by decide +kernel, by decide +kernel⟩, List.mem_of_getElem? (i := 902) (by decide +kernel), List.mem_of_getElem? (i := 1178) (by decide +kernel), List.mem_of_getElem? (i := 1179) (by decide +kernel)⟩
theorem lw_p57 : lw_okq (⟨"PluginChainsModel", "starts", "(I)Z"⟩, 37) := ⟨⟨by decide +kernel, by decide +kernel⟩, List.mem_of_getElem? (i := 902) (by decide +kernel), List.mem_of_getElem? (i := 1182) (by decide +kernel), List.mem_of_getElem? (i := 1183) (by decide +kernel)⟩
theorem lw_p58 : lw_okq (⟨"PluginChainsModel", "fails", "(III)Z"⟩, 37) := ⟨⟨by decide +kernel, by decide +kernel⟩, List.mem_of_getElem? (i := 902) (by decide +kernel), List.mem_of_getElem? (i := 1186) (by decide +kernel), List.mem_of_getElem? (i := 1187) (by decide +kernel)⟩
theorem lw_p59 : lw_okq (⟨"PluginChainsModel", "hasNeeds", "(I)Z"⟩, 37) := ⟨⟨by decide +kernel, by decide +kernel⟩, List.mem_of_getElem? (i := 902) (by decide +kernel), List.mem_of_getElem? (i := 1190) (by decide +kernel), List.mem_of_getElem? (i := 1191) (by decide +kernel)⟩
theorem lw_p60 : lw_okq (⟨"PluginChainsModel", "isRun", "(II)Z"⟩, 37) := ⟨⟨by decide +kernel, by decide +kernel⟩, List.mem_of_getElem? (i := 902) (by decide +kernel), List.mem_of_getElem? (i := 1194) (by decide +kernel), List.mem_of_getElem? (i := 1195) (by decide +kernel)⟩
theorem lw_p61 : lw_okq (⟨"PluginChainsModel", "taken", "(II)I"⟩, 37) := ⟨⟨by decide +kernel, by decide +kernel⟩, List.mem_of_getElem? (i := 902) (by decide +kernel), List.mem_of_getElem? (i := 1198) (by decide +kernel), List.mem_of_getElem? (i := 1199) (by decide +kernel)⟩
theorem lw_p62 : lw_okq (⟨"PluginChainsModel", "key", "(I)I"⟩, 37) := ⟨⟨by decide +kernel, by decide +kernel⟩, List.mem_of_getElem? (i := 902) (by decide +kernel), List.mem_of_getElem? (i := 1202) (by decide +kernel), List.mem_of_getElem? (i := 1203) (by decide +kernel)⟩
theorem lw_p63 : lw_okq (⟨"PluginChainsModel", "runs", "(I)Z"⟩, 37) := ⟨⟨by decide +kernel, by decide +kernel⟩, List.mem_of_getElem? (i := 902) (by decide +kernel), List.mem_of_getElem? (i := 1206) (by decide +kernel), List.mem_of_getElem? (i := 1207) (by decide +kernel)⟩
def lw_privs_4 : List (MethodName × Nat) := [(⟨"PluginChainsModel", "name", "()I"⟩, 37), (⟨"PluginChainsModel", "digit", "(I)I"⟩, 37), (⟨"PluginChainsModel", "marks", "(I)Z"⟩, 37), (⟨"PluginChainsModel", "no10", "(I)I"⟩, 37), (⟨"PluginChainsModel", "isNeeded", "(II)Z"⟩, 37), (⟨"PluginChainsModel", "provides", "(II)I"⟩, 37), (⟨"PluginChainsModel", "isOffered", "(II)Z"⟩, 37), (⟨"PluginChainsModel", "isOlder", "(II)Z"⟩, 37), (⟨"PluginChainsModel", "begins", "(I)Z"⟩, 37), (⟨"PluginChainsModel", "starts", "(I)Z"⟩, 37), (⟨"PluginChainsModel", "fails", "(III)Z"⟩, 37), (⟨"PluginChainsModel", "hasNeeds", "(I)Z"⟩, 37), (⟨"PluginChainsModel", "isRun", "(II)Z"⟩, 37), (⟨"PluginChainsModel", "taken", "(II)I"⟩, 37), (⟨"PluginChainsModel", "key", "(I)I"⟩, 37), (⟨"PluginChainsModel", "runs", "(I)Z"⟩, 37)]
theorem lw_r4 : ∀ q ∈ lw_privs_4, lw_okq q := List.forall_mem_cons.mpr ⟨lw_p48, List.forall_mem_cons.mpr ⟨lw_p49, List.forall_mem_cons.mpr ⟨lw_p50, List.forall_mem_cons.mpr ⟨lw_p51, List.forall_mem_cons.mpr ⟨lw_p52, List.forall_mem_cons.mpr ⟨lw_p53, List.forall_mem_cons.mpr ⟨lw_p54, List.forall_mem_cons.mpr ⟨lw_p55, List.forall_mem_cons.mpr ⟨lw_p56, List.forall_mem_cons.mpr ⟨lw_p57, List.forall_mem_cons.mpr ⟨lw_p58, List.forall_mem_cons.mpr ⟨lw_p59, List.forall_mem_cons.mpr ⟨lw_p60, List.forall_mem_cons.mpr ⟨lw_p61, List.forall_mem_cons.mpr ⟨lw_p62, List.forall_mem_cons.mpr ⟨lw_p63, fun _ h => absurd h List.not_mem_nil⟩⟩⟩⟩⟩⟩⟩⟩⟩⟩⟩⟩⟩⟩⟩⟩
theorem lw_p64 : lw_okq (⟨"PluginChainsModel", "logs", "(I)V"⟩, 37) := ⟨⟨by decide +kernel, by decide +kernel⟩, List.mem_of_getElem? (i := 902) (by decide +kernel), List.mem_of_getElem? (i := 1210) (by decide +kernel), List.mem_of_getElem? (i := 1211) (by decide +kernel)⟩
theorem lw_p65 : lw_okq (⟨"PluginChainsModel", "stops", "(I)I"⟩, 37) := ⟨⟨by decide +kernel, by decide +kernel⟩, List.mem_of_getElem? (i := 902) (by decide +kernel), List.mem_of_getElem? (i := 1222) (by decide +kernel), List.mem_of_getElem? (i := 1223) (by decide +kernel)⟩
theorem lw_p66 : lw_okq (⟨"PluginChainsModel", "waves", "(I)V"⟩, 37) := ⟨⟨by decide +kernel, by decide +kernel⟩, List.mem_of_getElem? (i := 902) (by decide +kernel), List.mem_of_getElem? (i := 1226) (by decide +kernel), List.mem_of_getElem? (i := 1227) (by decide +kernel)⟩
theorem lw_p67 : lw_okq (⟨"PluginChainsModel", "isHeld", "(I)Z"⟩, 37) := ⟨⟨by decide +kernel, by decide +kernel⟩, List.mem_of_getElem? (i := 902) (by decide +kernel), List.mem_of_getElem? (i := 1230) (by decide +kernel), List.mem_of_getElem? (i := 1231) (by decide +kernel)⟩
theorem lw_p68 : lw_okq (⟨"PluginChainsModel", "keep", "([I)V"⟩, 37) := ⟨⟨by decide +kernel, by decide +kernel⟩, List.mem_of_getElem? (i := 902) (by decide +kernel), List.mem_of_getElem? (i := 1250) (by decide +kernel), List.mem_of_getElem? (i := 1251) (by decide +kernel)⟩
theorem lw_p69 : lw_okq (⟨"PluginChainsModel", "again", "([I)V"⟩, 37) := ⟨⟨by decide +kernel, by decide +kernel⟩, List.mem_of_getElem? (i := 902) (by decide +kernel), List.mem_of_getElem? (i := 1254) (by decide +kernel), List.mem_of_getElem? (i := 1255) (by decide +kernel)⟩
theorem lw_p70 : lw_okq (⟨"PluginChainsModel", "hk", "(II)I"⟩, 37) := ⟨⟨by decide +kernel, by decide +kernel⟩, List.mem_of_getElem? (i := 902) (by decide +kernel), List.mem_of_getElem? (i := 1277) (by decide +kernel), List.mem_of_getElem? (i := 1278) (by decide +kernel)⟩
theorem lw_p71 : lw_okq (⟨"PluginChainsModel", "chains", "(II)V"⟩, 37) := ⟨⟨by decide +kernel, by decide +kernel⟩, List.mem_of_getElem? (i := 902) (by decide +kernel), List.mem_of_getElem? (i := 1285) (by decide +kernel), List.mem_of_getElem? (i := 1286) (by decide +kernel)⟩
theorem lw_p72 : lw_okq (⟨"PluginChainsModel", "isAhead", "(II)Z"⟩, 37) := ⟨⟨by decide +kernel, by decide +kernel⟩, List.mem_of_getElem? (i := 902) (by decide +kernel), List.mem_of_getElem? (i := 1289) (by decide +kernel), List.mem_of_getElem? (i := 1290) (by decide +kernel)⟩
theorem lw_p73 : lw_okq (⟨"PluginChainsModel", "fires", "(I)I"⟩, 37) := ⟨⟨by decide +kernel, by decide +kernel⟩, List.mem_of_getElem? (i := 902) (by decide +kernel), List.mem_of_getElem? (i := 1297) (by decide +kernel), List.mem_of_getElem? (i := 1298) (by decide +kernel)⟩
theorem lw_p74 : lw_okq (⟨"PluginChainsModel", "rest", "(II)I"⟩, 37) := ⟨⟨by decide +kernel, by decide +kernel⟩, List.mem_of_getElem? (i := 902) (by decide +kernel), List.mem_of_getElem? (i := 1301) (by decide +kernel), List.mem_of_getElem? (i := 1302) (by decide +kernel)⟩
theorem lw_p75 : lw_okq (⟨"PluginChainsModel", "throwsOne", "(I)I"⟩, 37) := ⟨⟨by decide +kernel, by decide +kernel⟩, List.mem_of_getElem? (i := 902) (by decide +kernel), List.mem_of_getElem? (i := 1308) (by decide +kernel), List.mem_of_getElem? (i := 1309) (by decide +kernel)⟩
theorem lw_p76 : lw_okq (⟨"PluginChainsModel", "read", "(II)I"⟩, 37) := ⟨⟨by decide +kernel, by decide +kernel⟩, List.mem_of_getElem? (i := 902) (by decide +kernel), List.mem_of_getElem? (i := 1335) (by decide +kernel), List.mem_of_getElem? (i := 1336) (by decide +kernel)⟩
theorem lw_p77 : lw_okq (⟨"PluginChainsModel", "draw", "(I)I"⟩, 37) := ⟨⟨by decide +kernel, by decide +kernel⟩, List.mem_of_getElem? (i := 902) (by decide +kernel), List.mem_of_getElem? (i := 1352) (by decide +kernel), List.mem_of_getElem? (i := 1353) (by decide +kernel)⟩
theorem lw_p78 : lw_okq (⟨"PluginChainsModel", "inState", "(I)I"⟩, 37) := ⟨⟨by decide +kernel, by decide +kernel⟩, List.mem_of_getElem? (i := 902) (by decide +kernel), List.mem_of_getElem? (i := 1357) (by decide +kernel), List.mem_of_getElem? (i := 1358) (by decide +kernel)⟩
def lw_privs_5 : List (MethodName × Nat) := [(⟨"PluginChainsModel", "logs", "(I)V"⟩, 37), (⟨"PluginChainsModel", "stops", "(I)I"⟩, 37), (⟨"PluginChainsModel", "waves", "(I)V"⟩, 37), (⟨"PluginChainsModel", "isHeld", "(I)Z"⟩, 37), (⟨"PluginChainsModel", "keep", "([I)V"⟩, 37), (⟨"PluginChainsModel", "again", "([I)V"⟩, 37), (⟨"PluginChainsModel", "hk", "(II)I"⟩, 37), (⟨"PluginChainsModel", "chains", "(II)V"⟩, 37), (⟨"PluginChainsModel", "isAhead", "(II)Z"⟩, 37), (⟨"PluginChainsModel", "fires", "(I)I"⟩, 37), (⟨"PluginChainsModel", "rest", "(II)I"⟩, 37), (⟨"PluginChainsModel", "throwsOne", "(I)I"⟩, 37), (⟨"PluginChainsModel", "read", "(II)I"⟩, 37), (⟨"PluginChainsModel", "draw", "(I)I"⟩, 37), (⟨"PluginChainsModel", "inState", "(I)I"⟩, 37)]
theorem lw_r5 : ∀ q ∈ lw_privs_5, lw_okq q := List.forall_mem_cons.mpr ⟨lw_p64, List.forall_mem_cons.mpr ⟨lw_p65, List.forall_mem_cons.mpr ⟨lw_p66, List.forall_mem_cons.mpr ⟨lw_p67, List.forall_mem_cons.mpr ⟨lw_p68, List.forall_mem_cons.mpr ⟨lw_p69, List.forall_mem_cons.mpr ⟨lw_p70, List.forall_mem_cons.mpr ⟨lw_p71, List.forall_mem_cons.mpr ⟨lw_p72, List.forall_mem_cons.mpr ⟨lw_p73, List.forall_mem_cons.mpr ⟨lw_p74, List.forall_mem_cons.mpr ⟨lw_p75, List.forall_mem_cons.mpr ⟨lw_p76, List.forall_mem_cons.mpr ⟨lw_p77, List.forall_mem_cons.mpr ⟨lw_p78, fun _ h => absurd h List.not_mem_nil⟩⟩⟩⟩⟩⟩⟩⟩⟩⟩⟩⟩⟩⟩⟩
def lw_privs : List (MethodName × Nat) := lw_privs_1 ++ (lw_privs_2 ++ (lw_privs_3 ++ (lw_privs_4 ++ (lw_privs_5))))
def lw_tbl : List Cond := k2_sels lw_privs ++ tables_1
theorem lw_privs_ok : ∀ q ∈ lw_privs, lw_okq q := by
  show ∀ q ∈ lw_privs_1 ++ (lw_privs_2 ++ (lw_privs_3 ++ (lw_privs_4 ++ (lw_privs_5)))), lw_okq q
  exact List.forall_mem_append.mpr ⟨lw_r1, List.forall_mem_append.mpr ⟨lw_r2, List.forall_mem_append.mpr ⟨lw_r3, List.forall_mem_append.mpr ⟨lw_r4, lw_r5⟩⟩⟩⟩
end
section
def RX0 : String := "PluginChains$EventLog"
def TX0 : u_T := fun k => match k with
  | 0 => ("PluginChains$EventLog", "latest", "[I", true)
  | _ => ("PluginChains$EventLog", "total", "I", false)
def tyX0 : Nat → FieldType := fun k => match k with
  | 0 => .array .int
  | _ => .int
abbrev wsX00 : List Cond := u_ws RX0 TX0 2
theorem nmX0 : ∀ a, a < 2 → ∀ b, b < 2 → a ≠ b → (TX0 a).2.1 ≠ (TX0 b).2.1 := by decide +kernel
theorem tyX0_ok : ∀ k, k < 2 → parseFieldDescriptor (TX0 k).2.2.1 = some (tyX0 k) := by decide +kernel
abbrev cX0_init : ByteArray := prog_2_method_1_code
def yX0_init : MethodName := ⟨RX0, "<init>", "()V"⟩
abbrev cX0_add : ByteArray := prog_2_method_2_code
def yX0_add : MethodName := ⟨RX0, "add", "(I)V"⟩
abbrev cX0_kept : ByteArray := prog_2_method_3_code
def yX0_kept : MethodName := ⟨RX0, "kept", "(I)I"⟩
def RX1 : String := "PluginChains$Firing"
def TX1 : u_T := fun k => match k with
  | 0 => ("PluginChains$Firing", "host", "LPluginChains$Host;", true)
  | 1 => ("PluginChains$Firing", "chain", "[I", true)
  | 2 => ("PluginChains$Firing", "length", "I", false)
  | 3 => ("PluginChains$Firing", "outcome", "I", false)
  | 4 => ("PluginChains$Firing", "value", "I", false)
  | 5 => ("PluginChains$Firing", "ran", "I", false)
  | 6 => ("PluginChains$Firing", "trace", "[I", true)
  | _ => ("PluginChains$Firing", "notes", "[I", true)
def tyX1 : Nat → FieldType := fun k => match k with
  | 0 => .object "PluginChains$Host"
  | 1 => .array .int
  | 2 => .int
  | 3 => .int
  | 4 => .int
  | 5 => .int
  | 6 => .array .int
  | _ => .array .int
abbrev wsX10 : List Cond := u_ws RX1 TX1 8
theorem nmX1 : ∀ a, a < 8 → ∀ b, b < 8 → a ≠ b → (TX1 a).2.1 ≠ (TX1 b).2.1 := by decide +kernel
theorem tyX1_ok : ∀ k, k < 8 → parseFieldDescriptor (TX1 k).2.2.1 = some (tyX1 k) := by decide +kernel
abbrev cX1_init : ByteArray := prog_3_method_1_code
def yX1_init : MethodName := ⟨RX1, "<init>", "(LPluginChains$Host;)V"⟩
abbrev cX1_gather : ByteArray := prog_3_method_2_code
def yX1_gather : MethodName := ⟨RX1, "gather", "(II)V"⟩
abbrev cX1_insert : ByteArray := prog_3_method_3_code
def yX1_insert : MethodName := ⟨RX1, "insert", "(I)V"⟩
abbrev cX1_runsAhead : ByteArray := prog_3_method_4_code
def yX1_runsAhead : MethodName := ⟨RX1, "runsAhead", "(LPluginChains$Hook;LPluginChains$Hook;)Z"⟩
abbrev cX1_run : ByteArray := prog_3_method_5_code
def yX1_run : MethodName := ⟨RX1, "run", "(I)V"⟩
abbrev cX1_gives : ByteArray := prog_3_method_6_code
def yX1_gives : MethodName := ⟨RX1, "gives", "(II)Z"⟩
abbrev cX1_keepNotes : ByteArray := prog_3_method_7_code
def yX1_keepNotes : MethodName := ⟨RX1, "keepNotes", "()V"⟩
abbrev cX1_ask : ByteArray := prog_3_method_8_code
def yX1_ask : MethodName := ⟨RX1, "ask", "(II)I"⟩
abbrev cX1_looksFirst : ByteArray := prog_3_method_9_code
def yX1_looksFirst : MethodName := ⟨RX1, "looksFirst", "(I)Z"⟩
abbrev cX1_lookFirst : ByteArray := prog_3_method_10_code
def yX1_lookFirst : MethodName := ⟨RX1, "lookFirst", "(ILPluginChains$Hook;I)I"⟩
abbrev cX1_handedOn : ByteArray := prog_3_method_11_code
def yX1_handedOn : MethodName := ⟨RX1, "handedOn", "(LPluginChains$Hook;I)I"⟩
abbrev cX1_restFirst : ByteArray := prog_3_method_12_code
def yX1_restFirst : MethodName := ⟨RX1, "restFirst", "(ILPluginChains$Hook;I)I"⟩
def RX2 : String := "PluginChains$Hook"
def TX2 : u_T := fun k => match k with
  | 0 => ("PluginChains$Hook", "plug", "I", false)
  | 1 => ("PluginChains$Hook", "point", "I", false)
  | 2 => ("PluginChains$Hook", "priority", "I", false)
  | 3 => ("PluginChains$Hook", "function", "I", false)
  | _ => ("PluginChains$Hook", "k", "I", false)
def tyX2 : Nat → FieldType := fun k => match k with
  | 0 => .int
  | 1 => .int
  | 2 => .int
  | 3 => .int
  | _ => .int
abbrev wsX20 : List Cond := u_ws RX2 TX2 5
theorem nmX2 : ∀ a, a < 5 → ∀ b, b < 5 → a ≠ b → (TX2 a).2.1 ≠ (TX2 b).2.1 := by decide +kernel
theorem tyX2_ok : ∀ k, k < 5 → parseFieldDescriptor (TX2 k).2.2.1 = some (tyX2 k) := by decide +kernel
abbrev cX2_init : ByteArray := prog_4_method_1_code
def yX2_init : MethodName := ⟨RX2, "<init>", "()V"⟩
abbrev cX2_begin : ByteArray := prog_4_method_2_code
def yX2_begin : MethodName := ⟨RX2, "begin", "(IIIII)V"⟩
abbrev cX2_takeFrom : ByteArray := prog_4_method_3_code
def yX2_takeFrom : MethodName := ⟨RX2, "takeFrom", "(LPluginChains$Hook;)V"⟩
def RX3 : String := "PluginChains$Host"
def TX3 : u_T := fun k => match k with
  | 0 => ("PluginChains$Host", "plugs", "[LPluginChains$Plug;", true)
  | 1 => ("PluginChains$Host", "hooks", "[LPluginChains$Hook;", true)
  | 2 => ("PluginChains$Host", "plugCount", "I", false)
  | 3 => ("PluginChains$Host", "hookCount", "I", false)
  | 4 => ("PluginChains$Host", "clock", "I", false)
  | _ => ("PluginChains$Host", "seed", "I", false)
def tyX3 : Nat → FieldType := fun k => match k with
  | 0 => .array (.object "PluginChains$Plug")
  | 1 => .array (.object "PluginChains$Hook")
  | 2 => .int
  | 3 => .int
  | 4 => .int
  | _ => .int
abbrev wsX30 : List Cond := u_ws RX3 TX3 6
theorem nmX3 : ∀ a, a < 6 → ∀ b, b < 6 → a ≠ b → (TX3 a).2.1 ≠ (TX3 b).2.1 := by decide +kernel
theorem tyX3_ok : ∀ k, k < 6 → parseFieldDescriptor (TX3 k).2.2.1 = some (tyX3 k) := by decide +kernel
abbrev cX3_init : ByteArray := prog_5_method_1_code
def yX3_init : MethodName := ⟨RX3, "<init>", "()V"⟩
abbrev cX3_takeFrom : ByteArray := prog_5_method_2_code
def yX3_takeFrom : MethodName := ⟨RX3, "takeFrom", "(LPluginChains$Host;)V"⟩
abbrev cX3_hasPlug : ByteArray := prog_5_method_3_code
def yX3_hasPlug : MethodName := ⟨RX3, "hasPlug", "(I)Z"⟩
abbrev cX3_runs : ByteArray := prog_5_method_4_code
def yX3_runs : MethodName := ⟨RX3, "runs", "(I)Z"⟩
abbrev cX3_hasName : ByteArray := prog_5_method_5_code
def yX3_hasName : MethodName := ⟨RX3, "hasName", "(I)Z"⟩
abbrev cX3_countIn : ByteArray := prog_5_method_6_code
def yX3_countIn : MethodName := ⟨RX3, "countIn", "(I)I"⟩
abbrev cX3_runningBits : ByteArray := prog_5_method_7_code
def yX3_runningBits : MethodName := ⟨RX3, "runningBits", "()I"⟩
abbrev cX3_olderThan : ByteArray := prog_5_method_8_code
def yX3_olderThan : MethodName := ⟨RX3, "olderThan", "(I)I"⟩
abbrev cX3_offering : ByteArray := prog_5_method_9_code
def yX3_offering : MethodName := ⟨RX3, "offering", "(II)I"⟩
abbrev cX3_providerFor : ByteArray := prog_5_method_10_code
def yX3_providerFor : MethodName := ⟨RX3, "providerFor", "(II)I"⟩
abbrev cX3_providesBetter : ByteArray := prog_5_method_11_code
def yX3_providesBetter : MethodName := ⟨RX3, "providesBetter", "(LPluginChains$Plug;LPluginChains$Plug;)Z"⟩
abbrev cX3_draw : ByteArray := prog_5_method_12_code
def yX3_draw : MethodName := ⟨RX3, "draw", "(I)I"⟩
def RX4 : String := "PluginChains$Plan"
def TX4 : u_T := fun k => match k with
  | 0 => ("PluginChains$Plan", "host", "LPluginChains$Host;", true)
  | 1 => ("PluginChains$Plan", "started", "[I", true)
  | 2 => ("PluginChains$Plan", "startedCount", "I", false)
  | 3 => ("PluginChains$Plan", "broken", "I", false)
  | 4 => ("PluginChains$Plan", "causes", "[I", true)
  | 5 => ("PluginChains$Plan", "causeCount", "I", false)
  | 6 => ("PluginChains$Plan", "runningBits", "I", false)
  | _ => ("PluginChains$Plan", "startingBits", "I", false)
def tyX4 : Nat → FieldType := fun k => match k with
  | 0 => .object "PluginChains$Host"
  | 1 => .array .int
  | 2 => .int
  | 3 => .int
  | 4 => .array .int
  | 5 => .int
  | 6 => .int
  | _ => .int
abbrev wsX40 : List Cond := u_ws RX4 TX4 8
theorem nmX4 : ∀ a, a < 8 → ∀ b, b < 8 → a ≠ b → (TX4 a).2.1 ≠ (TX4 b).2.1 := by decide +kernel
theorem tyX4_ok : ∀ k, k < 8 → parseFieldDescriptor (TX4 k).2.2.1 = some (tyX4 k) := by decide +kernel
abbrev cX4_init : ByteArray := prog_6_method_1_code
def yX4_init : MethodName := ⟨RX4, "<init>", "(LPluginChains$Host;)V"⟩
abbrev cX4_make : ByteArray := prog_6_method_2_code
def yX4_make : MethodName := ⟨RX4, "make", "(I)Z"⟩
abbrev cX4_bring : ByteArray := prog_6_method_3_code
def yX4_bring : MethodName := ⟨RX4, "bring", "(II)Z"⟩
abbrev cX4_bringOffer : ByteArray := prog_6_method_4_code
def yX4_bringOffer : MethodName := ⟨RX4, "bringOffer", "(III)Z"⟩
abbrev cX4_idleOffer : ByteArray := prog_6_method_5_code
def yX4_idleOffer : MethodName := ⟨RX4, "idleOffer", "(II)I"⟩
abbrev cX4_takenRather : ByteArray := prog_6_method_6_code
def yX4_takenRather : MethodName := ⟨RX4, "takenRather", "(LPluginChains$Plug;LPluginChains$Plug;)Z"⟩
abbrev cX4_fails : ByteArray := prog_6_method_7_code
def yX4_fails : MethodName := ⟨RX4, "fails", "(IIII)Z"⟩
def RX5 : String := "PluginChains$Plug"
def TX5 : u_T := fun k => match k with
  | 0 => ("PluginChains$Plug", "kind", "I", false)
  | 1 => ("PluginChains$Plug", "rank", "I", false)
  | 2 => ("PluginChains$Plug", "needs", "I", false)
  | 3 => ("PluginChains$Plug", "offers", "I", false)
  | 4 => ("PluginChains$Plug", "faults", "I", false)
  | 5 => ("PluginChains$Plug", "name", "I", false)
  | 6 => ("PluginChains$Plug", "strength", "I", false)
  | 7 => ("PluginChains$Plug", "nameOrder", "I", false)
  | 8 => ("PluginChains$Plug", "tally", "I", false)
  | 9 => ("PluginChains$Plug", "state", "I", false)
  | _ => ("PluginChains$Plug", "age", "I", false)
def tyX5 : Nat → FieldType := fun k => match k with
  | 0 => .int
  | 1 => .int
  | 2 => .int
  | 3 => .int
  | 4 => .int
  | 5 => .int
  | 6 => .int
  | 7 => .int
  | 8 => .int
  | 9 => .int
  | _ => .int
abbrev wsX50 : List Cond := u_ws RX5 TX5 11
theorem nmX5 : ∀ a, a < 11 → ∀ b, b < 11 → a ≠ b → (TX5 a).2.1 ≠ (TX5 b).2.1 := by decide +kernel
theorem tyX5_ok : ∀ k, k < 11 → parseFieldDescriptor (TX5 k).2.2.1 = some (tyX5 k) := by decide +kernel
abbrev cX5_init : ByteArray := prog_7_method_1_code
def yX5_init : MethodName := ⟨RX5, "<init>", "()V"⟩
abbrev cX5_begin : ByteArray := prog_7_method_2_code
def yX5_begin : MethodName := ⟨RX5, "begin", "(IIIIII)V"⟩
abbrev cX5_takeFrom : ByteArray := prog_7_method_3_code
def yX5_takeFrom : MethodName := ⟨RX5, "takeFrom", "(LPluginChains$Plug;)V"⟩
abbrev cX5_needsService : ByteArray := prog_7_method_4_code
def yX5_needsService : MethodName := ⟨RX5, "needsService", "(I)Z"⟩
abbrev cX5_offersService : ByteArray := prog_7_method_5_code
def yX5_offersService : MethodName := ⟨RX5, "offersService", "(I)Z"⟩
abbrev cX5_strengthByKind : ByteArray := prog_7_method_6_code
def yX5_strengthByKind : MethodName := ⟨RX5, "strengthByKind", "()I"⟩
abbrev cX5_isOf : ByteArray := prog_7_method_7_code
def yX5_isOf : MethodName := ⟨RX5, "isOf", "(I)Z"⟩
abbrev cX5_wordAs : ByteArray := prog_7_method_8_code
def yX5_wordAs : MethodName := ⟨RX5, "wordAs", "(I)I"⟩
abbrev cX5_lettersFromLeft : ByteArray := prog_7_method_9_code
def yX5_lettersFromLeft : MethodName := ⟨RX5, "lettersFromLeft", "()I"⟩
def RX6 : String := "PluginChains$Shelf"
def TX6 : u_T := fun k => match k with
  | 0 => ("PluginChains$Shelf", "elements", "[J", true)
  | 1 => ("PluginChains$Shelf", "sort", "I", false)
  | 2 => ("PluginChains$Shelf", "size", "I", false)
  | _ => ("PluginChains$Shelf", "plug", "I", false)
def tyX6 : Nat → FieldType := fun k => match k with
  | 0 => .array .long
  | 1 => .int
  | 2 => .int
  | _ => .int
abbrev wsX60 : List Cond := u_ws RX6 TX6 4
theorem nmX6 : ∀ a, a < 4 → ∀ b, b < 4 → a ≠ b → (TX6 a).2.1 ≠ (TX6 b).2.1 := by decide +kernel
theorem tyX6_ok : ∀ k, k < 4 → parseFieldDescriptor (TX6 k).2.2.1 = some (tyX6 k) := by decide +kernel
abbrev cX6_init : ByteArray := prog_8_method_1_code
def yX6_init : MethodName := ⟨RX6, "<init>", "()V"⟩
abbrev cX6_holdRow : ByteArray := prog_8_method_2_code
def yX6_holdRow : MethodName := ⟨RX6, "holdRow", "(II)V"⟩
abbrev cX6_holdPlug : ByteArray := prog_8_method_3_code
def yX6_holdPlug : MethodName := ⟨RX6, "holdPlug", "(I)V"⟩
abbrev cX6_holdNothing : ByteArray := prog_8_method_4_code
def yX6_holdNothing : MethodName := ⟨RX6, "holdNothing", "()V"⟩
abbrev cX6_hasRow : ByteArray := prog_8_method_5_code
def yX6_hasRow : MethodName := ⟨RX6, "hasRow", "()Z"⟩
abbrev cX6_hasPlug : ByteArray := prog_8_method_6_code
def yX6_hasPlug : MethodName := ⟨RX6, "hasPlug", "()Z"⟩
abbrev cX6_hasElement : ByteArray := prog_8_method_7_code
def yX6_hasElement : MethodName := ⟨RX6, "hasElement", "(I)Z"⟩
abbrev cX6_hasRange : ByteArray := prog_8_method_8_code
def yX6_hasRange : MethodName := ⟨RX6, "hasRange", "(II)Z"⟩
abbrev cX6_asInt : ByteArray := prog_8_method_9_code
def yX6_asInt : MethodName := ⟨RX6, "asInt", "(I)I"⟩
abbrev cX6_put : ByteArray := prog_8_method_10_code
def yX6_put : MethodName := ⟨RX6, "put", "(IJ)V"⟩
abbrev cX6_narrowed : ByteArray := prog_8_method_11_code
def yX6_narrowed : MethodName := ⟨RX6, "narrowed", "(J)J"⟩
def RX7 : String := "PluginChains$TextReader"
def TX7 : u_T := fun k => match k with
  | 0 => ("PluginChains$TextReader", "host", "LPluginChains$Host;", true)
  | 1 => ("PluginChains$TextReader", "items", "[LPluginChains$Plug;", true)
  | 2 => ("PluginChains$TextReader", "itemCount", "I", false)
  | 3 => ("PluginChains$TextReader", "text", "LPluginChains$Shelf;", false)
  | 4 => ("PluginChains$TextReader", "at", "I", false)
  | _ => ("PluginChains$TextReader", "fault", "I", false)
def tyX7 : Nat → FieldType := fun k => match k with
  | 0 => .object "PluginChains$Host"
  | 1 => .array (.object "PluginChains$Plug")
  | 2 => .int
  | 3 => .object "PluginChains$Shelf"
  | 4 => .int
  | _ => .int
abbrev wsX70 : List Cond := u_ws RX7 TX7 6
theorem nmX7 : ∀ a, a < 6 → ∀ b, b < 6 → a ≠ b → (TX7 a).2.1 ≠ (TX7 b).2.1 := by decide +kernel
theorem tyX7_ok : ∀ k, k < 6 → parseFieldDescriptor (TX7 k).2.2.1 = some (tyX7 k) := by decide +kernel
abbrev cX7_init : ByteArray := prog_9_method_1_code
def yX7_init : MethodName := ⟨RX7, "<init>", "(LPluginChains$Host;)V"⟩
abbrev cX7_parse : ByteArray := prog_9_method_2_code
def yX7_parse : MethodName := ⟨RX7, "parse", "(LPluginChains$Shelf;)I"⟩
abbrev cX7_addItems : ByteArray := prog_9_method_3_code
def yX7_addItems : MethodName := ⟨RX7, "addItems", "()I"⟩
abbrev cX7_readItem : ByteArray := prog_9_method_4_code
def yX7_readItem : MethodName := ⟨RX7, "readItem", "()Z"⟩
abbrev cX7_readName : ByteArray := prog_9_method_5_code
def yX7_readName : MethodName := ⟨RX7, "readName", "(LPluginChains$Plug;)Z"⟩
abbrev cX7_hasItemNamed : ByteArray := prog_9_method_6_code
def yX7_hasItemNamed : MethodName := ⟨RX7, "hasItemNamed", "(I)Z"⟩
abbrev cX7_readNumbers : ByteArray := prog_9_method_7_code
def yX7_readNumbers : MethodName := ⟨RX7, "readNumbers", "(LPluginChains$Plug;)Z"⟩
abbrev cX7_readMarks : ByteArray := prog_9_method_8_code
def yX7_readMarks : MethodName := ⟨RX7, "readMarks", "(LPluginChains$Plug;)Z"⟩
abbrev cX7_readMark : ByteArray := prog_9_method_9_code
def yX7_readMark : MethodName := ⟨RX7, "readMark", "(LPluginChains$Plug;)Z"⟩
abbrev cX7_look : ByteArray := prog_9_method_10_code
def yX7_look : MethodName := ⟨RX7, "look", "()I"⟩
abbrev cX7_isLetter : ByteArray := prog_9_method_11_code
def yX7_isLetter : MethodName := ⟨RX7, "isLetter", "(I)Z"⟩
abbrev cX7_take : ByteArray := prog_9_method_12_code
def yX7_take : MethodName := ⟨RX7, "take", "(I)Z"⟩
abbrev cX7_takeDigit : ByteArray := prog_9_method_13_code
def yX7_takeDigit : MethodName := ⟨RX7, "takeDigit", "(I)I"⟩
abbrev cX7_failAt : ByteArray := prog_9_method_14_code
def yX7_failAt : MethodName := ⟨RX7, "failAt", "(I)Z"⟩
def RX8 : String := "PluginChains$Waves"
def TX8 : u_T := fun k => match k with
  | 0 => ("PluginChains$Waves", "host", "LPluginChains$Host;", true)
  | _ => ("PluginChains$Waves", "waveOf", "[I", true)
def tyX8 : Nat → FieldType := fun k => match k with
  | 0 => .object "PluginChains$Host"
  | _ => .array .int
abbrev wsX80 : List Cond := u_ws RX8 TX8 2
theorem nmX8 : ∀ a, a < 2 → ∀ b, b < 2 → a ≠ b → (TX8 a).2.1 ≠ (TX8 b).2.1 := by decide +kernel
theorem tyX8_ok : ∀ k, k < 2 → parseFieldDescriptor (TX8 k).2.2.1 = some (tyX8 k) := by decide +kernel
abbrev cX8_init : ByteArray := prog_10_method_1_code
def yX8_init : MethodName := ⟨RX8, "<init>", "(LPluginChains$Host;)V"⟩
abbrev cX8_spread : ByteArray := prog_10_method_2_code
def yX8_spread : MethodName := ⟨RX8, "spread", "(I)I"⟩
abbrev cX8_addWave : ByteArray := prog_10_method_3_code
def yX8_addWave : MethodName := ⟨RX8, "addWave", "(I)I"⟩
abbrev cX8_leftBits : ByteArray := prog_10_method_4_code
def yX8_leftBits : MethodName := ⟨RX8, "leftBits", "()I"⟩
abbrev cX8_lacksOffer : ByteArray := prog_10_method_5_code
def yX8_lacksOffer : MethodName := ⟨RX8, "lacksOffer", "(II)Z"⟩
abbrev cX8_youngestRunning : ByteArray := prog_10_method_6_code
def yX8_youngestRunning : MethodName := ⟨RX8, "youngestRunning", "()I"⟩
def RX9 : String := "PluginChains"
def TX9 : u_T := fun k => match k with
  | 0 => ("PluginChains", "shelves", "[LPluginChains$Shelf;", true)
  | 1 => ("PluginChains", "host", "LPluginChains$Host;", true)
  | 2 => ("PluginChains", "kept", "LPluginChains$Host;", true)
  | 3 => ("PluginChains", "imageTaken", "Z", false)
  | 4 => ("PluginChains", "plan", "LPluginChains$Plan;", true)
  | 5 => ("PluginChains", "waves", "LPluginChains$Waves;", true)
  | 6 => ("PluginChains", "fired", "LPluginChains$Firing;", true)
  | 7 => ("PluginChains", "tried", "LPluginChains$Firing;", true)
  | 8 => ("PluginChains", "reader", "LPluginChains$TextReader;", true)
  | 9 => ("PluginChains", "events", "LPluginChains$EventLog;", true)
  | 10 => ("PluginChains", "causes", "[I", true)
  | 11 => ("PluginChains", "causeCount", "I", false)
  | 12 => ("PluginChains", "latestFault", "I", false)
  | _ => ("PluginChains", "refusals", "[I", true)
def tyX9 : Nat → FieldType := fun k => match k with
  | 0 => .array (.object "PluginChains$Shelf")
  | 1 => .object "PluginChains$Host"
  | 2 => .object "PluginChains$Host"
  | 3 => .boolean
  | 4 => .object "PluginChains$Plan"
  | 5 => .object "PluginChains$Waves"
  | 6 => .object "PluginChains$Firing"
  | 7 => .object "PluginChains$Firing"
  | 8 => .object "PluginChains$TextReader"
  | 9 => .object "PluginChains$EventLog"
  | 10 => .array .int
  | 11 => .int
  | 12 => .int
  | _ => .array .int
abbrev wsX90 : List Cond := u_ws RX9 TX9 14
theorem nmX9 : ∀ a, a < 14 → ∀ b, b < 14 → a ≠ b → (TX9 a).2.1 ≠ (TX9 b).2.1 := by decide +kernel
theorem tyX9_ok : ∀ k, k < 14 → parseFieldDescriptor (TX9 k).2.2.1 = some (tyX9 k) := by decide +kernel
abbrev cX9_init : ByteArray := prog_1_method_1_code
def yX9_init : MethodName := ⟨RX9, "<init>", "()V"⟩
abbrev cX9_row : ByteArray := prog_1_method_2_code
def yX9_row : MethodName := ⟨RX9, "row", "(III)I"⟩
abbrev cX9_set : ByteArray := prog_1_method_3_code
def yX9_set : MethodName := ⟨RX9, "set", "(IIJ)I"⟩
abbrev cX9_copy : ByteArray := prog_1_method_4_code
def yX9_copy : MethodName := ⟨RX9, "copy", "(IIIII)I"⟩
abbrev cX9_element : ByteArray := prog_1_method_5_code
def yX9_element : MethodName := ⟨RX9, "element", "(II)J"⟩
abbrev cX9_show : ByteArray := prog_1_method_6_code
def yX9_show : MethodName := ⟨RX9, "show", "(II)I"⟩
abbrev cX9_holds : ByteArray := prog_1_method_7_code
def yX9_holds : MethodName := ⟨RX9, "holds", "(I)I"⟩
abbrev cX9_says : ByteArray := prog_1_method_8_code
def yX9_says : MethodName := ⟨RX9, "says", "(II)I"⟩
abbrev cX9_plug : ByteArray := prog_1_method_9_code
def yX9_plug : MethodName := ⟨RX9, "plug", "(IIIIII)I"⟩
abbrev cX9_read : ByteArray := prog_1_method_10_code
def yX9_read : MethodName := ⟨RX9, "read", "(I)I"⟩
abbrev cX9_fault : ByteArray := prog_1_method_11_code
def yX9_fault : MethodName := ⟨RX9, "fault", "()I"⟩
abbrev cX9_plugOf : ByteArray := prog_1_method_12_code
def yX9_plugOf : MethodName := ⟨RX9, "plugOf", "(II)I"⟩
abbrev cX9_age : ByteArray := prog_1_method_13_code
def yX9_age : MethodName := ⟨RX9, "age", "(I)I"⟩
abbrev cX9_tally : ByteArray := prog_1_method_14_code
def yX9_tally : MethodName := ⟨RX9, "tally", "(I)I"⟩
abbrev cX9_provider : ByteArray := prog_1_method_15_code
def yX9_provider : MethodName := ⟨RX9, "provider", "(II)I"⟩
abbrev cX9_start : ByteArray := prog_1_method_16_code
def yX9_start : MethodName := ⟨RX9, "start", "(I)I"⟩
abbrev cX9_cause : ByteArray := prog_1_method_17_code
def yX9_cause : MethodName := ⟨RX9, "cause", "(II)I"⟩
abbrev cX9_stop : ByteArray := prog_1_method_18_code
def yX9_stop : MethodName := ⟨RX9, "stop", "(I)I"⟩
abbrev cX9_wave : ByteArray := prog_1_method_19_code
def yX9_wave : MethodName := ⟨RX9, "wave", "(II)I"⟩
abbrev cX9_mend : ByteArray := prog_1_method_20_code
def yX9_mend : MethodName := ⟨RX9, "mend", "(I)I"⟩
abbrev cX9_remove : ByteArray := prog_1_method_21_code
def yX9_remove : MethodName := ⟨RX9, "remove", "(I)I"⟩
abbrev cX9_would : ByteArray := prog_1_method_22_code
def yX9_would : MethodName := ⟨RX9, "would", "(II)I"⟩
abbrev cX9_running : ByteArray := prog_1_method_23_code
def yX9_running : MethodName := ⟨RX9, "running", "(I)I"⟩
abbrev cX9_offered : ByteArray := prog_1_method_24_code
def yX9_offered : MethodName := ⟨RX9, "offered", "(I)I"⟩
abbrev cX9_hook : ByteArray := prog_1_method_25_code
def yX9_hook : MethodName := ⟨RX9, "hook", "(IIIII)I"⟩
abbrev cX9_hookOf : ByteArray := prog_1_method_26_code
def yX9_hookOf : MethodName := ⟨RX9, "hookOf", "(II)I"⟩
abbrev cX9_chain : ByteArray := prog_1_method_27_code
def yX9_chain : MethodName := ⟨RX9, "chain", "(II)I"⟩
abbrev cX9_fire : ByteArray := prog_1_method_28_code
def yX9_fire : MethodName := ⟨RX9, "fire", "(II)I"⟩
abbrev cX9_given : ByteArray := prog_1_method_29_code
def yX9_given : MethodName := ⟨RX9, "given", "()I"⟩
abbrev cX9_pure : ByteArray := prog_1_method_30_code
def yX9_pure : MethodName := ⟨RX9, "pure", "(III)J"⟩
abbrev cX9_matter : ByteArray := prog_1_method_31_code
def yX9_matter : MethodName := ⟨RX9, "matter", "(II)I"⟩
abbrev cX9_source : ByteArray := prog_1_method_32_code
def yX9_source : MethodName := ⟨RX9, "source", "(IIII)J"⟩
abbrev cX9_judge : ByteArray := prog_1_method_33_code
def yX9_judge : MethodName := ⟨RX9, "judge", "(III)I"⟩
abbrev cX9_trace : ByteArray := prog_1_method_34_code
def yX9_trace : MethodName := ⟨RX9, "trace", "(I)I"⟩
abbrev cX9_log : ByteArray := prog_1_method_35_code
def yX9_log : MethodName := ⟨RX9, "log", "(I)I"⟩
abbrev cX9_days : ByteArray := prog_1_method_36_code
def yX9_days : MethodName := ⟨RX9, "days", "(I)I"⟩
abbrev cX9_seed : ByteArray := prog_1_method_37_code
def yX9_seed : MethodName := ⟨RX9, "seed", "(I)I"⟩
abbrev cX9_image : ByteArray := prog_1_method_38_code
def yX9_image : MethodName := ⟨RX9, "image", "()I"⟩
abbrev cX9_restore : ByteArray := prog_1_method_39_code
def yX9_restore : MethodName := ⟨RX9, "restore", "()I"⟩
abbrev cX9_status : ByteArray := prog_1_method_40_code
def yX9_status : MethodName := ⟨RX9, "status", "(I)I"⟩
abbrev cX9_refuse : ByteArray := prog_1_method_41_code
def yX9_refuse : MethodName := ⟨RX9, "refuse", "(I)I"⟩
abbrev cX9_refuseByTen : ByteArray := prog_1_method_42_code
def yX9_refuseByTen : MethodName := ⟨RX9, "refuseByTen", "(I)I"⟩
abbrev cX9_isBelow : ByteArray := prog_1_method_43_code
def yX9_isBelow : MethodName := ⟨RX9, "isBelow", "(II)Z"⟩
abbrev cX9_isUpTo : ByteArray := prog_1_method_44_code
def yX9_isUpTo : MethodName := ⟨RX9, "isUpTo", "(II)Z"⟩
abbrev cX9_isShelf : ByteArray := prog_1_method_45_code
def yX9_isShelf : MethodName := ⟨RX9, "isShelf", "(I)Z"⟩
abbrev cX9_rowProblem : ByteArray := prog_1_method_46_code
def yX9_rowProblem : MethodName := ⟨RX9, "rowProblem", "(I)I"⟩
abbrev cX9_copyProblem : ByteArray := prog_1_method_47_code
def yX9_copyProblem : MethodName := ⟨RX9, "copyProblem", "(II)I"⟩
abbrev cX9_isName : ByteArray := prog_1_method_48_code
def yX9_isName : MethodName := ⟨RX9, "isName", "(I)Z"⟩
abbrev cX9_tryStart : ByteArray := prog_1_method_49_code
def yX9_tryStart : MethodName := ⟨RX9, "tryStart", "(I)Z"⟩
abbrev cX9_stopStarted : ByteArray := prog_1_method_50_code
def yX9_stopStarted : MethodName := ⟨RX9, "stopStarted", "()V"⟩
abbrev cX9_run : ByteArray := prog_1_method_51_code
def yX9_run : MethodName := ⟨RX9, "run", "(I)V"⟩
abbrev cX9_idle : ByteArray := prog_1_method_52_code
def yX9_idle : MethodName := ⟨RX9, "idle", "(I)V"⟩
abbrev cX9_breakDown : ByteArray := prog_1_method_53_code
def yX9_breakDown : MethodName := ⟨RX9, "breakDown", "(I)V"⟩
abbrev cX9_stopWaves : ByteArray := prog_1_method_54_code
def yX9_stopWaves : MethodName := ⟨RX9, "stopWaves", "(I)I"⟩
abbrev cX9_liveDay : ByteArray := prog_1_method_55_code
def yX9_liveDay : MethodName := ⟨RX9, "liveDay", "()V"⟩
def RX10 : String := "PluginChainsModel"
def TX10 : u_T := fun k => match k with
  | 0 => ("PluginChainsModel", "plugs", "I", false)
  | 1 => ("PluginChainsModel", "told", "[I", true)
  | 2 => ("PluginChainsModel", "clock", "I", false)
  | 3 => ("PluginChainsModel", "seed", "I", false)
  | 4 => ("PluginChainsModel", "hooks", "I", false)
  | 5 => ("PluginChainsModel", "hook", "[I", true)
  | 6 => ("PluginChainsModel", "holding", "[I", true)
  | 7 => ("PluginChainsModel", "rowLength", "[I", true)
  | 8 => ("PluginChainsModel", "rowOf", "[J", true)
  | 9 => ("PluginChainsModel", "fault", "I", false)
  | 10 => ("PluginChainsModel", "reading", "I", false)
  | 11 => ("PluginChainsModel", "at", "I", false)
  | 12 => ("PluginChainsModel", "causes", "I", false)
  | 13 => ("PluginChainsModel", "cause", "[I", true)
  | 14 => ("PluginChainsModel", "failed", "I", false)
  | 15 => ("PluginChainsModel", "fails", "[I", true)
  | 16 => ("PluginChainsModel", "busy", "I", false)
  | 17 => ("PluginChainsModel", "started", "I", false)
  | 18 => ("PluginChainsModel", "starts", "[I", true)
  | 19 => ("PluginChainsModel", "isThought", "Z", false)
  | 20 => ("PluginChainsModel", "logged", "I", false)
  | 21 => ("PluginChainsModel", "log", "[I", true)
  | 22 => ("PluginChainsModel", "waveOf", "[I", true)
  | 23 => ("PluginChainsModel", "many", "I", false)
  | 24 => ("PluginChainsModel", "chain", "[I", true)
  | 25 => ("PluginChainsModel", "outcome", "I", false)
  | 26 => ("PluginChainsModel", "thrown", "I", false)
  | 27 => ("PluginChainsModel", "ran", "I", false)
  | 28 => ("PluginChainsModel", "ranOnes", "[I", true)
  | 29 => ("PluginChainsModel", "notes", "[I", true)
  | 30 => ("PluginChainsModel", "lastRan", "I", false)
  | 31 => ("PluginChainsModel", "traces", "[I", true)
  | 32 => ("PluginChainsModel", "given", "I", false)
  | 33 => ("PluginChainsModel", "refusals", "[I", true)
  | 34 => ("PluginChainsModel", "imaged", "Z", false)
  | 35 => ("PluginChainsModel", "image", "[I", true)
  | _ => ("PluginChainsModel", "ahead", "[I", true)
def tyX10 : Nat → FieldType := fun k => match k with
  | 0 => .int
  | 1 => .array .int
  | 2 => .int
  | 3 => .int
  | 4 => .int
  | 5 => .array .int
  | 6 => .array .int
  | 7 => .array .int
  | 8 => .array .long
  | 9 => .int
  | 10 => .int
  | 11 => .int
  | 12 => .int
  | 13 => .array .int
  | 14 => .int
  | 15 => .array .int
  | 16 => .int
  | 17 => .int
  | 18 => .array .int
  | 19 => .boolean
  | 20 => .int
  | 21 => .array .int
  | 22 => .array .int
  | 23 => .int
  | 24 => .array .int
  | 25 => .int
  | 26 => .int
  | 27 => .int
  | 28 => .array .int
  | 29 => .array .int
  | 30 => .int
  | 31 => .array .int
  | 32 => .int
  | 33 => .array .int
  | 34 => .boolean
  | 35 => .array .int
  | _ => .array .int
abbrev wsX100 : List Cond := u_ws RX10 TX10 37
theorem nmX10 : ∀ a, a < 37 → ∀ b, b < 37 → a ≠ b → (TX10 a).2.1 ≠ (TX10 b).2.1 := by decide +kernel
theorem tyX10_ok : ∀ k, k < 37 → parseFieldDescriptor (TX10 k).2.2.1 = some (tyX10 k) := by decide +kernel
abbrev cX10_init : ByteArray := prog_12_method_1_code
def yX10_init : MethodName := ⟨RX10, "<init>", "()V"⟩
abbrev cX10_no : ByteArray := prog_12_method_2_code
def yX10_no : MethodName := ⟨RX10, "no", "(I)I"⟩
abbrev cX10_no10 : ByteArray := prog_12_method_3_code
def yX10_no10 : MethodName := ⟨RX10, "no10", "(I)I"⟩
abbrev cX10_within : ByteArray := prog_12_method_4_code
def yX10_within : MethodName := ⟨RX10, "within", "(III)Z"⟩
abbrev cX10_isPlug : ByteArray := prog_12_method_5_code
def yX10_isPlug : MethodName := ⟨RX10, "isPlug", "(I)Z"⟩
abbrev cX10_isPoint : ByteArray := prog_12_method_6_code
def yX10_isPoint : MethodName := ⟨RX10, "isPoint", "(I)Z"⟩
abbrev cX10_isService : ByteArray := prog_12_method_7_code
def yX10_isService : MethodName := ⟨RX10, "isService", "(I)Z"⟩
abbrev cX10_isRow : ByteArray := prog_12_method_8_code
def yX10_isRow : MethodName := ⟨RX10, "isRow", "(I)Z"⟩
abbrev cX10_of : ByteArray := prog_12_method_9_code
def yX10_of : MethodName := ⟨RX10, "of", "(II)I"⟩
abbrev cX10_state : ByteArray := prog_12_method_10_code
def yX10_state : MethodName := ⟨RX10, "state", "(I)I"⟩
abbrev cX10_isNeeded : ByteArray := prog_12_method_11_code
def yX10_isNeeded : MethodName := ⟨RX10, "isNeeded", "(II)Z"⟩
abbrev cX10_isOffered : ByteArray := prog_12_method_12_code
def yX10_isOffered : MethodName := ⟨RX10, "isOffered", "(II)Z"⟩
abbrev cX10_isOlder : ByteArray := prog_12_method_13_code
def yX10_isOlder : MethodName := ⟨RX10, "isOlder", "(II)Z"⟩
abbrev cX10_row : ByteArray := prog_12_method_14_code
def yX10_row : MethodName := ⟨RX10, "row", "(III)I"⟩
abbrev cX10_noRow : ByteArray := prog_12_method_15_code
def yX10_noRow : MethodName := ⟨RX10, "noRow", "(I)I"⟩
abbrev cX10_set : ByteArray := prog_12_method_16_code
def yX10_set : MethodName := ⟨RX10, "set", "(IIJ)I"⟩
abbrev cX10_copy : ByteArray := prog_12_method_17_code
def yX10_copy : MethodName := ⟨RX10, "copy", "(IIIII)I"⟩
abbrev cX10_element : ByteArray := prog_12_method_18_code
def yX10_element : MethodName := ⟨RX10, "element", "(II)J"⟩
abbrev cX10_show : ByteArray := prog_12_method_19_code
def yX10_show : MethodName := ⟨RX10, "show", "(II)I"⟩
abbrev cX10_holds : ByteArray := prog_12_method_20_code
def yX10_holds : MethodName := ⟨RX10, "holds", "(I)I"⟩
abbrev cX10_above : ByteArray := prog_12_method_21_code
def yX10_above : MethodName := ⟨RX10, "above", "(I)I"⟩
abbrev cX10_isUnder : ByteArray := prog_12_method_22_code
def yX10_isUnder : MethodName := ⟨RX10, "isUnder", "(II)Z"⟩
abbrev cX10_strength : ByteArray := prog_12_method_23_code
def yX10_strength : MethodName := ⟨RX10, "strength", "(I)I"⟩
abbrev cX10_says : ByteArray := prog_12_method_24_code
def yX10_says : MethodName := ⟨RX10, "says", "(II)I"⟩
abbrev cX10_newPlug : ByteArray := prog_12_method_25_code
def yX10_newPlug : MethodName := ⟨RX10, "newPlug", "(IIIIII)I"⟩
abbrev cX10_isName : ByteArray := prog_12_method_26_code
def yX10_isName : MethodName := ⟨RX10, "isName", "(I)Z"⟩
abbrev cX10_isThere : ByteArray := prog_12_method_27_code
def yX10_isThere : MethodName := ⟨RX10, "isThere", "(I)Z"⟩
abbrev cX10_plug : ByteArray := prog_12_method_28_code
def yX10_plug : MethodName := ⟨RX10, "plug", "(IIIIII)I"⟩
abbrev cX10_sign : ByteArray := prog_12_method_29_code
def yX10_sign : MethodName := ⟨RX10, "sign", "()I"⟩
abbrev cX10_is : ByteArray := prog_12_method_30_code
def yX10_is : MethodName := ⟨RX10, "is", "(I)Z"⟩
abbrev cX10_digit : ByteArray := prog_12_method_31_code
def yX10_digit : MethodName := ⟨RX10, "digit", "(I)I"⟩
abbrev cX10_name : ByteArray := prog_12_method_32_code
def yX10_name : MethodName := ⟨RX10, "name", "()I"⟩
abbrev cX10_marks : ByteArray := prog_12_method_33_code
def yX10_marks : MethodName := ⟨RX10, "marks", "(I)Z"⟩
abbrev cX10_item : ByteArray := prog_12_method_34_code
def yX10_item : MethodName := ⟨RX10, "item", "()Z"⟩
abbrev cX10_read : ByteArray := prog_12_method_35_code
def yX10_read : MethodName := ⟨RX10, "read", "(I)I"⟩
abbrev cX10_fault : ByteArray := prog_12_method_36_code
def yX10_fault : MethodName := ⟨RX10, "fault", "()I"⟩
abbrev cX10_plugOf : ByteArray := prog_12_method_37_code
def yX10_plugOf : MethodName := ⟨RX10, "plugOf", "(II)I"⟩
abbrev cX10_age : ByteArray := prog_12_method_38_code
def yX10_age : MethodName := ⟨RX10, "age", "(I)I"⟩
abbrev cX10_tally : ByteArray := prog_12_method_39_code
def yX10_tally : MethodName := ⟨RX10, "tally", "(I)I"⟩
abbrev cX10_provides : ByteArray := prog_12_method_40_code
def yX10_provides : MethodName := ⟨RX10, "provides", "(II)I"⟩
abbrev cX10_provider : ByteArray := prog_12_method_41_code
def yX10_provider : MethodName := ⟨RX10, "provider", "(II)I"⟩
abbrev cX10_logs : ByteArray := prog_12_method_42_code
def yX10_logs : MethodName := ⟨RX10, "logs", "(I)V"⟩
abbrev cX10_isRun : ByteArray := prog_12_method_43_code
def yX10_isRun : MethodName := ⟨RX10, "isRun", "(II)Z"⟩
abbrev cX10_key : ByteArray := prog_12_method_44_code
def yX10_key : MethodName := ⟨RX10, "key", "(I)I"⟩
abbrev cX10_taken : ByteArray := prog_12_method_45_code
def yX10_taken : MethodName := ⟨RX10, "taken", "(II)I"⟩
abbrev cX10_fails : ByteArray := prog_12_method_46_code
def yX10_fails : MethodName := ⟨RX10, "fails", "(III)Z"⟩
abbrev cX10_hasNeeds : ByteArray := prog_12_method_47_code
def yX10_hasNeeds : MethodName := ⟨RX10, "hasNeeds", "(I)Z"⟩
abbrev cX10_runs : ByteArray := prog_12_method_48_code
def yX10_runs : MethodName := ⟨RX10, "runs", "(I)Z"⟩
abbrev cX10_starts : ByteArray := prog_12_method_49_code
def yX10_starts : MethodName := ⟨RX10, "starts", "(I)Z"⟩
abbrev cX10_begins : ByteArray := prog_12_method_50_code
def yX10_begins : MethodName := ⟨RX10, "begins", "(I)Z"⟩
abbrev cX10_start : ByteArray := prog_12_method_51_code
def yX10_start : MethodName := ⟨RX10, "start", "(I)I"⟩
abbrev cX10_cause : ByteArray := prog_12_method_52_code
def yX10_cause : MethodName := ⟨RX10, "cause", "(II)I"⟩
abbrev cX10_isHeld : ByteArray := prog_12_method_53_code
def yX10_isHeld : MethodName := ⟨RX10, "isHeld", "(I)Z"⟩
abbrev cX10_waves : ByteArray := prog_12_method_54_code
def yX10_waves : MethodName := ⟨RX10, "waves", "(I)V"⟩
abbrev cX10_stops : ByteArray := prog_12_method_55_code
def yX10_stops : MethodName := ⟨RX10, "stops", "(I)I"⟩
abbrev cX10_stop : ByteArray := prog_12_method_56_code
def yX10_stop : MethodName := ⟨RX10, "stop", "(I)I"⟩
abbrev cX10_wave : ByteArray := prog_12_method_57_code
def yX10_wave : MethodName := ⟨RX10, "wave", "(II)I"⟩
abbrev cX10_mend : ByteArray := prog_12_method_58_code
def yX10_mend : MethodName := ⟨RX10, "mend", "(I)I"⟩
abbrev cX10_remove : ByteArray := prog_12_method_59_code
def yX10_remove : MethodName := ⟨RX10, "remove", "(I)I"⟩
abbrev cX10_would : ByteArray := prog_12_method_60_code
def yX10_would : MethodName := ⟨RX10, "would", "(II)I"⟩
abbrev cX10_running : ByteArray := prog_12_method_61_code
def yX10_running : MethodName := ⟨RX10, "running", "(I)I"⟩
abbrev cX10_offered : ByteArray := prog_12_method_62_code
def yX10_offered : MethodName := ⟨RX10, "offered", "(I)I"⟩
abbrev cX10_hk : ByteArray := prog_12_method_63_code
def yX10_hk : MethodName := ⟨RX10, "hk", "(II)I"⟩
abbrev cX10_hook : ByteArray := prog_12_method_64_code
def yX10_hook : MethodName := ⟨RX10, "hook", "(IIIII)I"⟩
abbrev cX10_hookOf : ByteArray := prog_12_method_65_code
def yX10_hookOf : MethodName := ⟨RX10, "hookOf", "(II)I"⟩
abbrev cX10_isAhead : ByteArray := prog_12_method_66_code
def yX10_isAhead : MethodName := ⟨RX10, "isAhead", "(II)Z"⟩
abbrev cX10_chains : ByteArray := prog_12_method_67_code
def yX10_chains : MethodName := ⟨RX10, "chains", "(II)V"⟩
abbrev cX10_chain : ByteArray := prog_12_method_68_code
def yX10_chain : MethodName := ⟨RX10, "chain", "(II)I"⟩
abbrev cX10_ten : ByteArray := prog_12_method_69_code
def yX10_ten : MethodName := ⟨RX10, "ten", "(I)I"⟩
abbrev cX10_throwsOne : ByteArray := prog_12_method_70_code
def yX10_throwsOne : MethodName := ⟨RX10, "throwsOne", "(I)I"⟩
abbrev cX10_rest : ByteArray := prog_12_method_71_code
def yX10_rest : MethodName := ⟨RX10, "rest", "(II)I"⟩
abbrev cX10_fires : ByteArray := prog_12_method_72_code
def yX10_fires : MethodName := ⟨RX10, "fires", "(I)I"⟩
abbrev cX10_fire : ByteArray := prog_12_method_73_code
def yX10_fire : MethodName := ⟨RX10, "fire", "(II)I"⟩
abbrev cX10_given : ByteArray := prog_12_method_74_code
def yX10_given : MethodName := ⟨RX10, "given", "()I"⟩
abbrev cX10_pure : ByteArray := prog_12_method_75_code
def yX10_pure : MethodName := ⟨RX10, "pure", "(III)J"⟩
abbrev cX10_matter : ByteArray := prog_12_method_76_code
def yX10_matter : MethodName := ⟨RX10, "matter", "(II)I"⟩
abbrev cX10_source : ByteArray := prog_12_method_77_code
def yX10_source : MethodName := ⟨RX10, "source", "(IIII)J"⟩
abbrev cX10_read_ : ByteArray := prog_12_method_78_code
def yX10_read_ : MethodName := ⟨RX10, "read", "(II)I"⟩
abbrev cX10_judge : ByteArray := prog_12_method_79_code
def yX10_judge : MethodName := ⟨RX10, "judge", "(III)I"⟩
abbrev cX10_trace : ByteArray := prog_12_method_80_code
def yX10_trace : MethodName := ⟨RX10, "trace", "(I)I"⟩
abbrev cX10_log : ByteArray := prog_12_method_81_code
def yX10_log : MethodName := ⟨RX10, "log", "(I)I"⟩
abbrev cX10_draw : ByteArray := prog_12_method_82_code
def yX10_draw : MethodName := ⟨RX10, "draw", "(I)I"⟩
abbrev cX10_inState : ByteArray := prog_12_method_83_code
def yX10_inState : MethodName := ⟨RX10, "inState", "(I)I"⟩
abbrev cX10_days : ByteArray := prog_12_method_84_code
def yX10_days : MethodName := ⟨RX10, "days", "(I)I"⟩
abbrev cX10_seed : ByteArray := prog_12_method_85_code
def yX10_seed : MethodName := ⟨RX10, "seed", "(I)I"⟩
abbrev cX10_keep : ByteArray := prog_12_method_86_code
def yX10_keep : MethodName := ⟨RX10, "keep", "([I)V"⟩
abbrev cX10_again : ByteArray := prog_12_method_87_code
def yX10_again : MethodName := ⟨RX10, "again", "([I)V"⟩
abbrev cX10_image : ByteArray := prog_12_method_88_code
def yX10_image : MethodName := ⟨RX10, "image", "()I"⟩
abbrev cX10_restore : ByteArray := prog_12_method_89_code
def yX10_restore : MethodName := ⟨RX10, "restore", "()I"⟩
abbrev cX10_status : ByteArray := prog_12_method_90_code
def yX10_status : MethodName := ⟨RX10, "status", "(I)I"⟩
def RJ6 : String := "java/lang/Integer"
abbrev cJ6_bitCount_0f7a4 : ByteArray := prog_13_method_49_code
def yJ6_bitCount_0f7a4 : MethodName := ⟨RJ6, "bitCount", "(I)I"⟩
def RJ9 : String := "java/lang/Math"
abbrev cJ9_floorMod_7cf53 : ByteArray := prog_14_method_50_code
def yJ9_floorMod_7cf53 : MethodName := ⟨RJ9, "floorMod", "(II)I"⟩
abbrev cJ9_max_7cf53 : ByteArray := prog_14_method_65_code
def yJ9_max_7cf53 : MethodName := ⟨RJ9, "max", "(II)I"⟩
abbrev cJ9_min_7cf53 : ByteArray := prog_14_method_69_code
def yJ9_min_7cf53 : MethodName := ⟨RJ9, "min", "(II)I"⟩
def RJ10 : String := "java/lang/System"
def RJ7 : String := "java/util/Arrays"
abbrev cJ7_fill_d0a16 : ByteArray := prog_16_method_101_code
def yJ7_fill_d0a16 : MethodName := ⟨RJ7, "fill", "([JJ)V"⟩
abbrev cJ7_fill_53178 : ByteArray := prog_16_method_103_code
def yJ7_fill_53178 : MethodName := ⟨RJ7, "fill", "([II)V"⟩
def RL : String := "PluginChainsLaw"
abbrev cL_law : ByteArray := code
def yL_law : MethodName := ⟨RL, "law", "([I)Z"⟩
abbrev vwCl : List vw_C := [(RX0, TX0, 2), (RX1, TX1, 8), (RX2, TX2, 5), (RX3, TX3, 6), (RX4, TX4, 8), (RX5, TX5, 11), (RX6, TX6, 4), (RX7, TX7, 6), (RX8, TX8, 2), (RX9, TX9, 14), (RX10, TX10, 37)]
end
section
/-- of a method: name, bytes, locals, return; its parameters, kind (0 virtual, 1 static, 2 <init>), class, cells and slots that it makes, slots of longs; places of its words -/
abbrev q_Me : Type := (MethodName × ByteArray × Nat × Option FieldType) × (Nat × Nat × Nat × Nat × Nat) × List Nat × (Nat × Nat × Nat × Nat)
def q_meta0 : List q_Me := [((yX0_init, cX0_init, 1, none), (0, 2, 0, 1, 40), [], (2072, 2071, 0, 1010)),
  ((yX0_add, cX0_add, 2, none), (1, 0, 0, 0, 0), [], (3186, 3184, 3185, 1010)),
  ((yX0_kept, cX0_kept, 3, (some .int)), (1, 0, 0, 0, 0), [], (4136, 4134, 4135, 1010)),
  ((yX1_init, cX1_init, 2, none), (1, 2, 1, 3, 66), [], (1222, 1221, 0, 1007)),
  ((yX1_gather, cX1_gather, 5, none), (2, 0, 1, 0, 0), [], (4045, 4043, 4044, 1007)),
  ((yX1_insert, cX1_insert, 3, none), (1, 0, 1, 0, 0), [], (4050, 4049, 30, 1007)),
  ((yX1_runsAhead, cX1_runsAhead, 3, (some .boolean)), (2, 0, 1, 0, 0), [], (4054, 4053, 31, 1007)),
  ((yX1_run, cX1_run, 2, none), (1, 0, 1, 0, 0), [], (4063, 4061, 4062, 1007)),
  ((yX1_gives, cX1_gives, 3, (some .boolean)), (2, 0, 1, 0, 0), [], (4112, 4110, 4111, 1007)),
  ((yX1_keepNotes, cX1_keepNotes, 2, none), (0, 0, 1, 0, 0), [], (4090, 4088, 4089, 1007)),
  ((yX1_ask, cX1_ask, 5, (some .int)), (2, 0, 1, 0, 0), [], (4068, 4067, 32, 1007)),
  ((yX1_looksFirst, cX1_looksFirst, 1, (some .boolean)), (1, 1, 1, 0, 0), [], (4071, 4070, 0, 1007)),
  ((yX1_lookFirst, cX1_lookFirst, 4, (some .int)), (3, 0, 1, 0, 0), [], (4075, 4074, 33, 1007)),
  ((yX1_handedOn, cX1_handedOn, 2, (some .int)), (2, 1, 1, 0, 0), [], (4086, 4085, 0, 1007)),
  ((yX1_restFirst, cX1_restFirst, 5, (some .int)), (3, 0, 1, 0, 0), [], (4083, 4082, 34, 1007)),
  ((yX2_init, cX2_init, 1, none), (0, 2, 2, 0, 0), [], (1104, 1103, 0, 1004))]
def q_meta1 : List q_Me := [((yX2_begin, cX2_begin, 6, none), (5, 0, 2, 0, 0), [], (4033, 4031, 4032, 1004)),
  ((yX2_takeFrom, cX2_takeFrom, 2, none), (1, 0, 2, 0, 0), [], (4171, 4169, 4170, 1004)),
  ((yX3_init, cX3_init, 2, none), (0, 2, 3, 38, 288), [], (1030, 1029, 0, 1002)),
  ((yX3_takeFrom, cX3_takeFrom, 3, none), (1, 0, 3, 0, 0), [], (4166, 4164, 4165, 1002)),
  ((yX3_hasPlug, cX3_hasPlug, 2, (some .boolean)), (1, 0, 3, 0, 0), [], (2202, 2200, 2201, 1002)),
  ((yX3_runs, cX3_runs, 2, (some .boolean)), (1, 0, 3, 0, 0), [], (3106, 3104, 3105, 1002)),
  ((yX3_hasName, cX3_hasName, 3, (some .boolean)), (1, 0, 3, 0, 0), [], (3008, 3006, 3007, 1002)),
  ((yX3_countIn, cX3_countIn, 4, (some .int)), (1, 0, 3, 0, 0), [], (4154, 4152, 4153, 1002)),
  ((yX3_runningBits, cX3_runningBits, 3, (some .int)), (0, 0, 3, 0, 0), [], (3154, 3152, 3153, 1002)),
  ((yX3_olderThan, cX3_olderThan, 4, (some .int)), (1, 0, 3, 0, 0), [], (3127, 3125, 3126, 1002)),
  ((yX3_offering, cX3_offering, 5, (some .int)), (2, 0, 3, 0, 0), [], (3131, 3129, 3130, 1002)),
  ((yX3_providerFor, cX3_providerFor, 7, (some .int)), (2, 0, 3, 0, 0), [], (3123, 3121, 3122, 1002)),
  ((yX3_providesBetter, cX3_providesBetter, 3, (some .boolean)), (2, 1, 3, 0, 0), [], (3138, 3137, 0, 1002)),
  ((yX3_draw, cX3_draw, 2, (some .int)), (1, 0, 3, 0, 0), [], (4149, 4147, 4148, 1002)),
  ((yX4_init, cX4_init, 2, none), (1, 2, 4, 2, 48), [], (1171, 1170, 0, 1005)),
  ((yX4_make, cX4_make, 2, (some .boolean)), (1, 0, 4, 0, 0), [], (3150, 3148, 3149, 1005))]
def q_meta2 : List q_Me := [((yX4_bring, cX4_bring, 4, (some .boolean)), (2, 0, 4, 0, 0), [], (3158, 3157, 18, 1005)),
  ((yX4_bringOffer, cX4_bringOffer, 5, (some .boolean)), (3, 0, 4, 0, 0), [], (3169, 3168, 20, 1005)),
  ((yX4_idleOffer, cX4_idleOffer, 6, (some .int)), (2, 0, 4, 0, 0), [], (3174, 3173, 21, 1005)),
  ((yX4_takenRather, cX4_takenRather, 3, (some .boolean)), (2, 1, 4, 0, 0), [], (3178, 3177, 0, 1005)),
  ((yX4_fails, cX4_fails, 6, (some .boolean)), (4, 0, 4, 0, 0), [], (3163, 3162, 19, 1005)),
  ((yX5_init, cX5_init, 1, none), (0, 2, 5, 0, 0), [], (1039, 1038, 0, 1003)),
  ((yX5_begin, cX5_begin, 7, none), (6, 0, 5, 0, 0), [], (3012, 3010, 3011, 1003)),
  ((yX5_takeFrom, cX5_takeFrom, 2, none), (1, 0, 5, 0, 0), [], (3085, 3083, 3084, 1003)),
  ((yX5_needsService, cX5_needsService, 2, (some .boolean)), (1, 0, 5, 0, 0), [], (3119, 3117, 3118, 1003)),
  ((yX5_offersService, cX5_offersService, 2, (some .boolean)), (1, 0, 5, 0, 0), [], (3135, 3133, 3134, 1003)),
  ((yX5_strengthByKind, cX5_strengthByKind, 3, (some .int)), (0, 0, 5, 0, 0), [], (3016, 3015, 4, 1003)),
  ((yX5_isOf, cX5_isOf, 2, (some .boolean)), (1, 0, 5, 0, 0), [], (2223, 2221, 2222, 1003)),
  ((yX5_wordAs, cX5_wordAs, 2, (some .int)), (1, 0, 5, 0, 0), [], (2227, 2225, 2226, 1003)),
  ((yX5_lettersFromLeft, cX5_lettersFromLeft, 3, (some .int)), (0, 0, 5, 0, 0), [], (3023, 3022, 5, 1003)),
  ((yX6_init, cX6_init, 1, none), (0, 2, 6, 1, 160), [], (2026, 2025, 0, 1009)),
  ((yX6_holdRow, cX6_holdRow, 3, none), (2, 0, 6, 0, 0), [], (2143, 2141, 2142, 1009))]
def q_meta3 : List q_Me := [((yX6_holdPlug, cX6_holdPlug, 2, none), (1, 0, 6, 0, 0), [], (2210, 2208, 2209, 1009)),
  ((yX6_holdNothing, cX6_holdNothing, 1, none), (0, 0, 6, 0, 0), [], (2206, 2204, 2205, 1009)),
  ((yX6_hasRow, cX6_hasRow, 1, (some .boolean)), (0, 0, 6, 0, 0), [], (2162, 2160, 2161, 1009)),
  ((yX6_hasPlug, cX6_hasPlug, 1, (some .boolean)), (0, 0, 6, 0, 0), [], (2158, 2156, 2157, 1009)),
  ((yX6_hasElement, cX6_hasElement, 2, (some .boolean)), (1, 0, 6, 0, 0), [], (2166, 2164, 2165, 1009)),
  ((yX6_hasRange, cX6_hasRange, 3, (some .boolean)), (2, 0, 6, 0, 0), [], (2187, 2185, 2186, 1009)),
  ((yX6_asInt, cX6_asInt, 2, (some .int)), (1, 0, 6, 0, 0), [], (4121, 4119, 4120, 1009)),
  ((yX6_put, cX6_put, 4, none), (2, 0, 6, 0, 0), [2], (2170, 2168, 2169, 1009)),
  ((yX6_narrowed, cX6_narrowed, 3, (some .long)), (1, 0, 6, 0, 0), [1], (2175, 2174, 2, 1009)),
  ((yX7_init, cX7_init, 3, none), (1, 2, 7, 15, 308), [], (2019, 2018, 0, 1008)),
  ((yX7_parse, cX7_parse, 4, (some .int)), (1, 0, 7, 0, 0), [], (3031, 3029, 3030, 1008)),
  ((yX7_addItems, cX7_addItems, 3, (some .int)), (0, 0, 7, 0, 0), [], (3081, 3079, 3080, 1008)),
  ((yX7_readItem, cX7_readItem, 3, (some .boolean)), (0, 0, 7, 0, 0), [], (3035, 3034, 6, 1008)),
  ((yX7_readName, cX7_readName, 4, (some .boolean)), (1, 0, 7, 0, 0), [], (3053, 3052, 10, 1008)),
  ((yX7_hasItemNamed, cX7_hasItemNamed, 3, (some .boolean)), (1, 0, 7, 0, 0), [], (3061, 3060, 11, 1008)),
  ((yX7_readNumbers, cX7_readNumbers, 2, (some .boolean)), (1, 0, 7, 0, 0), [], (3065, 3064, 12, 1008))]
def q_meta4 : List q_Me := [((yX7_readMarks, cX7_readMarks, 4, (some .boolean)), (1, 0, 7, 0, 0), [], (3073, 3072, 14, 1008)),
  ((yX7_readMark, cX7_readMark, 4, (some .boolean)), (1, 0, 7, 0, 0), [], (3077, 3076, 15, 1008)),
  ((yX7_look, cX7_look, 1, (some .int)), (0, 0, 7, 0, 0), [], (3043, 3042, 8, 1008)),
  ((yX7_isLetter, cX7_isLetter, 1, (some .boolean)), (1, 1, 7, 0, 0), [], (3056, 3055, 0, 1008)),
  ((yX7_take, cX7_take, 2, (some .boolean)), (1, 0, 7, 0, 0), [], (3039, 3038, 7, 1008)),
  ((yX7_takeDigit, cX7_takeDigit, 3, (some .int)), (1, 0, 7, 0, 0), [], (3069, 3068, 13, 1008)),
  ((yX7_failAt, cX7_failAt, 2, (some .boolean)), (1, 0, 7, 0, 0), [], (3048, 3047, 9, 1008)),
  ((yX8_init, cX8_init, 2, none), (1, 2, 8, 1, 12), [], (1208, 1207, 0, 1006)),
  ((yX8_spread, cX8_spread, 5, (some .int)), (1, 0, 8, 0, 0), [], (3214, 3212, 3213, 1006)),
  ((yX8_addWave, cX8_addWave, 5, (some .int)), (1, 0, 8, 0, 0), [], (3222, 3221, 27, 1006)),
  ((yX8_leftBits, cX8_leftBits, 3, (some .int)), (0, 0, 8, 0, 0), [], (3226, 3225, 28, 1006)),
  ((yX8_lacksOffer, cX8_lacksOffer, 5, (some .boolean)), (2, 0, 8, 0, 0), [], (3230, 3229, 29, 1006)),
  ((yX8_youngestRunning, cX8_youngestRunning, 3, (some .int)), (0, 0, 8, 0, 0), [], (3237, 3235, 3236, 1006)),
  ((yX9_init, cX9_init, 2, none), (0, 2, 9, 128, 2526), [], (1020, 1019, 0, 1001)),
  ((yX9_row, cX9_row, 4, (some .int)), (3, 0, 9, 0, 0), [], (2129, 2127, 2128, 1001)),
  ((yX9_set, cX9_set, 6, (some .int)), (3, 0, 9, 0, 0), [3], (2150, 2148, 2149, 1001))]
def q_meta5 : List q_Me := [((yX9_copy, cX9_copy, 9, (some .int)), (5, 0, 9, 0, 0), [], (2179, 2177, 2178, 1001)),
  ((yX9_element, cX9_element, 3, (some .long)), (2, 0, 9, 0, 0), [], (2194, 2192, 2193, 1001)),
  ((yX9_show, cX9_show, 3, (some .int)), (2, 0, 9, 0, 0), [], (2198, 2196, 2197, 1001)),
  ((yX9_holds, cX9_holds, 3, (some .int)), (1, 0, 9, 0, 0), [], (2215, 2213, 2214, 1001)),
  ((yX9_says, cX9_says, 5, (some .int)), (2, 0, 9, 0, 0), [], (2219, 2217, 2218, 1001)),
  ((yX9_plug, cX9_plug, 9, (some .int)), (6, 0, 9, 0, 0), [], (2237, 2235, 2236, 1001)),
  ((yX9_read, cX9_read, 3, (some .int)), (1, 0, 9, 0, 0), [], (3027, 3025, 3026, 1001)),
  ((yX9_fault, cX9_fault, 1, (some .int)), (0, 0, 9, 0, 0), [], (3090, 3088, 3089, 1001)),
  ((yX9_plugOf, cX9_plugOf, 4, (some .int)), (2, 0, 9, 0, 0), [], (3094, 3092, 3093, 1001)),
  ((yX9_age, cX9_age, 2, (some .int)), (1, 0, 9, 0, 0), [], (3098, 3096, 3097, 1001)),
  ((yX9_tally, cX9_tally, 2, (some .int)), (1, 0, 9, 0, 0), [], (3111, 3109, 3110, 1001)),
  ((yX9_provider, cX9_provider, 3, (some .int)), (2, 0, 9, 0, 0), [], (3115, 3113, 3114, 1001)),
  ((yX9_start, cX9_start, 2, (some .int)), (1, 0, 9, 0, 0), [], (3142, 3140, 3141, 1001)),
  ((yX9_cause, cX9_cause, 3, (some .int)), (2, 0, 9, 0, 0), [], (3202, 3200, 3201, 1001)),
  ((yX9_stop, cX9_stop, 2, (some .int)), (1, 0, 9, 0, 0), [], (3206, 3204, 3205, 1001)),
  ((yX9_wave, cX9_wave, 3, (some .int)), (2, 0, 9, 0, 0), [], (4001, 3239, 4000, 1001))]
def q_meta6 : List q_Me := [((yX9_mend, cX9_mend, 3, (some .int)), (1, 0, 9, 0, 0), [], (4005, 4003, 4004, 1001)),
  ((yX9_remove, cX9_remove, 4, (some .int)), (1, 0, 9, 0, 0), [], (4009, 4007, 4008, 1001)),
  ((yX9_would, cX9_would, 4, (some .int)), (2, 0, 9, 0, 0), [], (4013, 4011, 4012, 1001)),
  ((yX9_running, cX9_running, 3, (some .int)), (1, 0, 9, 0, 0), [], (4017, 4015, 4016, 1001)),
  ((yX9_offered, cX9_offered, 2, (some .int)), (1, 0, 9, 0, 0), [], (4023, 4021, 4022, 1001)),
  ((yX9_hook, cX9_hook, 9, (some .int)), (5, 0, 9, 0, 0), [], (4029, 4027, 4028, 1001)),
  ((yX9_hookOf, cX9_hookOf, 4, (some .int)), (2, 0, 9, 0, 0), [], (4037, 4035, 4036, 1001)),
  ((yX9_chain, cX9_chain, 3, (some .int)), (2, 0, 9, 0, 0), [], (4041, 4039, 4040, 1001)),
  ((yX9_fire, cX9_fire, 3, (some .int)), (2, 0, 9, 0, 0), [], (4059, 4057, 4058, 1001)),
  ((yX9_given, cX9_given, 1, (some .int)), (0, 0, 9, 0, 0), [], (4094, 4092, 4093, 1001)),
  ((yX9_pure, cX9_pure, 4, (some .long)), (3, 0, 9, 0, 0), [], (4098, 4096, 4097, 1001)),
  ((yX9_matter, cX9_matter, 7, (some .int)), (2, 0, 9, 0, 0), [], (4103, 4101, 4102, 1001)),
  ((yX9_source, cX9_source, 7, (some .long)), (4, 0, 9, 0, 0), [5], (4107, 4105, 4106, 1001)),
  ((yX9_judge, cX9_judge, 6, (some .int)), (3, 0, 9, 0, 0), [], (4117, 4115, 4116, 1001)),
  ((yX9_trace, cX9_trace, 2, (some .int)), (1, 0, 9, 0, 0), [], (4125, 4123, 4124, 1001)),
  ((yX9_log, cX9_log, 2, (some .int)), (1, 0, 9, 0, 0), [], (4132, 4130, 4131, 1001))]
def q_meta7 : List q_Me := [((yX9_days, cX9_days, 3, (some .int)), (1, 0, 9, 0, 0), [], (4141, 4139, 4140, 1001)),
  ((yX9_seed, cX9_seed, 3, (some .int)), (1, 0, 9, 0, 0), [], (4158, 4156, 4157, 1001)),
  ((yX9_image, cX9_image, 1, (some .int)), (0, 0, 9, 0, 0), [], (4162, 4160, 4161, 1001)),
  ((yX9_restore, cX9_restore, 2, (some .int)), (0, 0, 9, 0, 0), [], (4176, 4174, 4175, 1001)),
  ((yX9_status, cX9_status, 2, (some .int)), (1, 0, 9, 0, 0), [], (4180, 4178, 4179, 1001)),
  ((yX9_refuse, cX9_refuse, 3, (some .int)), (1, 0, 9, 0, 0), [], (2139, 2138, 0, 1001)),
  ((yX9_refuseByTen, cX9_refuseByTen, 2, (some .int)), (1, 0, 9, 0, 0), [], (3102, 3101, 16, 1001)),
  ((yX9_isBelow, cX9_isBelow, 2, (some .boolean)), (2, 1, 9, 0, 0), [], (2135, 2134, 0, 1001)),
  ((yX9_isUpTo, cX9_isUpTo, 2, (some .boolean)), (2, 1, 9, 0, 0), [], (3000, 2239, 0, 1001)),
  ((yX9_isShelf, cX9_isShelf, 1, (some .boolean)), (1, 1, 9, 0, 0), [], (2132, 2131, 0, 1001)),
  ((yX9_rowProblem, cX9_rowProblem, 2, (some .int)), (1, 0, 9, 0, 0), [], (2154, 2153, 1, 1001)),
  ((yX9_copyProblem, cX9_copyProblem, 5, (some .int)), (2, 0, 9, 0, 0), [], (2183, 2182, 3, 1001)),
  ((yX9_isName, cX9_isName, 3, (some .boolean)), (1, 1, 9, 0, 0), [], (3003, 3002, 0, 1001)),
  ((yX9_tryStart, cX9_tryStart, 4, (some .boolean)), (1, 0, 9, 0, 0), [], (3146, 3145, 17, 1001)),
  ((yX9_stopStarted, cX9_stopStarted, 2, none), (0, 0, 9, 0, 0), [], (3194, 3193, 24, 1001)),
  ((yX9_run, cX9_run, 2, none), (1, 0, 9, 0, 0), [], (3182, 3181, 22, 1001))]
def q_meta8 : List q_Me := [((yX9_idle, cX9_idle, 2, none), (1, 0, 9, 0, 0), [], (3198, 3197, 25, 1001)),
  ((yX9_breakDown, cX9_breakDown, 2, none), (1, 0, 9, 0, 0), [], (3190, 3189, 23, 1001)),
  ((yX9_stopWaves, cX9_stopWaves, 4, (some .int)), (1, 0, 9, 0, 0), [], (3210, 3209, 26, 1001)),
  ((yX9_liveDay, cX9_liveDay, 4, none), (0, 0, 9, 0, 0), [], (4145, 4144, 35, 1001)),
  ((yX10_init, cX10_init, 2, none), (0, 2, 10, 17, 2228), [], (4185, 4184, 0, 1011)),
  ((yX10_no, cX10_no, 2, (some .int)), (1, 0, 10, 0, 0), [], (5069, 5068, 36, 1011)),
  ((yX10_no10, cX10_no10, 2, (some .int)), (1, 0, 10, 0, 0), [], (5185, 5184, 51, 1011)),
  ((yX10_within, cX10_within, 3, (some .boolean)), (3, 1, 10, 0, 0), [], (5065, 5064, 0, 1011)),
  ((yX10_isPlug, cX10_isPlug, 2, (some .boolean)), (1, 0, 10, 0, 0), [], (5097, 5096, 39, 1011)),
  ((yX10_isPoint, cX10_isPoint, 1, (some .boolean)), (1, 1, 10, 0, 0), [], (6071, 6070, 0, 1011)),
  ((yX10_isService, cX10_isService, 1, (some .boolean)), (1, 1, 10, 0, 0), [], (5196, 5195, 0, 1011)),
  ((yX10_isRow, cX10_isRow, 2, (some .boolean)), (1, 0, 10, 0, 0), [], (5081, 5080, 38, 1011)),
  ((yX10_of, cX10_of, 3, (some .int)), (2, 0, 10, 0, 0), [], (5109, 5108, 40, 1011)),
  ((yX10_state, cX10_state, 2, (some .int)), (1, 0, 10, 0, 0), [], (5137, 5136, 43, 1011)),
  ((yX10_isNeeded, cX10_isNeeded, 3, (some .boolean)), (2, 0, 10, 0, 0), [], (5200, 5199, 52, 1011)),
  ((yX10_isOffered, cX10_isOffered, 3, (some .boolean)), (2, 0, 10, 0, 0), [], (5208, 5207, 54, 1011))]
def q_meta9 : List q_Me := [((yX10_isOlder, cX10_isOlder, 3, (some .boolean)), (2, 0, 10, 0, 0), [], (5212, 5211, 55, 1011)),
  ((yX10_row, cX10_row, 5, (some .int)), (3, 0, 10, 0, 0), [], (5062, 5060, 5061, 1011)),
  ((yX10_noRow, cX10_noRow, 2, (some .int)), (1, 0, 10, 0, 0), [], (5077, 5076, 37, 1011)),
  ((yX10_set, cX10_set, 7, (some .int)), (3, 0, 10, 0, 0), [3], (5073, 5071, 5072, 1011)),
  ((yX10_copy, cX10_copy, 7, (some .int)), (5, 0, 10, 0, 0), [], (5085, 5083, 5084, 1011)),
  ((yX10_element, cX10_element, 3, (some .long)), (2, 0, 10, 0, 0), [], (5089, 5087, 5088, 1011)),
  ((yX10_show, cX10_show, 3, (some .int)), (2, 0, 10, 0, 0), [], (5093, 5091, 5092, 1011)),
  ((yX10_holds, cX10_holds, 2, (some .int)), (1, 0, 10, 0, 0), [], (5101, 5099, 5100, 1011)),
  ((yX10_above, cX10_above, 1, (some .int)), (1, 1, 10, 0, 0), [], (5115, 5114, 0, 1011)),
  ((yX10_isUnder, cX10_isUnder, 3, (some .boolean)), (2, 1, 10, 0, 0), [], (5112, 5111, 0, 1011)),
  ((yX10_strength, cX10_strength, 5, (some .int)), (1, 0, 10, 0, 0), [], (5120, 5119, 41, 1011)),
  ((yX10_says, cX10_says, 4, (some .int)), (2, 0, 10, 0, 0), [], (5105, 5103, 5104, 1011)),
  ((yX10_newPlug, cX10_newPlug, 7, (some .int)), (6, 0, 10, 0, 0), [], (5141, 5140, 44, 1011)),
  ((yX10_isName, cX10_isName, 2, (some .boolean)), (1, 1, 10, 0, 0), [], (5128, 5127, 0, 1011)),
  ((yX10_isThere, cX10_isThere, 3, (some .boolean)), (1, 0, 10, 0, 0), [], (5133, 5132, 42, 1011)),
  ((yX10_plug, cX10_plug, 7, (some .int)), (6, 0, 10, 0, 0), [], (5125, 5123, 5124, 1011))]
def q_meta10 : List q_Me := [((yX10_sign, cX10_sign, 1, (some .int)), (0, 0, 10, 0, 0), [], (5157, 5156, 47, 1011)),
  ((yX10_is, cX10_is, 2, (some .boolean)), (1, 0, 10, 0, 0), [], (5153, 5152, 46, 1011)),
  ((yX10_digit, cX10_digit, 3, (some .int)), (1, 0, 10, 0, 0), [], (5165, 5164, 49, 1011)),
  ((yX10_name, cX10_name, 3, (some .int)), (0, 0, 10, 0, 0), [], (5161, 5160, 48, 1011)),
  ((yX10_marks, cX10_marks, 4, (some .boolean)), (1, 0, 10, 0, 0), [], (5169, 5168, 50, 1011)),
  ((yX10_item, cX10_item, 5, (some .boolean)), (0, 0, 10, 0, 0), [], (5149, 5148, 45, 1011)),
  ((yX10_read, cX10_read, 5, (some .int)), (1, 0, 10, 0, 0), [], (5145, 5143, 5144, 1011)),
  ((yX10_fault, cX10_fault, 1, (some .int)), (0, 0, 10, 0, 0), [], (5173, 5171, 5172, 1011)),
  ((yX10_plugOf, cX10_plugOf, 3, (some .int)), (2, 0, 10, 0, 0), [], (5177, 5175, 5176, 1011)),
  ((yX10_age, cX10_age, 2, (some .int)), (1, 0, 10, 0, 0), [], (5181, 5179, 5180, 1011)),
  ((yX10_tally, cX10_tally, 2, (some .int)), (1, 0, 10, 0, 0), [], (5189, 5187, 5188, 1011)),
  ((yX10_provides, cX10_provides, 5, (some .int)), (2, 0, 10, 0, 0), [], (5204, 5203, 53, 1011)),
  ((yX10_provider, cX10_provider, 3, (some .int)), (2, 0, 10, 0, 0), [], (5193, 5191, 5192, 1011)),
  ((yX10_logs, cX10_logs, 2, none), (1, 0, 10, 0, 0), [], (6012, 6011, 64, 1011)),
  ((yX10_isRun, cX10_isRun, 4, (some .boolean)), (2, 0, 10, 0, 0), [], (5236, 5235, 60, 1011)),
  ((yX10_key, cX10_key, 3, (some .int)), (1, 0, 10, 0, 0), [], (6004, 6003, 62, 1011))]
def q_meta11 : List q_Me := [((yX10_taken, cX10_taken, 5, (some .int)), (2, 0, 10, 0, 0), [], (6000, 5239, 61, 1011)),
  ((yX10_fails, cX10_fails, 4, (some .boolean)), (3, 0, 10, 0, 0), [], (5228, 5227, 58, 1011)),
  ((yX10_hasNeeds, cX10_hasNeeds, 4, (some .boolean)), (1, 0, 10, 0, 0), [], (5232, 5231, 59, 1011)),
  ((yX10_runs, cX10_runs, 2, (some .boolean)), (1, 0, 10, 0, 0), [], (6008, 6007, 63, 1011)),
  ((yX10_starts, cX10_starts, 4, (some .boolean)), (1, 0, 10, 0, 0), [], (5224, 5223, 57, 1011)),
  ((yX10_begins, cX10_begins, 2, (some .boolean)), (1, 0, 10, 0, 0), [], (5220, 5219, 56, 1011)),
  ((yX10_start, cX10_start, 3, (some .int)), (1, 0, 10, 0, 0), [], (5216, 5214, 5215, 1011)),
  ((yX10_cause, cX10_cause, 3, (some .int)), (2, 0, 10, 0, 0), [], (6016, 6014, 6015, 1011)),
  ((yX10_isHeld, cX10_isHeld, 5, (some .boolean)), (1, 0, 10, 0, 0), [], (6032, 6031, 67, 1011)),
  ((yX10_waves, cX10_waves, 6, none), (1, 0, 10, 0, 0), [], (6028, 6027, 66, 1011)),
  ((yX10_stops, cX10_stops, 5, (some .int)), (1, 0, 10, 0, 0), [], (6024, 6023, 65, 1011)),
  ((yX10_stop, cX10_stop, 2, (some .int)), (1, 0, 10, 0, 0), [], (6020, 6018, 6019, 1011)),
  ((yX10_wave, cX10_wave, 3, (some .int)), (2, 0, 10, 0, 0), [], (6036, 6034, 6035, 1011)),
  ((yX10_mend, cX10_mend, 2, (some .int)), (1, 0, 10, 0, 0), [], (6040, 6038, 6039, 1011)),
  ((yX10_remove, cX10_remove, 3, (some .int)), (1, 0, 10, 0, 0), [], (6044, 6042, 6043, 1011)),
  ((yX10_would, cX10_would, 5, (some .int)), (2, 0, 10, 0, 0), [], (6048, 6046, 6047, 1011))]
def q_meta12 : List q_Me := [((yX10_running, cX10_running, 5, (some .int)), (1, 0, 10, 0, 0), [], (6060, 6058, 6059, 1011)),
  ((yX10_offered, cX10_offered, 4, (some .int)), (1, 0, 10, 0, 0), [], (6064, 6062, 6063, 1011)),
  ((yX10_hk, cX10_hk, 3, (some .int)), (2, 0, 10, 0, 0), [], (6079, 6078, 70, 1011)),
  ((yX10_hook, cX10_hook, 6, (some .int)), (5, 0, 10, 0, 0), [], (6068, 6066, 6067, 1011)),
  ((yX10_hookOf, cX10_hookOf, 3, (some .int)), (2, 0, 10, 0, 0), [], (6075, 6073, 6074, 1011)),
  ((yX10_isAhead, cX10_isAhead, 3, (some .boolean)), (2, 0, 10, 0, 0), [], (6091, 6090, 72, 1011)),
  ((yX10_chains, cX10_chains, 5, none), (2, 0, 10, 0, 0), [], (6087, 6086, 71, 1011)),
  ((yX10_chain, cX10_chain, 3, (some .int)), (2, 0, 10, 0, 0), [], (6083, 6081, 6082, 1011)),
  ((yX10_ten, cX10_ten, 2, (some .int)), (1, 1, 10, 0, 0), [], (6106, 6105, 0, 1011)),
  ((yX10_throwsOne, cX10_throwsOne, 2, (some .int)), (1, 0, 10, 0, 0), [], (6110, 6109, 75, 1011)),
  ((yX10_rest, cX10_rest, 6, (some .int)), (2, 0, 10, 0, 0), [], (6103, 6102, 74, 1011)),
  ((yX10_fires, cX10_fires, 3, (some .int)), (1, 0, 10, 0, 0), [], (6099, 6098, 73, 1011)),
  ((yX10_fire, cX10_fire, 4, (some .int)), (2, 0, 10, 0, 0), [], (6095, 6093, 6094, 1011)),
  ((yX10_given, cX10_given, 1, (some .int)), (0, 0, 10, 0, 0), [], (6114, 6112, 6113, 1011)),
  ((yX10_pure, cX10_pure, 5, (some .long)), (3, 0, 10, 0, 0), [], (6118, 6116, 6117, 1011)),
  ((yX10_matter, cX10_matter, 8, (some .int)), (2, 0, 10, 0, 0), [], (6123, 6121, 6122, 1011))]
def q_meta13 : List q_Me := [((yX10_source, cX10_source, 7, (some .long)), (4, 0, 10, 0, 0), [5], (6127, 6125, 6126, 1011)),
  ((yX10_read_, cX10_read_, 3, (some .int)), (2, 0, 10, 0, 0), [], (6137, 6136, 76, 1011)),
  ((yX10_judge, cX10_judge, 6, (some .int)), (3, 0, 10, 0, 0), [], (6132, 6130, 6131, 1011)),
  ((yX10_trace, cX10_trace, 2, (some .int)), (1, 0, 10, 0, 0), [], (6141, 6139, 6140, 1011)),
  ((yX10_log, cX10_log, 2, (some .int)), (1, 0, 10, 0, 0), [], (6146, 6144, 6145, 1011)),
  ((yX10_draw, cX10_draw, 2, (some .int)), (1, 0, 10, 0, 0), [], (6154, 6153, 77, 1011)),
  ((yX10_inState, cX10_inState, 4, (some .int)), (1, 0, 10, 0, 0), [], (6159, 6158, 78, 1011)),
  ((yX10_days, cX10_days, 5, (some .int)), (1, 0, 10, 0, 0), [], (6150, 6148, 6149, 1011)),
  ((yX10_seed, cX10_seed, 3, (some .int)), (1, 0, 10, 0, 0), [], (6163, 6161, 6162, 1011)),
  ((yX10_keep, cX10_keep, 3, none), (1, 0, 10, 0, 0), [], (6052, 6051, 68, 1011)),
  ((yX10_again, cX10_again, 3, none), (1, 0, 10, 0, 0), [], (6056, 6055, 69, 1011)),
  ((yX10_image, cX10_image, 1, (some .int)), (0, 0, 10, 0, 0), [], (6167, 6165, 6166, 1011)),
  ((yX10_restore, cX10_restore, 2, (some .int)), (0, 0, 10, 0, 0), [], (6171, 6169, 6170, 1011)),
  ((yX10_status, cX10_status, 2, (some .int)), (1, 0, 10, 0, 0), [], (6175, 6173, 6174, 1011)),
  ((yJ6_bitCount_0f7a4, cJ6_bitCount_0f7a4, 1, (some .int)), (1, 1, 99, 0, 0), [], (2230, 2229, 0, 1014)),
  ((yJ9_floorMod_7cf53, cJ9_floorMod_7cf53, 3, (some .int)), (2, 1, 99, 0, 0), [], (4078, 4077, 0, 1015))]
def q_meta14 : List q_Me := [((yJ7_fill_d0a16, cJ7_fill_d0a16, 5, none), (2, 1, 99, 0, 0), [1], (2146, 2145, 0, 1012)),
  ((yJ7_fill_53178, cJ7_fill_53178, 4, none), (2, 1, 99, 0, 0), [], (3217, 3216, 0, 1012)),
  ((yL_law, cL_law, 4, (some .boolean)), (1, 1, 99, 147, 4805), [], (9999, 9999, 0, 1000))]
def q_meta : List (List q_Me) := [q_meta0, q_meta1, q_meta2, q_meta3, q_meta4, q_meta5, q_meta6, q_meta7, q_meta8, q_meta9, q_meta10, q_meta11, q_meta12, q_meta13, q_meta14]
def q_me0 : q_Me := ((yL_law, cL_law, 4, none), (0, 1, 99, 0, 0), [], (0, 0, 0, 0))
def q_m (j : Nat) : q_Me := ((q_meta.getD (j / 16) []).getD (j % 16) q_me0)
abbrev q_In : Type := Instr × Nat × Nat × Nat × Nat
def q_f0 : List (List (Option q_In)) := [[some (.aload_n 0, 1, 0, 0, 0), some (.invokespecial 3, 3, 300, 0, 2073), none, none, some (.aload_n 0, 1, 0, 0, 0), some (.bipush 40, 2, 0, 0, 0), none, some (.newarray .int, 2, 0, 0, 1203), none, some (.putfield 9, 3, 0, 0, 2074), none, none, some (.aload_n 0, 1, 0, 0, 0), some (.iconst 0, 1, 0, 0, 0), some (.putfield 15, 3, 0, 1, 2075), none],
  [none, some (.return_, 1, 0, 0, 0)]]
def q_f1 : List (List (Option q_In)) := [[some (.aload_n 0, 1, 0, 0, 0), some (.getfield 9, 3, 0, 0, 2074), none, none, some (.aload_n 0, 1, 0, 0, 0), some (.getfield 15, 3, 0, 1, 2075), none, none, some (.bipush 40, 2, 0, 0, 0), none, some (.irem, 1, 0, 0, 0), some (.iload_n 1, 1, 0, 0, 0), some (.iastore, 1, 0, 0, 0), some (.aload_n 0, 1, 0, 0, 0), some (.dup, 1, 0, 0, 0), some (.getfield 15, 3, 0, 1, 2075)],
  [none, none, some (.iconst 1, 1, 0, 0, 0), some (.iadd, 1, 0, 0, 0), some (.putfield 15, 3, 0, 1, 2075), none, none, some (.return_, 1, 0, 0, 0)]]
def q_f2 : List (List (Option q_In)) := [[some (.aload_n 0, 1, 0, 0, 0), some (.getfield 15, 3, 0, 1, 2075), none, none, some (.bipush 40, 2, 0, 0, 0), none, some (.invokestatic 19, 3, 303, 0, 4137), none, none, some (.istore_n 2, 1, 0, 0, 0), some (.iload_n 1, 1, 0, 0, 0), some (.ifCond .lt 27, 3, 38, 0, 0), none, none, some (.iload_n 1, 1, 0, 0, 0), some (.iload_n 2, 1, 0, 0, 0)],
  [some (.if_icmp .ge 22, 3, 38, 0, 0), none, none, some (.aload_n 0, 1, 0, 0, 0), some (.getfield 9, 3, 0, 0, 2074), none, none, some (.aload_n 0, 1, 0, 0, 0), some (.getfield 15, 3, 0, 1, 2075), none, none, some (.iload_n 2, 1, 0, 0, 0), some (.isub, 1, 0, 0, 0), some (.iload_n 1, 1, 0, 0, 0), some (.iadd, 1, 0, 0, 0), some (.bipush 40, 2, 0, 0, 0)],
  [none, some (.irem, 1, 0, 0, 0), some (.iaload, 1, 0, 0, 0), some (.goto 4, 3, 39, 0, 0), none, none, some (.iconst (-1), 1, 0, 0, 0), some (.ireturn, 1, 0, 0, 0)]]
def q_f3 : List (List (Option q_In)) := [[some (.aload_n 0, 1, 0, 0, 0), some (.invokespecial 3, 3, 300, 0, 1223), none, none, some (.aload_n 0, 1, 0, 0, 0), some (.bipush 24, 2, 0, 0, 0), none, some (.newarray .int, 2, 0, 0, 1203), none, some (.putfield 9, 3, 1, 1, 1225), none, none, some (.aload_n 0, 1, 0, 0, 0), some (.iconst 0, 1, 0, 0, 0), some (.putfield 15, 3, 1, 2, 1227), none],
  [none, some (.aload_n 0, 1, 0, 0, 0), some (.iconst 0, 1, 0, 0, 0), some (.putfield 19, 3, 1, 3, 1229), none, none, some (.aload_n 0, 1, 0, 0, 0), some (.iconst 0, 1, 0, 0, 0), some (.putfield 22, 3, 1, 4, 1231), none, none, some (.aload_n 0, 1, 0, 0, 0), some (.iconst 0, 1, 0, 0, 0), some (.putfield 25, 3, 1, 5, 1233), none, none],
  [some (.aload_n 0, 1, 0, 0, 0), some (.bipush 30, 2, 0, 0, 0), none, some (.newarray .int, 2, 0, 0, 1203), none, some (.putfield 28, 3, 1, 6, 1235), none, none, some (.aload_n 0, 1, 0, 0, 0), some (.bipush 12, 2, 0, 0, 0), none, some (.newarray .int, 2, 0, 0, 1203), none, some (.putfield 31, 3, 1, 7, 1237), none, none],
  [some (.aload_n 0, 1, 0, 0, 0), some (.aload_n 1, 1, 0, 0, 0), some (.putfield 34, 3, 1, 0, 1224), none, none, some (.return_, 1, 0, 0, 0)]]
def q_f4 : List (List (Option q_In)) := [[some (.aload_n 0, 1, 0, 0, 0), some (.iconst 0, 1, 0, 0, 0), some (.putfield 15, 3, 1, 2, 1227), none, none, some (.iconst 0, 1, 0, 0, 0), some (.istore_n 3, 1, 0, 0, 0), some (.iload_n 3, 1, 0, 0, 0), some (.aload_n 0, 1, 0, 0, 0), some (.getfield 34, 3, 1, 0, 1224), none, none, some (.getfield 38, 3, 3, 3, 1148), none, none, some (.if_icmp .ge 54, 3, 69, 0, 0)],
  [none, none, some (.aload_n 0, 1, 0, 0, 0), some (.getfield 34, 3, 1, 0, 1224), none, none, some (.getfield 43, 3, 3, 1, 1139), none, none, some (.iload_n 3, 1, 0, 0, 0), some (.aaload, 1, 0, 0, 0), some (.astore 4, 2, 0, 0, 0), none, some (.iload_n 3, 1, 0, 0, 0), some (.iload_n 2, 1, 0, 0, 0), some (.if_icmp .eq 32, 3, 63, 0, 0)],
  [none, none, some (.aload 4, 2, 0, 0, 0), none, some (.getfield 47, 3, 2, 1, 1110), none, none, some (.iload_n 1, 1, 0, 0, 0), some (.if_icmp .ne 23, 3, 63, 0, 0), none, none, some (.aload_n 0, 1, 0, 0, 0), some (.getfield 34, 3, 1, 0, 1224), none, none, some (.aload 4, 2, 0, 0, 0)],
  [none, some (.getfield 52, 3, 2, 0, 1107), none, none, some (.invokevirtual 55, 3, 21, 0, 4046), none, none, some (.ifCond .eq 8, 3, 63, 0, 0), none, none, some (.aload_n 0, 1, 0, 0, 0), some (.iload_n 3, 1, 0, 0, 0), some (.invokevirtual 59, 3, 5, 0, 4047), none, none, some (.iinc 3 1, 3, 0, 0, 0)],
  [none, none, some (.goto (-59), 3, 7, 0, 0), none, none, some (.return_, 1, 0, 0, 0)]]
def q_f5 : List (List (Option q_In)) := [[some (.aload_n 0, 1, 0, 0, 0), some (.getfield 15, 3, 1, 2, 1227), none, none, some (.bipush 24, 2, 0, 0, 0), none, some (.if_icmp .lt 4, 3, 10, 0, 0), none, none, some (.return_, 1, 0, 0, 0), some (.aload_n 0, 1, 0, 0, 0), some (.getfield 15, 3, 1, 2, 1227), none, none, some (.istore_n 2, 1, 0, 0, 0), some (.iload_n 2, 1, 0, 0, 0)],
  [some (.ifCond .le 55, 3, 71, 0, 0), none, none, some (.aload_n 0, 1, 0, 0, 0), some (.aload_n 0, 1, 0, 0, 0), some (.getfield 34, 3, 1, 0, 1224), none, none, some (.getfield 43, 3, 3, 1, 1139), none, none, some (.iload_n 1, 1, 0, 0, 0), some (.aaload, 1, 0, 0, 0), some (.aload_n 0, 1, 0, 0, 0), some (.getfield 34, 3, 1, 0, 1224), none],
  [none, some (.getfield 43, 3, 3, 1, 1139), none, none, some (.aload_n 0, 1, 0, 0, 0), some (.getfield 9, 3, 1, 1, 1225), none, none, some (.iload_n 2, 1, 0, 0, 0), some (.iconst 1, 1, 0, 0, 0), some (.isub, 1, 0, 0, 0), some (.iaload, 1, 0, 0, 0), some (.aaload, 1, 0, 0, 0), some (.invokevirtual 63, 3, 6, 0, 4051), none, none],
  [some (.ifCond .eq 23, 3, 71, 0, 0), none, none, some (.aload_n 0, 1, 0, 0, 0), some (.getfield 9, 3, 1, 1, 1225), none, none, some (.iload_n 2, 1, 0, 0, 0), some (.aload_n 0, 1, 0, 0, 0), some (.getfield 9, 3, 1, 1, 1225), none, none, some (.iload_n 2, 1, 0, 0, 0), some (.iconst 1, 1, 0, 0, 0), some (.isub, 1, 0, 0, 0), some (.iaload, 1, 0, 0, 0)],
  [some (.iastore, 1, 0, 0, 0), some (.iinc 2 (-1), 3, 0, 0, 0), none, none, some (.goto (-53), 3, 15, 0, 0), none, none, some (.aload_n 0, 1, 0, 0, 0), some (.getfield 9, 3, 1, 1, 1225), none, none, some (.iload_n 2, 1, 0, 0, 0), some (.iload_n 1, 1, 0, 0, 0), some (.iastore, 1, 0, 0, 0), some (.aload_n 0, 1, 0, 0, 0), some (.dup, 1, 0, 0, 0)],
  [some (.getfield 15, 3, 1, 2, 1227), none, none, some (.iconst 1, 1, 0, 0, 0), some (.iadd, 1, 0, 0, 0), some (.putfield 15, 3, 1, 2, 1227), none, none, some (.return_, 1, 0, 0, 0)]]
def q_f6 : List (List (Option q_In)) := [[some (.aload_n 1, 1, 0, 0, 0), some (.getfield 67, 3, 2, 2, 1113), none, none, some (.aload_n 2, 1, 0, 0, 0), some (.getfield 67, 3, 2, 2, 1113), none, none, some (.if_icmp .eq 20, 3, 28, 0, 0), none, none, some (.aload_n 1, 1, 0, 0, 0), some (.getfield 67, 3, 2, 2, 1113), none, none, some (.aload_n 2, 1, 0, 0, 0)],
  [some (.getfield 67, 3, 2, 2, 1113), none, none, some (.if_icmp .le 7, 3, 26, 0, 0), none, none, some (.iconst 1, 1, 0, 0, 0), some (.goto 4, 3, 27, 0, 0), none, none, some (.iconst 0, 1, 0, 0, 0), some (.ireturn, 1, 0, 0, 0), some (.aload_n 0, 1, 0, 0, 0), some (.getfield 34, 3, 1, 0, 1224), none, none],
  [some (.aload_n 2, 1, 0, 0, 0), some (.getfield 52, 3, 2, 0, 1107), none, none, some (.invokevirtual 70, 3, 25, 0, 4055), none, none, some (.aload_n 1, 1, 0, 0, 0), some (.getfield 52, 3, 2, 0, 1107), none, none, some (.ishr, 1, 0, 0, 0), some (.iconst 1, 1, 0, 0, 0), some (.iand, 1, 0, 0, 0), some (.ifCond .eq 7, 3, 53, 0, 0), none],
  [none, some (.iconst 1, 1, 0, 0, 0), some (.goto 4, 3, 54, 0, 0), none, none, some (.iconst 0, 1, 0, 0, 0), some (.ireturn, 1, 0, 0, 0)]]
def q_f7 : List (List (Option q_In)) := [[some (.aload_n 0, 1, 0, 0, 0), some (.iconst 0, 1, 0, 0, 0), some (.putfield 19, 3, 1, 3, 1229), none, none, some (.aload_n 0, 1, 0, 0, 0), some (.iconst 0, 1, 0, 0, 0), some (.putfield 25, 3, 1, 5, 1233), none, none, some (.aload_n 0, 1, 0, 0, 0), some (.getfield 31, 3, 1, 7, 1237), none, none, some (.iconst 0, 1, 0, 0, 0), some (.invokestatic 74, 3, 225, 0, 4064)],
  [none, none, some (.aload_n 0, 1, 0, 0, 0), some (.aload_n 0, 1, 0, 0, 0), some (.iconst 0, 1, 0, 0, 0), some (.iload_n 1, 1, 0, 0, 0), some (.invokevirtual 80, 3, 10, 0, 4065), none, none, some (.putfield 22, 3, 1, 4, 1231), none, none, some (.return_, 1, 0, 0, 0)]]
def q_f8 : List (List (Option q_In)) := [[some (.aload_n 0, 1, 0, 0, 0), some (.iload_n 1, 1, 0, 0, 0), some (.invokevirtual 84, 3, 7, 0, 4113), none, none, some (.aload_n 0, 1, 0, 0, 0), some (.getfield 19, 3, 1, 3, 1229), none, none, some (.ifCond .ne 15, 3, 24, 0, 0), none, none, some (.aload_n 0, 1, 0, 0, 0), some (.getfield 22, 3, 1, 4, 1231), none, none],
  [some (.iload_n 2, 1, 0, 0, 0), some (.if_icmp .ne 7, 3, 24, 0, 0), none, none, some (.iconst 1, 1, 0, 0, 0), some (.goto 4, 3, 25, 0, 0), none, none, some (.iconst 0, 1, 0, 0, 0), some (.ireturn, 1, 0, 0, 0)]]
def q_f9 : List (List (Option q_In)) := [[some (.iconst 0, 1, 0, 0, 0), some (.istore_n 1, 1, 0, 0, 0), some (.iload_n 1, 1, 0, 0, 0), some (.aload_n 0, 1, 0, 0, 0), some (.getfield 34, 3, 1, 0, 1224), none, none, some (.getfield 87, 3, 3, 2, 1145), none, none, some (.if_icmp .ge 32, 3, 42, 0, 0), none, none, some (.aload_n 0, 1, 0, 0, 0), some (.getfield 34, 3, 1, 0, 1224), none],
  [none, some (.getfield 90, 3, 3, 0, 1136), none, none, some (.iload_n 1, 1, 0, 0, 0), some (.aaload, 1, 0, 0, 0), some (.dup, 1, 0, 0, 0), some (.getfield 94, 3, 5, 8, 1068), none, none, some (.aload_n 0, 1, 0, 0, 0), some (.getfield 31, 3, 1, 7, 1237), none, none, some (.iload_n 1, 1, 0, 0, 0), some (.iaload, 1, 0, 0, 0)],
  [some (.iadd, 1, 0, 0, 0), some (.putfield 94, 3, 5, 8, 1068), none, none, some (.iinc 1 1, 3, 0, 0, 0), none, none, some (.goto (-37), 3, 2, 0, 0), none, none, some (.return_, 1, 0, 0, 0)]]
def q_f10 : List (List (Option q_In)) := [[some (.iload_n 1, 1, 0, 0, 0), some (.ifCond .lt 11, 3, 12, 0, 0), none, none, some (.iload_n 1, 1, 0, 0, 0), some (.aload_n 0, 1, 0, 0, 0), some (.getfield 15, 3, 1, 2, 1227), none, none, some (.if_icmp .lt 5, 3, 14, 0, 0), none, none, some (.iload_n 2, 1, 0, 0, 0), some (.ireturn, 1, 0, 0, 0), some (.aload_n 0, 1, 0, 0, 0), some (.getfield 25, 3, 1, 5, 1233)],
  [none, none, some (.sipush 200, 3, 0, 0, 0), none, none, some (.if_icmp .lt 10, 3, 31, 0, 0), none, none, some (.aload_n 0, 1, 0, 0, 0), some (.iconst 2, 1, 0, 0, 0), some (.putfield 19, 3, 1, 3, 1229), none, none, some (.iconst 0, 1, 0, 0, 0), some (.ireturn, 1, 0, 0, 0), some (.aload_n 0, 1, 0, 0, 0)],
  [some (.getfield 9, 3, 1, 1, 1225), none, none, some (.iload_n 1, 1, 0, 0, 0), some (.iaload, 1, 0, 0, 0), some (.istore_n 3, 1, 0, 0, 0), some (.aload_n 0, 1, 0, 0, 0), some (.getfield 25, 3, 1, 5, 1233), none, none, some (.bipush 30, 2, 0, 0, 0), none, some (.if_icmp .ge 13, 3, 57, 0, 0), none, none, some (.aload_n 0, 1, 0, 0, 0)],
  [some (.getfield 28, 3, 1, 6, 1235), none, none, some (.aload_n 0, 1, 0, 0, 0), some (.getfield 25, 3, 1, 5, 1233), none, none, some (.iload_n 3, 1, 0, 0, 0), some (.iastore, 1, 0, 0, 0), some (.aload_n 0, 1, 0, 0, 0), some (.dup, 1, 0, 0, 0), some (.getfield 25, 3, 1, 5, 1233), none, none, some (.iconst 1, 1, 0, 0, 0), some (.iadd, 1, 0, 0, 0)],
  [some (.putfield 25, 3, 1, 5, 1233), none, none, some (.aload_n 0, 1, 0, 0, 0), some (.getfield 34, 3, 1, 0, 1224), none, none, some (.getfield 43, 3, 3, 1, 1139), none, none, some (.iload_n 3, 1, 0, 0, 0), some (.aaload, 1, 0, 0, 0), some (.astore 4, 2, 0, 0, 0), none, some (.aload 4, 2, 0, 0, 0), none],
  [some (.getfield 99, 3, 2, 3, 1116), none, none, some (.invokestatic 102, 3, 11, 0, 4069), none, none, some (.ifCond .eq 14, 3, 100, 0, 0), none, none, some (.aload_n 0, 1, 0, 0, 0), some (.iload_n 1, 1, 0, 0, 0), some (.aload 4, 2, 0, 0, 0), none, some (.iload_n 2, 1, 0, 0, 0), some (.invokevirtual 105, 3, 12, 0, 4072), none],
  [none, some (.goto 11, 3, 108, 0, 0), none, none, some (.aload_n 0, 1, 0, 0, 0), some (.iload_n 1, 1, 0, 0, 0), some (.aload 4, 2, 0, 0, 0), none, some (.iload_n 2, 1, 0, 0, 0), some (.invokevirtual 109, 3, 14, 0, 4080), none, none, some (.ireturn, 1, 0, 0, 0)]]
def q_f11 : List (List (Option q_In)) := [[some (.iload_n 0, 1, 0, 0, 0), some (.iconst 3, 1, 0, 0, 0), some (.if_icmp .eq 15, 3, 17, 0, 0), none, none, some (.iload_n 0, 1, 0, 0, 0), some (.bipush 6, 2, 0, 0, 0), none, some (.if_icmp .eq 9, 3, 17, 0, 0), none, none, some (.iload_n 0, 1, 0, 0, 0), some (.bipush 7, 2, 0, 0, 0), none, some (.if_icmp .ne 7, 3, 21, 0, 0), none],
  [none, some (.iconst 1, 1, 0, 0, 0), some (.goto 4, 3, 22, 0, 0), none, none, some (.iconst 0, 1, 0, 0, 0), some (.ireturn, 1, 0, 0, 0)]]
def q_f12 : List (List (Option q_In)) := [[some (.aload_n 2, 1, 0, 0, 0), some (.getfield 99, 3, 2, 3, 1116), none, none, some (.iconst 3, 1, 0, 0, 0), some (.if_icmp .ne 23, 3, 28, 0, 0), none, none, some (.iload_n 3, 1, 0, 0, 0), some (.bipush 10, 2, 0, 0, 0), none, some (.invokestatic 112, 3, 223, 0, 4076), none, none, some (.aload_n 2, 1, 0, 0, 0), some (.getfield 117, 3, 2, 4, 1119)],
  [none, none, some (.bipush 10, 2, 0, 0, 0), none, some (.invokestatic 112, 3, 223, 0, 4076), none, none, some (.if_icmp .ne 5, 3, 28, 0, 0), none, none, some (.iload_n 3, 1, 0, 0, 0), some (.ireturn, 1, 0, 0, 0), some (.aload_n 2, 1, 0, 0, 0), some (.getfield 99, 3, 2, 3, 1116), none, none],
  [some (.bipush 7, 2, 0, 0, 0), none, some (.if_icmp .ne 18, 3, 52, 0, 0), none, none, some (.iload_n 3, 1, 0, 0, 0), some (.aload_n 2, 1, 0, 0, 0), some (.getfield 117, 3, 2, 4, 1119), none, none, some (.if_icmp .ge 10, 3, 52, 0, 0), none, none, some (.aload_n 0, 1, 0, 0, 0), some (.iconst 1, 1, 0, 0, 0), some (.putfield 19, 3, 1, 3, 1229)],
  [none, none, some (.iload_n 3, 1, 0, 0, 0), some (.ireturn, 1, 0, 0, 0), some (.aload_n 2, 1, 0, 0, 0), some (.getfield 99, 3, 2, 3, 1116), none, none, some (.bipush 6, 2, 0, 0, 0), none, some (.if_icmp .ne 30, 3, 88, 0, 0), none, none, some (.aload_n 0, 1, 0, 0, 0), some (.getfield 34, 3, 1, 0, 1224), none],
  [none, some (.aload_n 2, 1, 0, 0, 0), some (.getfield 52, 3, 2, 0, 1107), none, none, some (.invokevirtual 120, 3, 20, 0, 4079), none, none, some (.ifCond .eq 16, 3, 88, 0, 0), none, none, some (.aload_n 0, 1, 0, 0, 0), some (.getfield 31, 3, 1, 7, 1237), none, none, some (.aload_n 2, 1, 0, 0, 0)],
  [some (.getfield 52, 3, 2, 0, 1107), none, none, some (.dup2, 1, 0, 0, 0), some (.iaload, 1, 0, 0, 0), some (.iload_n 3, 1, 0, 0, 0), some (.iadd, 1, 0, 0, 0), some (.iastore, 1, 0, 0, 0), some (.aload_n 0, 1, 0, 0, 0), some (.iload_n 1, 1, 0, 0, 0), some (.iconst 1, 1, 0, 0, 0), some (.iadd, 1, 0, 0, 0), some (.iload_n 3, 1, 0, 0, 0), some (.invokevirtual 80, 3, 10, 0, 4065), none, none],
  [some (.ireturn, 1, 0, 0, 0)]]
def q_f13 : List (List (Option q_In)) := [[some (.aload_n 0, 1, 0, 0, 0), some (.getfield 99, 3, 2, 3, 1116), none, none, some (.lookupswitch 42 #[(0, 28), (4, 35)], 28, 0, 0, 0), none, none, none, none, none, none, none, none, none, none, none],
  [none, none, none, none, none, none, none, none, none, none, none, none, none, none, none, none],
  [some (.iload_n 1, 1, 0, 0, 0), some (.aload_n 0, 1, 0, 0, 0), some (.getfield 117, 3, 2, 4, 1119), none, none, some (.iadd, 1, 0, 0, 0), some (.ireturn, 1, 0, 0, 0), some (.iload_n 1, 1, 0, 0, 0), some (.aload_n 0, 1, 0, 0, 0), some (.getfield 117, 3, 2, 4, 1119), none, none, some (.ixor, 1, 0, 0, 0), some (.ireturn, 1, 0, 0, 0), some (.iload_n 1, 1, 0, 0, 0), some (.ireturn, 1, 0, 0, 0)]]
def q_f14 : List (List (Option q_In)) := [[some (.aload_n 0, 1, 0, 0, 0), some (.iload_n 1, 1, 0, 0, 0), some (.iconst 1, 1, 0, 0, 0), some (.iadd, 1, 0, 0, 0), some (.aload_n 2, 1, 0, 0, 0), some (.iload_n 3, 1, 0, 0, 0), some (.invokestatic 123, 3, 13, 0, 4084), none, none, some (.invokevirtual 80, 3, 10, 0, 4065), none, none, some (.istore 4, 2, 0, 0, 0), none, some (.aload_n 0, 1, 0, 0, 0), some (.getfield 19, 3, 1, 3, 1229)],
  [none, none, some (.iconst 1, 1, 0, 0, 0), some (.if_icmp .ne 25, 3, 44, 0, 0), none, none, some (.aload_n 2, 1, 0, 0, 0), some (.getfield 99, 3, 2, 3, 1116), none, none, some (.bipush 8, 2, 0, 0, 0), none, some (.if_icmp .ne 16, 3, 44, 0, 0), none, none, some (.aload_n 0, 1, 0, 0, 0)],
  [some (.iconst 0, 1, 0, 0, 0), some (.putfield 19, 3, 1, 3, 1229), none, none, some (.iload 4, 2, 0, 0, 0), none, some (.aload_n 2, 1, 0, 0, 0), some (.getfield 117, 3, 2, 4, 1119), none, none, some (.iadd, 1, 0, 0, 0), some (.ireturn, 1, 0, 0, 0), some (.aload_n 0, 1, 0, 0, 0), some (.getfield 19, 3, 1, 3, 1229), none, none],
  [some (.ifCond .eq 6, 3, 54, 0, 0), none, none, some (.iload 4, 2, 0, 0, 0), none, some (.ireturn, 1, 0, 0, 0), some (.aload_n 2, 1, 0, 0, 0), some (.getfield 99, 3, 2, 3, 1116), none, none, some (.tableswitch 68 1 5 #[34, 42, 68, 52, 60], 34, 0, 0, 0), none, none, none, none, none],
  [none, none, none, none, none, none, none, none, none, none, none, none, none, none, none, none],
  [none, none, none, none, none, none, none, none, none, none, none, none, some (.iload 4, 2, 0, 0, 0), none, some (.aload_n 2, 1, 0, 0, 0), some (.getfield 117, 3, 2, 4, 1119)],
  [none, none, some (.imul, 1, 0, 0, 0), some (.ireturn, 1, 0, 0, 0), some (.aload_n 0, 1, 0, 0, 0), some (.iload_n 1, 1, 0, 0, 0), some (.iconst 1, 1, 0, 0, 0), some (.iadd, 1, 0, 0, 0), some (.iload 4, 2, 0, 0, 0), none, some (.invokevirtual 80, 3, 10, 0, 4065), none, none, some (.ireturn, 1, 0, 0, 0), some (.iload 4, 2, 0, 0, 0), none],
  [some (.aload_n 2, 1, 0, 0, 0), some (.getfield 117, 3, 2, 4, 1119), none, none, some (.ixor, 1, 0, 0, 0), some (.ireturn, 1, 0, 0, 0), some (.iload 4, 2, 0, 0, 0), none, some (.aload_n 0, 1, 0, 0, 0), some (.getfield 25, 3, 1, 5, 1233), none, none, some (.iadd, 1, 0, 0, 0), some (.ireturn, 1, 0, 0, 0), some (.iload 4, 2, 0, 0, 0), none],
  [some (.ireturn, 1, 0, 0, 0)]]
def q_f15 : List (List (Option q_In)) := [[some (.aload_n 0, 1, 0, 0, 0), some (.invokespecial 1, 3, 300, 0, 1105), none, none, some (.return_, 1, 0, 0, 0)]]
def q_f16 : List (List (Option q_In)) := [[some (.aload_n 0, 1, 0, 0, 0), some (.iload_n 1, 1, 0, 0, 0), some (.putfield 7, 3, 2, 0, 1106), none, none, some (.aload_n 0, 1, 0, 0, 0), some (.iload_n 2, 1, 0, 0, 0), some (.putfield 13, 3, 2, 1, 1109), none, none, some (.aload_n 0, 1, 0, 0, 0), some (.iload_n 3, 1, 0, 0, 0), some (.putfield 16, 3, 2, 2, 1112), none, none, some (.aload_n 0, 1, 0, 0, 0)],
  [some (.iload 4, 2, 0, 0, 0), none, some (.putfield 19, 3, 2, 3, 1115), none, none, some (.aload_n 0, 1, 0, 0, 0), some (.iload 5, 2, 0, 0, 0), none, some (.putfield 22, 3, 2, 4, 1118), none, none, some (.return_, 1, 0, 0, 0)]]
def q_f17 : List (List (Option q_In)) := [[some (.aload_n 0, 1, 0, 0, 0), some (.aload_n 1, 1, 0, 0, 0), some (.getfield 7, 3, 2, 0, 1106), none, none, some (.aload_n 1, 1, 0, 0, 0), some (.getfield 13, 3, 2, 1, 1109), none, none, some (.aload_n 1, 1, 0, 0, 0), some (.getfield 16, 3, 2, 2, 1112), none, none, some (.aload_n 1, 1, 0, 0, 0), some (.getfield 19, 3, 2, 3, 1115), none],
  [none, some (.aload_n 1, 1, 0, 0, 0), some (.getfield 22, 3, 2, 4, 1118), none, none, some (.invokevirtual 25, 3, 16, 0, 4172), none, none, some (.return_, 1, 0, 0, 0)]]
def q_f18 : List (List (Option q_In)) := [[some (.aload_n 0, 1, 0, 0, 0), some (.invokespecial 3, 3, 300, 0, 1031), none, none, some (.aload_n 0, 1, 0, 0, 0), some (.bipush 12, 2, 0, 0, 0), none, some (.anewarray 9, 3, 5, 0, 1032), none, none, some (.putfield 11, 3, 3, 0, 1132), none, none, some (.aload_n 0, 1, 0, 0, 0), some (.bipush 24, 2, 0, 0, 0), none],
  [some (.anewarray 17, 3, 2, 0, 1034), none, none, some (.putfield 19, 3, 3, 1, 1138), none, none, some (.aload_n 0, 1, 0, 0, 0), some (.iconst 0, 1, 0, 0, 0), some (.putfield 23, 3, 3, 2, 1141), none, none, some (.aload_n 0, 1, 0, 0, 0), some (.iconst 0, 1, 0, 0, 0), some (.putfield 27, 3, 3, 3, 1147), none, none],
  [some (.aload_n 0, 1, 0, 0, 0), some (.iconst 0, 1, 0, 0, 0), some (.putfield 30, 3, 3, 4, 1150), none, none, some (.aload_n 0, 1, 0, 0, 0), some (.iconst 1, 1, 0, 0, 0), some (.putfield 33, 3, 3, 5, 1152), none, none, some (.iconst 0, 1, 0, 0, 0), some (.istore_n 1, 1, 0, 0, 0), some (.iload_n 1, 1, 0, 0, 0), some (.bipush 12, 2, 0, 0, 0), none, some (.if_icmp .ge 22, 3, 69, 0, 0)],
  [none, none, some (.aload_n 0, 1, 0, 0, 0), some (.getfield 11, 3, 3, 0, 1132), none, none, some (.iload_n 1, 1, 0, 0, 0), some (.new 9, 3, 5, 0, 1032), none, none, some (.dup, 1, 0, 0, 0), some (.invokespecial 36, 3, 37, 1, 1037), none, none, some (.aastore, 1, 0, 0, 0), some (.iinc 1 1, 3, 0, 0, 0)],
  [none, none, some (.goto (-22), 3, 44, 0, 0), none, none, some (.iconst 0, 1, 0, 0, 0), some (.istore_n 1, 1, 0, 0, 0), some (.iload_n 1, 1, 0, 0, 0), some (.bipush 24, 2, 0, 0, 0), none, some (.if_icmp .ge 22, 3, 96, 0, 0), none, none, some (.aload_n 0, 1, 0, 0, 0), some (.getfield 19, 3, 3, 1, 1138), none],
  [none, some (.iload_n 1, 1, 0, 0, 0), some (.new 17, 3, 2, 0, 1034), none, none, some (.dup, 1, 0, 0, 0), some (.invokespecial 37, 3, 15, 1, 1102), none, none, some (.aastore, 1, 0, 0, 0), some (.iinc 1 1, 3, 0, 0, 0), none, none, some (.goto (-22), 3, 71, 0, 0), none, none],
  [some (.return_, 1, 0, 0, 0)]]
def q_f19 : List (List (Option q_In)) := [[some (.iconst 0, 1, 0, 0, 0), some (.istore_n 2, 1, 0, 0, 0), some (.iload_n 2, 1, 0, 0, 0), some (.bipush 12, 2, 0, 0, 0), none, some (.if_icmp .ge 24, 3, 29, 0, 0), none, none, some (.aload_n 0, 1, 0, 0, 0), some (.getfield 11, 3, 3, 0, 1132), none, none, some (.iload_n 2, 1, 0, 0, 0), some (.aaload, 1, 0, 0, 0), some (.aload_n 1, 1, 0, 0, 0), some (.getfield 11, 3, 3, 0, 1132)],
  [none, none, some (.iload_n 2, 1, 0, 0, 0), some (.aaload, 1, 0, 0, 0), some (.invokevirtual 38, 3, 39, 0, 4167), none, none, some (.iinc 2 1, 3, 0, 0, 0), none, none, some (.goto (-24), 3, 2, 0, 0), none, none, some (.iconst 0, 1, 0, 0, 0), some (.istore_n 2, 1, 0, 0, 0), some (.iload_n 2, 1, 0, 0, 0)],
  [some (.bipush 24, 2, 0, 0, 0), none, some (.if_icmp .ge 24, 3, 58, 0, 0), none, none, some (.aload_n 0, 1, 0, 0, 0), some (.getfield 19, 3, 3, 1, 1138), none, none, some (.iload_n 2, 1, 0, 0, 0), some (.aaload, 1, 0, 0, 0), some (.aload_n 1, 1, 0, 0, 0), some (.getfield 19, 3, 3, 1, 1138), none, none, some (.iload_n 2, 1, 0, 0, 0)],
  [some (.aaload, 1, 0, 0, 0), some (.invokevirtual 42, 3, 17, 0, 4168), none, none, some (.iinc 2 1, 3, 0, 0, 0), none, none, some (.goto (-24), 3, 31, 0, 0), none, none, some (.aload_n 0, 1, 0, 0, 0), some (.aload_n 1, 1, 0, 0, 0), some (.getfield 23, 3, 3, 2, 1141), none, none, some (.putfield 23, 3, 3, 2, 1141)],
  [none, none, some (.aload_n 0, 1, 0, 0, 0), some (.aload_n 1, 1, 0, 0, 0), some (.getfield 27, 3, 3, 3, 1147), none, none, some (.putfield 27, 3, 3, 3, 1147), none, none, some (.aload_n 0, 1, 0, 0, 0), some (.aload_n 1, 1, 0, 0, 0), some (.getfield 30, 3, 3, 4, 1150), none, none, some (.putfield 30, 3, 3, 4, 1150)],
  [none, none, some (.aload_n 0, 1, 0, 0, 0), some (.aload_n 1, 1, 0, 0, 0), some (.getfield 33, 3, 3, 5, 1152), none, none, some (.putfield 33, 3, 3, 5, 1152), none, none, some (.return_, 1, 0, 0, 0)]]
def q_f20 : List (List (Option q_In)) := [[some (.iload_n 1, 1, 0, 0, 0), some (.ifCond .lt 15, 3, 16, 0, 0), none, none, some (.iload_n 1, 1, 0, 0, 0), some (.aload_n 0, 1, 0, 0, 0), some (.getfield 23, 3, 3, 2, 1141), none, none, some (.if_icmp .ge 7, 3, 16, 0, 0), none, none, some (.iconst 1, 1, 0, 0, 0), some (.goto 4, 3, 17, 0, 0), none, none],
  [some (.iconst 0, 1, 0, 0, 0), some (.ireturn, 1, 0, 0, 0)]]
def q_f21 : List (List (Option q_In)) := [[some (.aload_n 0, 1, 0, 0, 0), some (.iload_n 1, 1, 0, 0, 0), some (.invokevirtual 45, 3, 20, 0, 3107), none, none, some (.ifCond .eq 20, 3, 25, 0, 0), none, none, some (.aload_n 0, 1, 0, 0, 0), some (.getfield 11, 3, 3, 0, 1132), none, none, some (.iload_n 1, 1, 0, 0, 0), some (.aaload, 1, 0, 0, 0), some (.getfield 49, 3, 5, 9, 1072), none],
  [none, some (.iconst 1, 1, 0, 0, 0), some (.if_icmp .ne 7, 3, 25, 0, 0), none, none, some (.iconst 1, 1, 0, 0, 0), some (.goto 4, 3, 26, 0, 0), none, none, some (.iconst 0, 1, 0, 0, 0), some (.ireturn, 1, 0, 0, 0)]]
def q_f22 : List (List (Option q_In)) := [[some (.iconst 0, 1, 0, 0, 0), some (.istore_n 2, 1, 0, 0, 0), some (.iload_n 2, 1, 0, 0, 0), some (.aload_n 0, 1, 0, 0, 0), some (.getfield 23, 3, 3, 2, 1141), none, none, some (.if_icmp .ge 37, 3, 44, 0, 0), none, none, some (.aload_n 0, 1, 0, 0, 0), some (.getfield 11, 3, 3, 0, 1132), none, none, some (.iload_n 2, 1, 0, 0, 0), some (.aaload, 1, 0, 0, 0)],
  [some (.getfield 49, 3, 5, 9, 1072), none, none, some (.iconst 3, 1, 0, 0, 0), some (.if_icmp .eq 18, 3, 38, 0, 0), none, none, some (.aload_n 0, 1, 0, 0, 0), some (.getfield 11, 3, 3, 0, 1132), none, none, some (.iload_n 2, 1, 0, 0, 0), some (.aaload, 1, 0, 0, 0), some (.getfield 52, 3, 5, 5, 1058), none, none],
  [some (.iload_n 1, 1, 0, 0, 0), some (.if_icmp .ne 5, 3, 38, 0, 0), none, none, some (.iconst 1, 1, 0, 0, 0), some (.ireturn, 1, 0, 0, 0), some (.iinc 2 1, 3, 0, 0, 0), none, none, some (.goto (-39), 3, 2, 0, 0), none, none, some (.iconst 0, 1, 0, 0, 0), some (.ireturn, 1, 0, 0, 0)]]
def q_f23 : List (List (Option q_In)) := [[some (.iconst 0, 1, 0, 0, 0), some (.istore_n 2, 1, 0, 0, 0), some (.iconst 0, 1, 0, 0, 0), some (.istore_n 3, 1, 0, 0, 0), some (.iload_n 3, 1, 0, 0, 0), some (.aload_n 0, 1, 0, 0, 0), some (.getfield 23, 3, 3, 2, 1141), none, none, some (.if_icmp .ge 25, 3, 34, 0, 0), none, none, some (.aload_n 0, 1, 0, 0, 0), some (.getfield 11, 3, 3, 0, 1132), none, none],
  [some (.iload_n 3, 1, 0, 0, 0), some (.aaload, 1, 0, 0, 0), some (.getfield 49, 3, 5, 9, 1072), none, none, some (.iload_n 1, 1, 0, 0, 0), some (.if_icmp .ne 6, 3, 28, 0, 0), none, none, some (.iinc 2 1, 3, 0, 0, 0), none, none, some (.iinc 3 1, 3, 0, 0, 0), none, none, some (.goto (-27), 3, 4, 0, 0)],
  [none, none, some (.iload_n 2, 1, 0, 0, 0), some (.ireturn, 1, 0, 0, 0)]]
def q_f24 : List (List (Option q_In)) := [[some (.iconst 0, 1, 0, 0, 0), some (.istore_n 1, 1, 0, 0, 0), some (.iconst 0, 1, 0, 0, 0), some (.istore_n 2, 1, 0, 0, 0), some (.iload_n 2, 1, 0, 0, 0), some (.aload_n 0, 1, 0, 0, 0), some (.getfield 23, 3, 3, 2, 1141), none, none, some (.if_icmp .ge 28, 3, 37, 0, 0), none, none, some (.aload_n 0, 1, 0, 0, 0), some (.getfield 11, 3, 3, 0, 1132), none, none],
  [some (.iload_n 2, 1, 0, 0, 0), some (.aaload, 1, 0, 0, 0), some (.getfield 49, 3, 5, 9, 1072), none, none, some (.iconst 1, 1, 0, 0, 0), some (.if_icmp .ne 9, 3, 31, 0, 0), none, none, some (.iload_n 1, 1, 0, 0, 0), some (.iconst 1, 1, 0, 0, 0), some (.iload_n 2, 1, 0, 0, 0), some (.ishl, 1, 0, 0, 0), some (.ior, 1, 0, 0, 0), some (.istore_n 1, 1, 0, 0, 0), some (.iinc 2 1, 3, 0, 0, 0)],
  [none, none, some (.goto (-30), 3, 4, 0, 0), none, none, some (.iload_n 1, 1, 0, 0, 0), some (.ireturn, 1, 0, 0, 0)]]
def q_f25 : List (List (Option q_In)) := [[some (.aload_n 0, 1, 0, 0, 0), some (.iload_n 1, 1, 0, 0, 0), some (.invokevirtual 45, 3, 20, 0, 3107), none, none, some (.ifCond .ne 5, 3, 10, 0, 0), none, none, some (.iconst 0, 1, 0, 0, 0), some (.ireturn, 1, 0, 0, 0), some (.iconst 0, 1, 0, 0, 0), some (.istore_n 2, 1, 0, 0, 0), some (.iconst 0, 1, 0, 0, 0), some (.istore_n 3, 1, 0, 0, 0), some (.iload_n 3, 1, 0, 0, 0), some (.aload_n 0, 1, 0, 0, 0)],
  [some (.getfield 23, 3, 3, 2, 1141), none, none, some (.if_icmp .ge 49, 3, 68, 0, 0), none, none, some (.aload_n 0, 1, 0, 0, 0), some (.getfield 11, 3, 3, 0, 1132), none, none, some (.iload_n 3, 1, 0, 0, 0), some (.aaload, 1, 0, 0, 0), some (.getfield 49, 3, 5, 9, 1072), none, none, some (.iconst 1, 1, 0, 0, 0)],
  [some (.if_icmp .ne 30, 3, 62, 0, 0), none, none, some (.aload_n 0, 1, 0, 0, 0), some (.getfield 11, 3, 3, 0, 1132), none, none, some (.iload_n 3, 1, 0, 0, 0), some (.aaload, 1, 0, 0, 0), some (.getfield 55, 3, 5, 10, 1076), none, none, some (.aload_n 0, 1, 0, 0, 0), some (.getfield 11, 3, 3, 0, 1132), none, none],
  [some (.iload_n 1, 1, 0, 0, 0), some (.aaload, 1, 0, 0, 0), some (.getfield 55, 3, 5, 10, 1076), none, none, some (.if_icmp .ge 9, 3, 62, 0, 0), none, none, some (.iload_n 2, 1, 0, 0, 0), some (.iconst 1, 1, 0, 0, 0), some (.iload_n 3, 1, 0, 0, 0), some (.ishl, 1, 0, 0, 0), some (.ior, 1, 0, 0, 0), some (.istore_n 2, 1, 0, 0, 0), some (.iinc 3 1, 3, 0, 0, 0), none],
  [none, some (.goto (-51), 3, 14, 0, 0), none, none, some (.iload_n 2, 1, 0, 0, 0), some (.ireturn, 1, 0, 0, 0)]]
def q_f26 : List (List (Option q_In)) := [[some (.iconst 0, 1, 0, 0, 0), some (.istore_n 3, 1, 0, 0, 0), some (.iconst 0, 1, 0, 0, 0), some (.istore 4, 2, 0, 0, 0), none, some (.iload 4, 2, 0, 0, 0), none, some (.aload_n 0, 1, 0, 0, 0), some (.getfield 23, 3, 3, 2, 1141), none, none, some (.if_icmp .ge 39, 3, 50, 0, 0), none, none, some (.iload_n 2, 1, 0, 0, 0), some (.iload 4, 2, 0, 0, 0)],
  [none, some (.ishr, 1, 0, 0, 0), some (.iconst 1, 1, 0, 0, 0), some (.iand, 1, 0, 0, 0), some (.ifCond .eq 24, 3, 44, 0, 0), none, none, some (.aload_n 0, 1, 0, 0, 0), some (.getfield 11, 3, 3, 0, 1132), none, none, some (.iload 4, 2, 0, 0, 0), none, some (.aaload, 1, 0, 0, 0), some (.iload_n 1, 1, 0, 0, 0), some (.invokevirtual 58, 3, 41, 0, 3132)],
  [none, none, some (.ifCond .eq 10, 3, 44, 0, 0), none, none, some (.iload_n 3, 1, 0, 0, 0), some (.iconst 1, 1, 0, 0, 0), some (.iload 4, 2, 0, 0, 0), none, some (.ishl, 1, 0, 0, 0), some (.ior, 1, 0, 0, 0), some (.istore_n 3, 1, 0, 0, 0), some (.iinc 4 1, 3, 0, 0, 0), none, none, some (.goto (-42), 3, 5, 0, 0)],
  [none, none, some (.iload_n 3, 1, 0, 0, 0), some (.ireturn, 1, 0, 0, 0)]]
def q_f27 : List (List (Option q_In)) := [[some (.aload_n 0, 1, 0, 0, 0), some (.iload_n 2, 1, 0, 0, 0), some (.aload_n 0, 1, 0, 0, 0), some (.iload_n 1, 1, 0, 0, 0), some (.invokevirtual 61, 3, 25, 0, 3124), none, none, some (.invokevirtual 65, 3, 26, 0, 3128), none, none, some (.istore_n 3, 1, 0, 0, 0), some (.iconst (-1), 1, 0, 0, 0), some (.istore 4, 2, 0, 0, 0), none, some (.iconst 0, 1, 0, 0, 0), some (.istore 5, 2, 0, 0, 0)],
  [none, some (.iload 5, 2, 0, 0, 0), none, some (.aload_n 0, 1, 0, 0, 0), some (.getfield 23, 3, 3, 2, 1141), none, none, some (.if_icmp .ge 60, 3, 83, 0, 0), none, none, some (.iload_n 3, 1, 0, 0, 0), some (.iload 5, 2, 0, 0, 0), none, some (.ishr, 1, 0, 0, 0), some (.iconst 1, 1, 0, 0, 0), some (.iand, 1, 0, 0, 0)],
  [some (.ifCond .eq 7, 3, 39, 0, 0), none, none, some (.iconst 1, 1, 0, 0, 0), some (.goto 4, 3, 40, 0, 0), none, none, some (.iconst 0, 1, 0, 0, 0), some (.istore 6, 2, 0, 0, 0), none, some (.iload 6, 2, 0, 0, 0), none, some (.ifCond .eq 33, 3, 77, 0, 0), none, none, some (.iload 4, 2, 0, 0, 0)],
  [none, some (.iconst (-1), 1, 0, 0, 0), some (.if_icmp .eq 23, 3, 73, 0, 0), none, none, some (.aload_n 0, 1, 0, 0, 0), some (.getfield 11, 3, 3, 0, 1132), none, none, some (.iload 5, 2, 0, 0, 0), none, some (.aaload, 1, 0, 0, 0), some (.aload_n 0, 1, 0, 0, 0), some (.getfield 11, 3, 3, 0, 1132), none, none],
  [some (.iload 4, 2, 0, 0, 0), none, some (.aaload, 1, 0, 0, 0), some (.invokestatic 69, 3, 28, 0, 3136), none, none, some (.ifCond .eq 7, 3, 77, 0, 0), none, none, some (.iload 5, 2, 0, 0, 0), none, some (.istore 4, 2, 0, 0, 0), none, some (.iinc 5 1, 3, 0, 0, 0), none, none],
  [some (.goto (-63), 3, 17, 0, 0), none, none, some (.iload 4, 2, 0, 0, 0), none, some (.ireturn, 1, 0, 0, 0)]]
def q_f28 : List (List (Option q_In)) := [[some (.aload_n 0, 1, 0, 0, 0), some (.getfield 73, 3, 5, 6, 1063), none, none, some (.aload_n 1, 1, 0, 0, 0), some (.getfield 73, 3, 5, 6, 1063), none, none, some (.isub, 1, 0, 0, 0), some (.istore_n 2, 1, 0, 0, 0), some (.iload_n 2, 1, 0, 0, 0), some (.ifCond .gt 18, 3, 29, 0, 0), none, none, some (.iload_n 2, 1, 0, 0, 0), some (.ifCond .ne 18, 3, 33, 0, 0)],
  [none, none, some (.aload_n 0, 1, 0, 0, 0), some (.getfield 55, 3, 5, 10, 1076), none, none, some (.aload_n 1, 1, 0, 0, 0), some (.getfield 55, 3, 5, 10, 1076), none, none, some (.if_icmp .ge 7, 3, 33, 0, 0), none, none, some (.iconst 1, 1, 0, 0, 0), some (.goto 4, 3, 34, 0, 0), none],
  [none, some (.iconst 0, 1, 0, 0, 0), some (.ireturn, 1, 0, 0, 0)]]
def q_f29 : List (List (Option q_In)) := [[some (.aload_n 0, 1, 0, 0, 0), some (.aload_n 0, 1, 0, 0, 0), some (.getfield 33, 3, 3, 5, 1152), none, none, some (.ldc 76, 2, 1103515245, 0, 4150), none, some (.imul, 1, 0, 0, 0), some (.sipush 12345, 3, 0, 0, 0), none, none, some (.iadd, 1, 0, 0, 0), some (.putfield 33, 3, 3, 5, 1152), none, none, some (.iload_n 1, 1, 0, 0, 0)],
  [some (.ifCond .le 15, 3, 31, 0, 0), none, none, some (.aload_n 0, 1, 0, 0, 0), some (.getfield 33, 3, 3, 5, 1152), none, none, some (.bipush 16, 2, 0, 0, 0), none, some (.iushr, 1, 0, 0, 0), some (.iload_n 1, 1, 0, 0, 0), some (.irem, 1, 0, 0, 0), some (.goto 4, 3, 32, 0, 0), none, none, some (.iconst 0, 1, 0, 0, 0)],
  [some (.ireturn, 1, 0, 0, 0)]]
def q_f30 : List (List (Option q_In)) := [[some (.aload_n 0, 1, 0, 0, 0), some (.invokespecial 3, 3, 300, 0, 1172), none, none, some (.aload_n 0, 1, 0, 0, 0), some (.bipush 12, 2, 0, 0, 0), none, some (.newarray .int, 2, 0, 0, 1203), none, some (.putfield 9, 3, 4, 1, 1174), none, none, some (.aload_n 0, 1, 0, 0, 0), some (.iconst 0, 1, 0, 0, 0), some (.putfield 15, 3, 4, 2, 1176), none],
  [none, some (.aload_n 0, 1, 0, 0, 0), some (.iconst (-1), 1, 0, 0, 0), some (.putfield 19, 3, 4, 3, 1178), none, none, some (.aload_n 0, 1, 0, 0, 0), some (.bipush 36, 2, 0, 0, 0), none, some (.newarray .int, 2, 0, 0, 1203), none, some (.putfield 22, 3, 4, 4, 1180), none, none, some (.aload_n 0, 1, 0, 0, 0), some (.iconst 0, 1, 0, 0, 0)],
  [some (.putfield 25, 3, 4, 5, 1182), none, none, some (.aload_n 0, 1, 0, 0, 0), some (.iconst 0, 1, 0, 0, 0), some (.putfield 28, 3, 4, 6, 1184), none, none, some (.aload_n 0, 1, 0, 0, 0), some (.iconst 0, 1, 0, 0, 0), some (.putfield 31, 3, 4, 7, 1185), none, none, some (.aload_n 0, 1, 0, 0, 0), some (.aload_n 1, 1, 0, 0, 0), some (.putfield 34, 3, 4, 0, 1173)],
  [none, none, some (.return_, 1, 0, 0, 0)]]
def q_f31 : List (List (Option q_In)) := [[some (.aload_n 0, 1, 0, 0, 0), some (.iconst 0, 1, 0, 0, 0), some (.putfield 15, 3, 4, 2, 1176), none, none, some (.aload_n 0, 1, 0, 0, 0), some (.iconst (-1), 1, 0, 0, 0), some (.putfield 19, 3, 4, 3, 1178), none, none, some (.aload_n 0, 1, 0, 0, 0), some (.iconst 0, 1, 0, 0, 0), some (.putfield 25, 3, 4, 5, 1182), none, none, some (.aload_n 0, 1, 0, 0, 0)],
  [some (.aload_n 0, 1, 0, 0, 0), some (.getfield 34, 3, 4, 0, 1173), none, none, some (.invokevirtual 38, 3, 24, 0, 3151), none, none, some (.putfield 28, 3, 4, 6, 1184), none, none, some (.aload_n 0, 1, 0, 0, 0), some (.iconst 0, 1, 0, 0, 0), some (.putfield 31, 3, 4, 7, 1185), none, none, some (.aload_n 0, 1, 0, 0, 0)],
  [some (.iload_n 1, 1, 0, 0, 0), some (.iconst 0, 1, 0, 0, 0), some (.invokevirtual 43, 3, 32, 0, 3155), none, none, some (.ireturn, 1, 0, 0, 0)]]
def q_f32 : List (List (Option q_In)) := [[some (.aload_n 0, 1, 0, 0, 0), some (.getfield 34, 3, 4, 0, 1173), none, none, some (.iload_n 1, 1, 0, 0, 0), some (.invokevirtual 47, 3, 20, 0, 3159), none, none, some (.ifCond .eq 18, 3, 26, 0, 0), none, none, some (.iload_n 2, 1, 0, 0, 0), some (.bipush 12, 2, 0, 0, 0), none, some (.if_icmp .ge 12, 3, 26, 0, 0), none],
  [none, some (.aload_n 0, 1, 0, 0, 0), some (.getfield 15, 3, 4, 2, 1176), none, none, some (.bipush 12, 2, 0, 0, 0), none, some (.if_icmp .lt 5, 3, 28, 0, 0), none, none, some (.iconst 0, 1, 0, 0, 0), some (.ireturn, 1, 0, 0, 0), some (.aload_n 0, 1, 0, 0, 0), some (.getfield 34, 3, 4, 0, 1173), none, none],
  [some (.getfield 51, 3, 3, 0, 1134), none, none, some (.iload_n 1, 1, 0, 0, 0), some (.aaload, 1, 0, 0, 0), some (.getfield 55, 3, 5, 9, 1071), none, none, some (.ifCond .eq 12, 3, 52, 0, 0), none, none, some (.aload_n 0, 1, 0, 0, 0), some (.iload_n 2, 1, 0, 0, 0), some (.iload_n 1, 1, 0, 0, 0), some (.iconst 1, 1, 0, 0, 0), some (.iconst (-1), 1, 0, 0, 0)],
  [some (.invokevirtual 60, 3, 36, 0, 3160), none, none, some (.ireturn, 1, 0, 0, 0), some (.aload_n 0, 1, 0, 0, 0), some (.dup, 1, 0, 0, 0), some (.getfield 31, 3, 4, 7, 1185), none, none, some (.iconst 1, 1, 0, 0, 0), some (.iload_n 1, 1, 0, 0, 0), some (.ishl, 1, 0, 0, 0), some (.ior, 1, 0, 0, 0), some (.putfield 31, 3, 4, 7, 1185), none, none],
  [some (.iconst 0, 1, 0, 0, 0), some (.istore_n 3, 1, 0, 0, 0), some (.iload_n 3, 1, 0, 0, 0), some (.bipush 8, 2, 0, 0, 0), none, some (.if_icmp .ge 37, 3, 106, 0, 0), none, none, some (.aload_n 0, 1, 0, 0, 0), some (.getfield 34, 3, 4, 0, 1173), none, none, some (.getfield 51, 3, 3, 0, 1134), none, none, some (.iload_n 1, 1, 0, 0, 0)],
  [some (.aaload, 1, 0, 0, 0), some (.iload_n 3, 1, 0, 0, 0), some (.invokevirtual 64, 3, 40, 0, 3165), none, none, some (.ifCond .eq 15, 3, 100, 0, 0), none, none, some (.aload_n 0, 1, 0, 0, 0), some (.iload_n 1, 1, 0, 0, 0), some (.iload_n 3, 1, 0, 0, 0), some (.iload_n 2, 1, 0, 0, 0), some (.invokevirtual 67, 3, 33, 0, 3166), none, none, some (.ifCond .ne 5, 3, 100, 0, 0)],
  [none, none, some (.iconst 0, 1, 0, 0, 0), some (.ireturn, 1, 0, 0, 0), some (.iinc 3 1, 3, 0, 0, 0), none, none, some (.goto (-37), 3, 66, 0, 0), none, none, some (.aload_n 0, 1, 0, 0, 0), some (.getfield 34, 3, 4, 0, 1173), none, none, some (.getfield 51, 3, 3, 0, 1134), none],
  [none, some (.iload_n 1, 1, 0, 0, 0), some (.aaload, 1, 0, 0, 0), some (.getfield 71, 3, 5, 4, 1054), none, none, some (.ifCond .le 17, 3, 135, 0, 0), none, none, some (.aload_n 0, 1, 0, 0, 0), some (.iload_n 1, 1, 0, 0, 0), some (.putfield 19, 3, 4, 3, 1178), none, none, some (.aload_n 0, 1, 0, 0, 0), some (.iload_n 2, 1, 0, 0, 0)],
  [some (.iload_n 1, 1, 0, 0, 0), some (.iconst 5, 1, 0, 0, 0), some (.iconst (-1), 1, 0, 0, 0), some (.invokevirtual 60, 3, 36, 0, 3160), none, none, some (.ireturn, 1, 0, 0, 0), some (.aload_n 0, 1, 0, 0, 0), some (.dup, 1, 0, 0, 0), some (.getfield 31, 3, 4, 7, 1185), none, none, some (.iconst 1, 1, 0, 0, 0), some (.iload_n 1, 1, 0, 0, 0), some (.ishl, 1, 0, 0, 0), some (.iconst (-1), 1, 0, 0, 0)],
  [some (.ixor, 1, 0, 0, 0), some (.iand, 1, 0, 0, 0), some (.putfield 31, 3, 4, 7, 1185), none, none, some (.aload_n 0, 1, 0, 0, 0), some (.dup, 1, 0, 0, 0), some (.getfield 28, 3, 4, 6, 1184), none, none, some (.iconst 1, 1, 0, 0, 0), some (.iload_n 1, 1, 0, 0, 0), some (.ishl, 1, 0, 0, 0), some (.ior, 1, 0, 0, 0), some (.putfield 28, 3, 4, 6, 1184), none],
  [none, some (.aload_n 0, 1, 0, 0, 0), some (.getfield 9, 3, 4, 1, 1174), none, none, some (.aload_n 0, 1, 0, 0, 0), some (.getfield 15, 3, 4, 2, 1176), none, none, some (.iload_n 1, 1, 0, 0, 0), some (.iastore, 1, 0, 0, 0), some (.aload_n 0, 1, 0, 0, 0), some (.dup, 1, 0, 0, 0), some (.getfield 15, 3, 4, 2, 1176), none, none],
  [some (.iconst 1, 1, 0, 0, 0), some (.iadd, 1, 0, 0, 0), some (.putfield 15, 3, 4, 2, 1176), none, none, some (.iconst 1, 1, 0, 0, 0), some (.ireturn, 1, 0, 0, 0)]]
def q_f33 : List (List (Option q_In)) := [[some (.aload_n 0, 1, 0, 0, 0), some (.getfield 34, 3, 4, 0, 1173), none, none, some (.iload_n 2, 1, 0, 0, 0), some (.aload_n 0, 1, 0, 0, 0), some (.getfield 28, 3, 4, 6, 1184), none, none, some (.invokevirtual 74, 3, 26, 0, 3170), none, none, some (.ifCond .eq 5, 3, 17, 0, 0), none, none, some (.iconst 1, 1, 0, 0, 0)],
  [some (.ireturn, 1, 0, 0, 0), some (.aload_n 0, 1, 0, 0, 0), some (.iload_n 1, 1, 0, 0, 0), some (.iload_n 2, 1, 0, 0, 0), some (.invokevirtual 78, 3, 34, 0, 3171), none, none, some (.istore 4, 2, 0, 0, 0), none, some (.iload 4, 2, 0, 0, 0), none, some (.iconst (-1), 1, 0, 0, 0), some (.if_icmp .ne 12, 3, 40, 0, 0), none, none, some (.aload_n 0, 1, 0, 0, 0)],
  [some (.iload_n 3, 1, 0, 0, 0), some (.iload_n 1, 1, 0, 0, 0), some (.iconst 2, 1, 0, 0, 0), some (.iload_n 2, 1, 0, 0, 0), some (.invokevirtual 60, 3, 36, 0, 3160), none, none, some (.ireturn, 1, 0, 0, 0), some (.aload_n 0, 1, 0, 0, 0), some (.getfield 31, 3, 4, 7, 1185), none, none, some (.iload 4, 2, 0, 0, 0), none, some (.ishr, 1, 0, 0, 0), some (.iconst 1, 1, 0, 0, 0)],
  [some (.iand, 1, 0, 0, 0), some (.ifCond .eq 12, 3, 61, 0, 0), none, none, some (.aload_n 0, 1, 0, 0, 0), some (.iload_n 3, 1, 0, 0, 0), some (.iload_n 1, 1, 0, 0, 0), some (.iconst 3, 1, 0, 0, 0), some (.iload_n 2, 1, 0, 0, 0), some (.invokevirtual 60, 3, 36, 0, 3160), none, none, some (.ireturn, 1, 0, 0, 0), some (.aload_n 0, 1, 0, 0, 0), some (.iload 4, 2, 0, 0, 0), none],
  [some (.iload_n 3, 1, 0, 0, 0), some (.iconst 1, 1, 0, 0, 0), some (.iadd, 1, 0, 0, 0), some (.invokevirtual 43, 3, 32, 0, 3155), none, none, some (.ifCond .ne 14, 3, 84, 0, 0), none, none, some (.aload_n 0, 1, 0, 0, 0), some (.iload_n 3, 1, 0, 0, 0), some (.iload_n 1, 1, 0, 0, 0), some (.iconst 4, 1, 0, 0, 0), some (.iload_n 2, 1, 0, 0, 0), some (.invokevirtual 60, 3, 36, 0, 3160), none],
  [none, some (.ifCond .eq 7, 3, 88, 0, 0), none, none, some (.iconst 1, 1, 0, 0, 0), some (.goto 4, 3, 89, 0, 0), none, none, some (.iconst 0, 1, 0, 0, 0), some (.ireturn, 1, 0, 0, 0)]]
def q_f34 : List (List (Option q_In)) := [[some (.iconst (-1), 1, 0, 0, 0), some (.istore_n 3, 1, 0, 0, 0), some (.iconst 0, 1, 0, 0, 0), some (.istore 4, 2, 0, 0, 0), none, some (.iload 4, 2, 0, 0, 0), none, some (.aload_n 0, 1, 0, 0, 0), some (.getfield 34, 3, 4, 0, 1173), none, none, some (.getfield 81, 3, 3, 2, 1144), none, none, some (.if_icmp .ge 69, 3, 83, 0, 0), none],
  [none, some (.aload_n 0, 1, 0, 0, 0), some (.getfield 34, 3, 4, 0, 1173), none, none, some (.getfield 51, 3, 3, 0, 1134), none, none, some (.iload 4, 2, 0, 0, 0), none, some (.aaload, 1, 0, 0, 0), some (.astore 5, 2, 0, 0, 0), none, some (.iload 4, 2, 0, 0, 0), none, some (.iload_n 1, 1, 0, 0, 0)],
  [some (.if_icmp .eq 45, 3, 77, 0, 0), none, none, some (.aload 5, 2, 0, 0, 0), none, some (.getfield 55, 3, 5, 9, 1071), none, none, some (.ifCond .ne 37, 3, 77, 0, 0), none, none, some (.aload 5, 2, 0, 0, 0), none, some (.iload_n 2, 1, 0, 0, 0), some (.invokevirtual 84, 3, 41, 0, 3175), none],
  [none, some (.ifCond .eq 28, 3, 77, 0, 0), none, none, some (.iload_n 3, 1, 0, 0, 0), some (.iconst (-1), 1, 0, 0, 0), some (.if_icmp .eq 20, 3, 74, 0, 0), none, none, some (.aload 5, 2, 0, 0, 0), none, some (.aload_n 0, 1, 0, 0, 0), some (.getfield 34, 3, 4, 0, 1173), none, none, some (.getfield 51, 3, 3, 0, 1134)],
  [none, none, some (.iload_n 3, 1, 0, 0, 0), some (.aaload, 1, 0, 0, 0), some (.invokestatic 87, 3, 35, 0, 3176), none, none, some (.ifCond .eq 6, 3, 77, 0, 0), none, none, some (.iload 4, 2, 0, 0, 0), none, some (.istore_n 3, 1, 0, 0, 0), some (.iinc 4 1, 3, 0, 0, 0), none, none],
  [some (.goto (-75), 3, 5, 0, 0), none, none, some (.iload_n 3, 1, 0, 0, 0), some (.ireturn, 1, 0, 0, 0)]]
def q_f35 : List (List (Option q_In)) := [[some (.aload_n 0, 1, 0, 0, 0), some (.getfield 91, 3, 5, 6, 1062), none, none, some (.aload_n 1, 1, 0, 0, 0), some (.getfield 91, 3, 5, 6, 1062), none, none, some (.isub, 1, 0, 0, 0), some (.istore_n 2, 1, 0, 0, 0), some (.iload_n 2, 1, 0, 0, 0), some (.ifCond .gt 18, 3, 29, 0, 0), none, none, some (.iload_n 2, 1, 0, 0, 0), some (.ifCond .ne 18, 3, 33, 0, 0)],
  [none, none, some (.aload_n 0, 1, 0, 0, 0), some (.getfield 94, 3, 5, 7, 1066), none, none, some (.aload_n 1, 1, 0, 0, 0), some (.getfield 94, 3, 5, 7, 1066), none, none, some (.if_icmp .ge 7, 3, 33, 0, 0), none, none, some (.iconst 1, 1, 0, 0, 0), some (.goto 4, 3, 34, 0, 0), none],
  [none, some (.iconst 0, 1, 0, 0, 0), some (.ireturn, 1, 0, 0, 0)]]
def q_f36 : List (List (Option q_In)) := [[some (.iconst 3, 1, 0, 0, 0), some (.iload_n 1, 1, 0, 0, 0), some (.imul, 1, 0, 0, 0), some (.istore 5, 2, 0, 0, 0), none, some (.iload 5, 2, 0, 0, 0), none, some (.ifCond .lt 58, 3, 65, 0, 0), none, none, some (.iload 5, 2, 0, 0, 0), none, some (.iconst 2, 1, 0, 0, 0), some (.iadd, 1, 0, 0, 0), some (.aload_n 0, 1, 0, 0, 0), some (.getfield 22, 3, 4, 4, 1180)],
  [none, none, some (.arraylength, 1, 0, 0, 0), some (.if_icmp .ge 46, 3, 65, 0, 0), none, none, some (.aload_n 0, 1, 0, 0, 0), some (.getfield 22, 3, 4, 4, 1180), none, none, some (.iload 5, 2, 0, 0, 0), none, some (.iload_n 2, 1, 0, 0, 0), some (.iastore, 1, 0, 0, 0), some (.aload_n 0, 1, 0, 0, 0), some (.getfield 22, 3, 4, 4, 1180)],
  [none, none, some (.iload 5, 2, 0, 0, 0), none, some (.iconst 1, 1, 0, 0, 0), some (.iadd, 1, 0, 0, 0), some (.iload_n 3, 1, 0, 0, 0), some (.iastore, 1, 0, 0, 0), some (.aload_n 0, 1, 0, 0, 0), some (.getfield 22, 3, 4, 4, 1180), none, none, some (.iload 5, 2, 0, 0, 0), none, some (.iconst 2, 1, 0, 0, 0), some (.iadd, 1, 0, 0, 0)],
  [some (.iload 4, 2, 0, 0, 0), none, some (.iastore, 1, 0, 0, 0), some (.aload_n 0, 1, 0, 0, 0), some (.aload_n 0, 1, 0, 0, 0), some (.getfield 25, 3, 4, 5, 1182), none, none, some (.iload_n 1, 1, 0, 0, 0), some (.iconst 1, 1, 0, 0, 0), some (.iadd, 1, 0, 0, 0), some (.invokestatic 97, 3, 302, 0, 3164), none, none, some (.putfield 25, 3, 4, 5, 1182), none],
  [none, some (.iconst 0, 1, 0, 0, 0), some (.ireturn, 1, 0, 0, 0)]]
def q_f37 : List (List (Option q_In)) := [[some (.aload_n 0, 1, 0, 0, 0), some (.invokespecial 3, 3, 300, 0, 1040), none, none, some (.return_, 1, 0, 0, 0)]]
def q_f38 : List (List (Option q_In)) := [[some (.aload_n 0, 1, 0, 0, 0), some (.iload_n 1, 1, 0, 0, 0), some (.putfield 9, 3, 5, 0, 1041), none, none, some (.aload_n 0, 1, 0, 0, 0), some (.iload_n 2, 1, 0, 0, 0), some (.putfield 15, 3, 5, 1, 1044), none, none, some (.aload_n 0, 1, 0, 0, 0), some (.iload_n 3, 1, 0, 0, 0), some (.putfield 18, 3, 5, 2, 1047), none, none, some (.aload_n 0, 1, 0, 0, 0)],
  [some (.iload 4, 2, 0, 0, 0), none, some (.putfield 21, 3, 5, 3, 1050), none, none, some (.aload_n 0, 1, 0, 0, 0), some (.iload 5, 2, 0, 0, 0), none, some (.putfield 24, 3, 5, 4, 1053), none, none, some (.aload_n 0, 1, 0, 0, 0), some (.iload 6, 2, 0, 0, 0), none, some (.putfield 27, 3, 5, 5, 1057), none],
  [none, some (.aload_n 0, 1, 0, 0, 0), some (.aload_n 0, 1, 0, 0, 0), some (.invokevirtual 30, 3, 42, 0, 3013), none, none, some (.putfield 34, 3, 5, 6, 1061), none, none, some (.aload_n 0, 1, 0, 0, 0), some (.aload_n 0, 1, 0, 0, 0), some (.invokevirtual 37, 3, 45, 0, 3020), none, none, some (.putfield 40, 3, 5, 7, 1065), none],
  [none, some (.aload_n 0, 1, 0, 0, 0), some (.iconst 0, 1, 0, 0, 0), some (.putfield 43, 3, 5, 8, 1067), none, none, some (.aload_n 0, 1, 0, 0, 0), some (.iconst 0, 1, 0, 0, 0), some (.putfield 46, 3, 5, 9, 1070), none, none, some (.aload_n 0, 1, 0, 0, 0), some (.iconst (-1), 1, 0, 0, 0), some (.putfield 49, 3, 5, 10, 1074), none, none],
  [some (.return_, 1, 0, 0, 0)]]
def q_f39 : List (List (Option q_In)) := [[some (.aload_n 0, 1, 0, 0, 0), some (.aload_n 1, 1, 0, 0, 0), some (.getfield 9, 3, 5, 0, 1041), none, none, some (.aload_n 1, 1, 0, 0, 0), some (.getfield 15, 3, 5, 1, 1044), none, none, some (.aload_n 1, 1, 0, 0, 0), some (.getfield 18, 3, 5, 2, 1047), none, none, some (.aload_n 1, 1, 0, 0, 0), some (.getfield 21, 3, 5, 3, 1050), none],
  [none, some (.aload_n 1, 1, 0, 0, 0), some (.getfield 24, 3, 5, 4, 1053), none, none, some (.aload_n 1, 1, 0, 0, 0), some (.getfield 27, 3, 5, 5, 1057), none, none, some (.invokevirtual 52, 3, 38, 0, 3086), none, none, some (.aload_n 0, 1, 0, 0, 0), some (.aload_n 1, 1, 0, 0, 0), some (.getfield 43, 3, 5, 8, 1067), none],
  [none, some (.putfield 43, 3, 5, 8, 1067), none, none, some (.aload_n 0, 1, 0, 0, 0), some (.aload_n 1, 1, 0, 0, 0), some (.getfield 46, 3, 5, 9, 1070), none, none, some (.putfield 46, 3, 5, 9, 1070), none, none, some (.aload_n 0, 1, 0, 0, 0), some (.aload_n 1, 1, 0, 0, 0), some (.getfield 49, 3, 5, 10, 1074), none],
  [none, some (.putfield 49, 3, 5, 10, 1074), none, none, some (.return_, 1, 0, 0, 0)]]
def q_f40 : List (List (Option q_In)) := [[some (.aload_n 0, 1, 0, 0, 0), some (.getfield 18, 3, 5, 2, 1047), none, none, some (.iload_n 1, 1, 0, 0, 0), some (.ishr, 1, 0, 0, 0), some (.iconst 1, 1, 0, 0, 0), some (.iand, 1, 0, 0, 0), some (.ifCond .eq 7, 3, 15, 0, 0), none, none, some (.iconst 1, 1, 0, 0, 0), some (.goto 4, 3, 16, 0, 0), none, none, some (.iconst 0, 1, 0, 0, 0)],
  [some (.ireturn, 1, 0, 0, 0)]]
def q_f41 : List (List (Option q_In)) := [[some (.aload_n 0, 1, 0, 0, 0), some (.getfield 21, 3, 5, 3, 1050), none, none, some (.iload_n 1, 1, 0, 0, 0), some (.ishr, 1, 0, 0, 0), some (.iconst 1, 1, 0, 0, 0), some (.iand, 1, 0, 0, 0), some (.ifCond .eq 7, 3, 15, 0, 0), none, none, some (.iconst 1, 1, 0, 0, 0), some (.goto 4, 3, 16, 0, 0), none, none, some (.iconst 0, 1, 0, 0, 0)],
  [some (.ireturn, 1, 0, 0, 0)]]
def q_f42 : List (List (Option q_In)) := [[some (.aload_n 0, 1, 0, 0, 0), some (.getfield 15, 3, 5, 1, 1044), none, none, some (.aload_n 0, 1, 0, 0, 0), some (.getfield 21, 3, 5, 3, 1050), none, none, some (.invokestatic 56, 3, 222, 0, 2228), none, none, some (.iadd, 1, 0, 0, 0), some (.istore_n 1, 1, 0, 0, 0), some (.aload_n 0, 1, 0, 0, 0), some (.getfield 15, 3, 5, 1, 1044), none],
  [none, some (.iconst 5, 1, 0, 0, 0), some (.invokestatic 62, 3, 302, 0, 3017), none, none, some (.istore_n 2, 1, 0, 0, 0), some (.aload_n 0, 1, 0, 0, 0), some (.getfield 9, 3, 5, 0, 1041), none, none, some (.tableswitch 42 1 4 #[30, 32, 34, 38], 30, 0, 0, 0), none, none, none, none, none],
  [none, none, none, none, none, none, none, none, none, none, none, none, none, none, none, none],
  [none, none, none, none, none, none, none, none, some (.iload_n 1, 1, 0, 0, 0), some (.ireturn, 1, 0, 0, 0), some (.iload_n 2, 1, 0, 0, 0), some (.ireturn, 1, 0, 0, 0), some (.iconst 2, 1, 0, 0, 0), some (.iload_n 1, 1, 0, 0, 0), some (.imul, 1, 0, 0, 0), some (.ireturn, 1, 0, 0, 0)],
  [some (.iload_n 2, 1, 0, 0, 0), some (.iconst 1, 1, 0, 0, 0), some (.iadd, 1, 0, 0, 0), some (.ireturn, 1, 0, 0, 0), some (.aload_n 0, 1, 0, 0, 0), some (.getfield 15, 3, 5, 1, 1044), none, none, some (.ireturn, 1, 0, 0, 0)]]
def q_f43 : List (List (Option q_In)) := [[some (.iload_n 1, 1, 0, 0, 0), some (.ifCond .eq 37, 3, 38, 0, 0), none, none, some (.iload_n 1, 1, 0, 0, 0), some (.aload_n 0, 1, 0, 0, 0), some (.getfield 9, 3, 5, 0, 1041), none, none, some (.if_icmp .eq 29, 3, 38, 0, 0), none, none, some (.iload_n 1, 1, 0, 0, 0), some (.iconst 1, 1, 0, 0, 0), some (.if_icmp .ne 11, 3, 25, 0, 0), none],
  [none, some (.aload_n 0, 1, 0, 0, 0), some (.getfield 9, 3, 5, 0, 1041), none, none, some (.iconst 3, 1, 0, 0, 0), some (.if_icmp .eq 16, 3, 38, 0, 0), none, none, some (.iload_n 1, 1, 0, 0, 0), some (.iconst 2, 1, 0, 0, 0), some (.if_icmp .ne 15, 3, 42, 0, 0), none, none, some (.aload_n 0, 1, 0, 0, 0), some (.getfield 9, 3, 5, 0, 1041)],
  [none, none, some (.iconst 4, 1, 0, 0, 0), some (.if_icmp .ne 7, 3, 42, 0, 0), none, none, some (.iconst 1, 1, 0, 0, 0), some (.goto 4, 3, 43, 0, 0), none, none, some (.iconst 0, 1, 0, 0, 0), some (.ireturn, 1, 0, 0, 0)]]
def q_f44 : List (List (Option q_In)) := [[some (.iload_n 1, 1, 0, 0, 0), some (.tableswitch 44 1 4 #[31, 39, 31, 39], 31, 0, 0, 0), none, none, none, none, none, none, none, none, none, none, none, none, none, none],
  [none, none, none, none, none, none, none, none, none, none, none, none, none, none, none, none],
  [some (.aload_n 0, 1, 0, 0, 0), some (.getfield 21, 3, 5, 3, 1050), none, none, some (.invokestatic 56, 3, 222, 0, 2228), none, none, some (.ireturn, 1, 0, 0, 0), some (.aload_n 0, 1, 0, 0, 0), some (.getfield 34, 3, 5, 6, 1061), none, none, some (.ireturn, 1, 0, 0, 0), some (.aload_n 0, 1, 0, 0, 0), some (.getfield 15, 3, 5, 1, 1044), none],
  [none, some (.ireturn, 1, 0, 0, 0)]]
def q_f45 : List (List (Option q_In)) := [[some (.aload_n 0, 1, 0, 0, 0), some (.getfield 27, 3, 5, 5, 1057), none, none, some (.istore_n 1, 1, 0, 0, 0), some (.iconst 1, 1, 0, 0, 0), some (.istore_n 2, 1, 0, 0, 0), some (.iload_n 2, 1, 0, 0, 0), some (.iconst 4, 1, 0, 0, 0), some (.if_icmp .ge 21, 3, 30, 0, 0), none, none, some (.iload_n 1, 1, 0, 0, 0), some (.sipush 19683, 3, 0, 0, 0), none, none],
  [some (.if_icmp .ge 14, 3, 30, 0, 0), none, none, some (.iload_n 1, 1, 0, 0, 0), some (.bipush 27, 2, 0, 0, 0), none, some (.imul, 1, 0, 0, 0), some (.istore_n 1, 1, 0, 0, 0), some (.iinc 2 1, 3, 0, 0, 0), none, none, some (.goto (-20), 3, 7, 0, 0), none, none, some (.iload_n 1, 1, 0, 0, 0), some (.ireturn, 1, 0, 0, 0)]]
def q_f46 : List (List (Option q_In)) := [[some (.aload_n 0, 1, 0, 0, 0), some (.invokespecial 3, 3, 300, 0, 2027), none, none, some (.aload_n 0, 1, 0, 0, 0), some (.sipush 160, 3, 0, 0, 0), none, none, some (.newarray .long, 2, 0, 0, 2047), none, some (.putfield 9, 3, 6, 0, 2028), none, none, some (.aload_n 0, 1, 0, 0, 0), some (.iconst (-1), 1, 0, 0, 0), some (.putfield 15, 3, 6, 1, 2031)],
  [none, none, some (.aload_n 0, 1, 0, 0, 0), some (.iconst 0, 1, 0, 0, 0), some (.putfield 19, 3, 6, 2, 2033), none, none, some (.aload_n 0, 1, 0, 0, 0), some (.iconst (-1), 1, 0, 0, 0), some (.putfield 22, 3, 6, 3, 2036), none, none, some (.return_, 1, 0, 0, 0)]]
def q_f47 : List (List (Option q_In)) := [[some (.aload_n 0, 1, 0, 0, 0), some (.iload_n 1, 1, 0, 0, 0), some (.putfield 15, 3, 6, 1, 2031), none, none, some (.aload_n 0, 1, 0, 0, 0), some (.iload_n 2, 1, 0, 0, 0), some (.putfield 19, 3, 6, 2, 2033), none, none, some (.aload_n 0, 1, 0, 0, 0), some (.iconst (-1), 1, 0, 0, 0), some (.putfield 22, 3, 6, 3, 2036), none, none, some (.aload_n 0, 1, 0, 0, 0)],
  [some (.getfield 9, 3, 6, 0, 2028), none, none, some (.lconst 0, 1, 0, 0, 0), some (.invokestatic 25, 3, 224, 0, 2144), none, none, some (.return_, 1, 0, 0, 0)]]
def q_f48 : List (List (Option q_In)) := [[some (.aload_n 0, 1, 0, 0, 0), some (.invokevirtual 31, 3, 49, 0, 2211), none, none, some (.aload_n 0, 1, 0, 0, 0), some (.iload_n 1, 1, 0, 0, 0), some (.putfield 22, 3, 6, 3, 2036), none, none, some (.return_, 1, 0, 0, 0)]]
def q_f49 : List (List (Option q_In)) := [[some (.aload_n 0, 1, 0, 0, 0), some (.iconst (-1), 1, 0, 0, 0), some (.putfield 15, 3, 6, 1, 2031), none, none, some (.aload_n 0, 1, 0, 0, 0), some (.iconst 0, 1, 0, 0, 0), some (.putfield 19, 3, 6, 2, 2033), none, none, some (.aload_n 0, 1, 0, 0, 0), some (.iconst (-1), 1, 0, 0, 0), some (.putfield 22, 3, 6, 3, 2036), none, none, some (.return_, 1, 0, 0, 0)]]
def q_f50 : List (List (Option q_In)) := [[some (.aload_n 0, 1, 0, 0, 0), some (.getfield 15, 3, 6, 1, 2031), none, none, some (.iconst (-1), 1, 0, 0, 0), some (.if_icmp .eq 7, 3, 12, 0, 0), none, none, some (.iconst 1, 1, 0, 0, 0), some (.goto 4, 3, 13, 0, 0), none, none, some (.iconst 0, 1, 0, 0, 0), some (.ireturn, 1, 0, 0, 0)]]
def q_f51 : List (List (Option q_In)) := [[some (.aload_n 0, 1, 0, 0, 0), some (.getfield 22, 3, 6, 3, 2036), none, none, some (.iconst (-1), 1, 0, 0, 0), some (.if_icmp .eq 7, 3, 12, 0, 0), none, none, some (.iconst 1, 1, 0, 0, 0), some (.goto 4, 3, 13, 0, 0), none, none, some (.iconst 0, 1, 0, 0, 0), some (.ireturn, 1, 0, 0, 0)]]
def q_f52 : List (List (Option q_In)) := [[some (.iload_n 1, 1, 0, 0, 0), some (.ifCond .lt 15, 3, 16, 0, 0), none, none, some (.iload_n 1, 1, 0, 0, 0), some (.aload_n 0, 1, 0, 0, 0), some (.getfield 19, 3, 6, 2, 2033), none, none, some (.if_icmp .ge 7, 3, 16, 0, 0), none, none, some (.iconst 1, 1, 0, 0, 0), some (.goto 4, 3, 17, 0, 0), none, none],
  [some (.iconst 0, 1, 0, 0, 0), some (.ireturn, 1, 0, 0, 0)]]
def q_f53 : List (List (Option q_In)) := [[some (.iload_n 1, 1, 0, 0, 0), some (.ifCond .lt 21, 3, 22, 0, 0), none, none, some (.iload_n 2, 1, 0, 0, 0), some (.ifCond .lt 17, 3, 22, 0, 0), none, none, some (.iload_n 1, 1, 0, 0, 0), some (.aload_n 0, 1, 0, 0, 0), some (.getfield 19, 3, 6, 2, 2033), none, none, some (.iload_n 2, 1, 0, 0, 0), some (.isub, 1, 0, 0, 0), some (.if_icmp .gt 7, 3, 22, 0, 0)],
  [none, none, some (.iconst 1, 1, 0, 0, 0), some (.goto 4, 3, 23, 0, 0), none, none, some (.iconst 0, 1, 0, 0, 0), some (.ireturn, 1, 0, 0, 0)]]
def q_f54 : List (List (Option q_In)) := [[some (.aload_n 0, 1, 0, 0, 0), some (.iload_n 1, 1, 0, 0, 0), some (.invokevirtual 34, 3, 52, 0, 2171), none, none, some (.ifCond .eq 13, 3, 18, 0, 0), none, none, some (.aload_n 0, 1, 0, 0, 0), some (.getfield 9, 3, 6, 0, 2028), none, none, some (.iload_n 1, 1, 0, 0, 0), some (.laload, 1, 0, 0, 0), some (.l2i, 1, 0, 0, 0), some (.goto 4, 3, 19, 0, 0)],
  [none, none, some (.iconst 0, 1, 0, 0, 0), some (.ireturn, 1, 0, 0, 0)]]
def q_f55 : List (List (Option q_In)) := [[some (.aload_n 0, 1, 0, 0, 0), some (.iload_n 1, 1, 0, 0, 0), some (.invokevirtual 34, 3, 52, 0, 2171), none, none, some (.ifCond .eq 14, 3, 19, 0, 0), none, none, some (.aload_n 0, 1, 0, 0, 0), some (.getfield 9, 3, 6, 0, 2028), none, none, some (.iload_n 1, 1, 0, 0, 0), some (.aload_n 0, 1, 0, 0, 0), some (.lload_n 2, 1, 0, 0, 0), some (.invokevirtual 38, 3, 56, 0, 2172)],
  [none, none, some (.lastore, 1, 0, 0, 0), some (.return_, 1, 0, 0, 0)]]
def q_f56 : List (List (Option q_In)) := [[some (.aload_n 0, 1, 0, 0, 0), some (.getfield 15, 3, 6, 1, 2031), none, none, some (.tableswitch 42 0 2 #[28, 33, 38], 28, 0, 0, 0), none, none, none, none, none, none, none, none, none, none, none],
  [none, none, none, none, none, none, none, none, none, none, none, none, none, none, none, none],
  [some (.lload_n 1, 1, 0, 0, 0), some (.l2i, 1, 0, 0, 0), some (.i2b, 1, 0, 0, 0), some (.i2l, 1, 0, 0, 0), some (.lreturn, 1, 0, 0, 0), some (.lload_n 1, 1, 0, 0, 0), some (.l2i, 1, 0, 0, 0), some (.i2s, 1, 0, 0, 0), some (.i2l, 1, 0, 0, 0), some (.lreturn, 1, 0, 0, 0), some (.lload_n 1, 1, 0, 0, 0), some (.l2i, 1, 0, 0, 0), some (.i2l, 1, 0, 0, 0), some (.lreturn, 1, 0, 0, 0), some (.lload_n 1, 1, 0, 0, 0), some (.lreturn, 1, 0, 0, 0)]]
def q_f57 : List (List (Option q_In)) := [[some (.aload_n 0, 1, 0, 0, 0), some (.invokespecial 3, 3, 300, 0, 2020), none, none, some (.aload_n 0, 1, 0, 0, 0), some (.bipush 12, 2, 0, 0, 0), none, some (.anewarray 9, 3, 5, 0, 2021), none, none, some (.putfield 11, 3, 7, 1, 2050), none, none, some (.aload_n 0, 1, 0, 0, 0), some (.iconst 0, 1, 0, 0, 0), some (.putfield 17, 3, 7, 2, 2051)],
  [none, none, some (.aload_n 0, 1, 0, 0, 0), some (.new 21, 3, 6, 0, 2022), none, none, some (.dup, 1, 0, 0, 0), some (.invokespecial 23, 3, 46, 1, 2024), none, none, some (.putfield 24, 3, 7, 3, 2052), none, none, some (.aload_n 0, 1, 0, 0, 0), some (.iconst 0, 1, 0, 0, 0), some (.putfield 28, 3, 7, 4, 2053)],
  [none, none, some (.aload_n 0, 1, 0, 0, 0), some (.iconst (-1), 1, 0, 0, 0), some (.putfield 31, 3, 7, 5, 2054), none, none, some (.aload_n 0, 1, 0, 0, 0), some (.aload_n 1, 1, 0, 0, 0), some (.putfield 34, 3, 7, 0, 2049), none, none, some (.iconst 0, 1, 0, 0, 0), some (.istore_n 2, 1, 0, 0, 0), some (.iload_n 2, 1, 0, 0, 0), some (.bipush 12, 2, 0, 0, 0)],
  [none, some (.if_icmp .ge 22, 3, 71, 0, 0), none, none, some (.aload_n 0, 1, 0, 0, 0), some (.getfield 11, 3, 7, 1, 2050), none, none, some (.iload_n 2, 1, 0, 0, 0), some (.new 9, 3, 5, 0, 2021), none, none, some (.dup, 1, 0, 0, 0), some (.invokespecial 38, 3, 37, 1, 2048), none, none],
  [some (.aastore, 1, 0, 0, 0), some (.iinc 2 1, 3, 0, 0, 0), none, none, some (.goto (-22), 3, 46, 0, 0), none, none, some (.return_, 1, 0, 0, 0)]]
def q_f58 : List (List (Option q_In)) := [[some (.aload_n 0, 1, 0, 0, 0), some (.aload_n 1, 1, 0, 0, 0), some (.putfield 24, 3, 7, 3, 2052), none, none, some (.aload_n 0, 1, 0, 0, 0), some (.iconst 0, 1, 0, 0, 0), some (.putfield 17, 3, 7, 2, 2051), none, none, some (.aload_n 0, 1, 0, 0, 0), some (.iconst 0, 1, 0, 0, 0), some (.putfield 28, 3, 7, 4, 2053), none, none, some (.aload_n 0, 1, 0, 0, 0)],
  [some (.iconst (-1), 1, 0, 0, 0), some (.putfield 31, 3, 7, 5, 2054), none, none, some (.aload_n 0, 1, 0, 0, 0), some (.invokevirtual 39, 3, 60, 0, 3032), none, none, some (.istore_n 2, 1, 0, 0, 0), some (.iconst 0, 1, 0, 0, 0), some (.istore_n 3, 1, 0, 0, 0), some (.iload_n 3, 1, 0, 0, 0), some (.sipush 160, 3, 0, 0, 0), none, none, some (.if_icmp .ge 49, 3, 80, 0, 0)],
  [none, none, some (.iload_n 2, 1, 0, 0, 0), some (.ifCond .eq 45, 3, 80, 0, 0), none, none, some (.aload_n 0, 1, 0, 0, 0), some (.getfield 28, 3, 7, 4, 2053), none, none, some (.aload_n 0, 1, 0, 0, 0), some (.getfield 24, 3, 7, 3, 2052), none, none, some (.getfield 43, 3, 6, 2, 2034), none],
  [none, some (.if_icmp .ge 31, 3, 80, 0, 0), none, none, some (.aload_n 0, 1, 0, 0, 0), some (.bipush 59, 2, 0, 0, 0), none, some (.invokevirtual 46, 3, 68, 0, 3036), none, none, some (.ifCond .eq 14, 3, 72, 0, 0), none, none, some (.aload_n 0, 1, 0, 0, 0), some (.invokevirtual 39, 3, 60, 0, 3032), none],
  [none, some (.ifCond .eq 7, 3, 72, 0, 0), none, none, some (.iconst 1, 1, 0, 0, 0), some (.goto 4, 3, 73, 0, 0), none, none, some (.iconst 0, 1, 0, 0, 0), some (.istore_n 2, 1, 0, 0, 0), some (.iinc 3 1, 3, 0, 0, 0), none, none, some (.goto (-50), 3, 27, 0, 0), none, none],
  [some (.aload_n 0, 1, 0, 0, 0), some (.getfield 31, 3, 7, 5, 2054), none, none, some (.ireturn, 1, 0, 0, 0)]]
def q_f59 : List (List (Option q_In)) := [[some (.iconst 0, 1, 0, 0, 0), some (.istore_n 1, 1, 0, 0, 0), some (.iconst 0, 1, 0, 0, 0), some (.istore_n 2, 1, 0, 0, 0), some (.iload_n 2, 1, 0, 0, 0), some (.aload_n 0, 1, 0, 0, 0), some (.getfield 17, 3, 7, 2, 2051), none, none, some (.if_icmp .ge 61, 3, 70, 0, 0), none, none, some (.aload_n 0, 1, 0, 0, 0), some (.getfield 34, 3, 7, 0, 2049), none, none],
  [some (.getfield 50, 3, 3, 2, 1142), none, none, some (.bipush 12, 2, 0, 0, 0), none, some (.if_icmp .ge 49, 3, 70, 0, 0), none, none, some (.aload_n 0, 1, 0, 0, 0), some (.getfield 34, 3, 7, 0, 2049), none, none, some (.getfield 55, 3, 3, 0, 1133), none, none, some (.aload_n 0, 1, 0, 0, 0)],
  [some (.getfield 34, 3, 7, 0, 2049), none, none, some (.getfield 50, 3, 3, 2, 1142), none, none, some (.aaload, 1, 0, 0, 0), some (.aload_n 0, 1, 0, 0, 0), some (.getfield 11, 3, 7, 1, 2050), none, none, some (.iload_n 2, 1, 0, 0, 0), some (.aaload, 1, 0, 0, 0), some (.invokevirtual 58, 3, 39, 0, 3082), none, none],
  [some (.aload_n 0, 1, 0, 0, 0), some (.getfield 34, 3, 7, 0, 2049), none, none, some (.dup, 1, 0, 0, 0), some (.getfield 50, 3, 3, 2, 1142), none, none, some (.iconst 1, 1, 0, 0, 0), some (.iadd, 1, 0, 0, 0), some (.putfield 50, 3, 3, 2, 1142), none, none, some (.iinc 1 1, 3, 0, 0, 0), none, none],
  [some (.iinc 2 1, 3, 0, 0, 0), none, none, some (.goto (-63), 3, 4, 0, 0), none, none, some (.iload_n 1, 1, 0, 0, 0), some (.ireturn, 1, 0, 0, 0)]]
def q_f60 : List (List (Option q_In)) := [[some (.aload_n 0, 1, 0, 0, 0), some (.getfield 28, 3, 7, 4, 2053), none, none, some (.istore_n 1, 1, 0, 0, 0), some (.aload_n 0, 1, 0, 0, 0), some (.bipush 112, 2, 0, 0, 0), none, some (.invokevirtual 46, 3, 68, 0, 3036), none, none, some (.ifCond .eq 30, 3, 41, 0, 0), none, none, some (.aload_n 0, 1, 0, 0, 0), some (.bipush 108, 2, 0, 0, 0)],
  [none, some (.invokevirtual 46, 3, 68, 0, 3036), none, none, some (.ifCond .eq 21, 3, 41, 0, 0), none, none, some (.aload_n 0, 1, 0, 0, 0), some (.bipush 117, 2, 0, 0, 0), none, some (.invokevirtual 46, 3, 68, 0, 3036), none, none, some (.ifCond .eq 12, 3, 41, 0, 0), none, none],
  [some (.aload_n 0, 1, 0, 0, 0), some (.bipush 103, 2, 0, 0, 0), none, some (.invokevirtual 46, 3, 68, 0, 3036), none, none, some (.ifCond .ne 5, 3, 43, 0, 0), none, none, some (.iconst 0, 1, 0, 0, 0), some (.ireturn, 1, 0, 0, 0), some (.aload_n 0, 1, 0, 0, 0), some (.getfield 34, 3, 7, 0, 2049), none, none, some (.getfield 50, 3, 3, 2, 1142)],
  [none, none, some (.aload_n 0, 1, 0, 0, 0), some (.getfield 17, 3, 7, 2, 2051), none, none, some (.iadd, 1, 0, 0, 0), some (.bipush 12, 2, 0, 0, 0), none, some (.if_icmp .lt 9, 3, 66, 0, 0), none, none, some (.aload_n 0, 1, 0, 0, 0), some (.iload_n 1, 1, 0, 0, 0), some (.invokevirtual 62, 3, 70, 0, 3045), none],
  [none, some (.ireturn, 1, 0, 0, 0), some (.aload_n 0, 1, 0, 0, 0), some (.getfield 11, 3, 7, 1, 2050), none, none, some (.aload_n 0, 1, 0, 0, 0), some (.getfield 17, 3, 7, 2, 2051), none, none, some (.aaload, 1, 0, 0, 0), some (.astore_n 2, 1, 0, 0, 0), some (.aload_n 2, 1, 0, 0, 0), some (.iconst 0, 1, 0, 0, 0), some (.iconst 0, 1, 0, 0, 0), some (.iconst 0, 1, 0, 0, 0)],
  [some (.iconst 0, 1, 0, 0, 0), some (.iconst 0, 1, 0, 0, 0), some (.iconst 0, 1, 0, 0, 0), some (.invokevirtual 65, 3, 38, 0, 3049), none, none, some (.aload_n 0, 1, 0, 0, 0), some (.aload_n 2, 1, 0, 0, 0), some (.invokevirtual 69, 3, 61, 0, 3050), none, none, some (.ifCond .eq 19, 3, 110, 0, 0), none, none, some (.aload_n 0, 1, 0, 0, 0), some (.aload_n 2, 1, 0, 0, 0)],
  [some (.invokevirtual 73, 3, 63, 0, 3062), none, none, some (.ifCond .eq 11, 3, 110, 0, 0), none, none, some (.aload_n 0, 1, 0, 0, 0), some (.aload_n 2, 1, 0, 0, 0), some (.invokevirtual 76, 3, 64, 0, 3070), none, none, some (.ifCond .ne 5, 3, 112, 0, 0), none, none, some (.iconst 0, 1, 0, 0, 0), some (.ireturn, 1, 0, 0, 0)],
  [some (.aload_n 0, 1, 0, 0, 0), some (.dup, 1, 0, 0, 0), some (.getfield 17, 3, 7, 2, 2051), none, none, some (.iconst 1, 1, 0, 0, 0), some (.iadd, 1, 0, 0, 0), some (.putfield 17, 3, 7, 2, 2051), none, none, some (.iconst 1, 1, 0, 0, 0), some (.ireturn, 1, 0, 0, 0)]]
def q_f61 : List (List (Option q_In)) := [[some (.aload_n 0, 1, 0, 0, 0), some (.bipush 32, 2, 0, 0, 0), none, some (.invokevirtual 46, 3, 68, 0, 3036), none, none, some (.ifCond .ne 5, 3, 11, 0, 0), none, none, some (.iconst 0, 1, 0, 0, 0), some (.ireturn, 1, 0, 0, 0), some (.aload_n 0, 1, 0, 0, 0), some (.getfield 28, 3, 7, 4, 2053), none, none, some (.istore_n 2, 1, 0, 0, 0)],
  [some (.iconst 0, 1, 0, 0, 0), some (.istore_n 3, 1, 0, 0, 0), some (.iload_n 3, 1, 0, 0, 0), some (.iconst 4, 1, 0, 0, 0), some (.if_icmp .ge 50, 3, 70, 0, 0), none, none, some (.aload_n 0, 1, 0, 0, 0), some (.invokevirtual 79, 3, 66, 0, 3040), none, none, some (.invokestatic 83, 3, 67, 0, 3054), none, none, some (.ifCond .eq 40, 3, 70, 0, 0), none],
  [none, some (.aload_n 1, 1, 0, 0, 0), some (.aload_n 1, 1, 0, 0, 0), some (.getfield 86, 3, 5, 5, 1059), none, none, some (.bipush 27, 2, 0, 0, 0), none, some (.imul, 1, 0, 0, 0), some (.aload_n 0, 1, 0, 0, 0), some (.invokevirtual 79, 3, 66, 0, 3040), none, none, some (.iadd, 1, 0, 0, 0), some (.bipush 97, 2, 0, 0, 0), none],
  [some (.isub, 1, 0, 0, 0), some (.iconst 1, 1, 0, 0, 0), some (.iadd, 1, 0, 0, 0), some (.putfield 86, 3, 5, 5, 1059), none, none, some (.aload_n 0, 1, 0, 0, 0), some (.dup, 1, 0, 0, 0), some (.getfield 28, 3, 7, 4, 2053), none, none, some (.iconst 1, 1, 0, 0, 0), some (.iadd, 1, 0, 0, 0), some (.putfield 28, 3, 7, 4, 2053), none, none],
  [some (.iinc 3 1, 3, 0, 0, 0), none, none, some (.goto (-49), 3, 18, 0, 0), none, none, some (.aload_n 0, 1, 0, 0, 0), some (.getfield 28, 3, 7, 4, 2053), none, none, some (.iload_n 2, 1, 0, 0, 0), some (.if_icmp .ne 12, 3, 87, 0, 0), none, none, some (.aload_n 0, 1, 0, 0, 0), some (.aload_n 0, 1, 0, 0, 0)],
  [some (.getfield 28, 3, 7, 4, 2053), none, none, some (.invokevirtual 62, 3, 70, 0, 3045), none, none, some (.ireturn, 1, 0, 0, 0), some (.aload_n 0, 1, 0, 0, 0), some (.bipush 32, 2, 0, 0, 0), none, some (.invokevirtual 46, 3, 68, 0, 3036), none, none, some (.ifCond .ne 5, 3, 98, 0, 0), none, none],
  [some (.iconst 0, 1, 0, 0, 0), some (.ireturn, 1, 0, 0, 0), some (.aload_n 0, 1, 0, 0, 0), some (.getfield 34, 3, 7, 0, 2049), none, none, some (.aload_n 1, 1, 0, 0, 0), some (.getfield 86, 3, 5, 5, 1059), none, none, some (.invokevirtual 89, 3, 22, 0, 3057), none, none, some (.ifCond .ne 14, 3, 123, 0, 0), none, none],
  [some (.aload_n 0, 1, 0, 0, 0), some (.aload_n 1, 1, 0, 0, 0), some (.getfield 86, 3, 5, 5, 1059), none, none, some (.invokevirtual 92, 3, 62, 0, 3058), none, none, some (.ifCond .eq 9, 3, 129, 0, 0), none, none, some (.aload_n 0, 1, 0, 0, 0), some (.iload_n 2, 1, 0, 0, 0), some (.invokevirtual 62, 3, 70, 0, 3045), none, none],
  [some (.ireturn, 1, 0, 0, 0), some (.iconst 1, 1, 0, 0, 0), some (.ireturn, 1, 0, 0, 0)]]
def q_f62 : List (List (Option q_In)) := [[some (.iconst 0, 1, 0, 0, 0), some (.istore_n 2, 1, 0, 0, 0), some (.iload_n 2, 1, 0, 0, 0), some (.aload_n 0, 1, 0, 0, 0), some (.getfield 17, 3, 7, 2, 2051), none, none, some (.if_icmp .ge 24, 3, 31, 0, 0), none, none, some (.aload_n 0, 1, 0, 0, 0), some (.getfield 11, 3, 7, 1, 2050), none, none, some (.iload_n 2, 1, 0, 0, 0), some (.aaload, 1, 0, 0, 0)],
  [some (.getfield 86, 3, 5, 5, 1059), none, none, some (.iload_n 1, 1, 0, 0, 0), some (.if_icmp .ne 5, 3, 25, 0, 0), none, none, some (.iconst 1, 1, 0, 0, 0), some (.ireturn, 1, 0, 0, 0), some (.iinc 2 1, 3, 0, 0, 0), none, none, some (.goto (-26), 3, 2, 0, 0), none, none, some (.iconst 0, 1, 0, 0, 0)],
  [some (.ireturn, 1, 0, 0, 0)]]
def q_f63 : List (List (Option q_In)) := [[some (.aload_n 1, 1, 0, 0, 0), some (.aload_n 0, 1, 0, 0, 0), some (.iconst 4, 1, 0, 0, 0), some (.invokevirtual 95, 3, 69, 0, 3066), none, none, some (.putfield 99, 3, 5, 0, 1042), none, none, some (.aload_n 1, 1, 0, 0, 0), some (.getfield 99, 3, 5, 0, 1042), none, none, some (.iconst (-1), 1, 0, 0, 0), some (.if_icmp .eq 12, 3, 26, 0, 0), none],
  [none, some (.aload_n 0, 1, 0, 0, 0), some (.bipush 32, 2, 0, 0, 0), none, some (.invokevirtual 46, 3, 68, 0, 3036), none, none, some (.ifCond .ne 5, 3, 28, 0, 0), none, none, some (.iconst 0, 1, 0, 0, 0), some (.ireturn, 1, 0, 0, 0), some (.aload_n 1, 1, 0, 0, 0), some (.aload_n 0, 1, 0, 0, 0), some (.bipush 9, 2, 0, 0, 0), none],
  [some (.invokevirtual 95, 3, 69, 0, 3066), none, none, some (.putfield 102, 3, 5, 1, 1045), none, none, some (.aload_n 1, 1, 0, 0, 0), some (.getfield 102, 3, 5, 1, 1045), none, none, some (.iconst (-1), 1, 0, 0, 0), some (.if_icmp .eq 7, 3, 50, 0, 0), none, none, some (.iconst 1, 1, 0, 0, 0), some (.goto 4, 3, 51, 0, 0)],
  [none, none, some (.iconst 0, 1, 0, 0, 0), some (.ireturn, 1, 0, 0, 0)]]
def q_f64 : List (List (Option q_In)) := [[some (.iconst 1, 1, 0, 0, 0), some (.istore_n 2, 1, 0, 0, 0), some (.iconst 0, 1, 0, 0, 0), some (.istore_n 3, 1, 0, 0, 0), some (.iload_n 3, 1, 0, 0, 0), some (.sipush 160, 3, 0, 0, 0), none, none, some (.if_icmp .ge 42, 3, 50, 0, 0), none, none, some (.iload_n 2, 1, 0, 0, 0), some (.ifCond .eq 38, 3, 50, 0, 0), none, none, some (.aload_n 0, 1, 0, 0, 0)],
  [some (.getfield 28, 3, 7, 4, 2053), none, none, some (.aload_n 0, 1, 0, 0, 0), some (.getfield 24, 3, 7, 3, 2052), none, none, some (.getfield 43, 3, 6, 2, 2034), none, none, some (.if_icmp .ge 24, 3, 50, 0, 0), none, none, some (.aload_n 0, 1, 0, 0, 0), some (.invokevirtual 79, 3, 66, 0, 3040), none],
  [none, some (.bipush 59, 2, 0, 0, 0), none, some (.if_icmp .eq 15, 3, 50, 0, 0), none, none, some (.aload_n 0, 1, 0, 0, 0), some (.aload_n 1, 1, 0, 0, 0), some (.invokevirtual 105, 3, 65, 0, 3074), none, none, some (.istore_n 2, 1, 0, 0, 0), some (.iinc 3 1, 3, 0, 0, 0), none, none, some (.goto (-43), 3, 4, 0, 0)],
  [none, none, some (.iload_n 2, 1, 0, 0, 0), some (.ireturn, 1, 0, 0, 0)]]
def q_f65 : List (List (Option q_In)) := [[some (.aload_n 0, 1, 0, 0, 0), some (.invokevirtual 79, 3, 66, 0, 3040), none, none, some (.istore_n 2, 1, 0, 0, 0), some (.iload_n 2, 1, 0, 0, 0), some (.bipush 33, 2, 0, 0, 0), none, some (.if_icmp .ne 34, 3, 42, 0, 0), none, none, some (.aload_n 1, 1, 0, 0, 0), some (.getfield 108, 3, 5, 4, 1055), none, none, some (.bipush 9, 2, 0, 0, 0)],
  [none, some (.if_icmp .ge 25, 3, 42, 0, 0), none, none, some (.aload_n 1, 1, 0, 0, 0), some (.dup, 1, 0, 0, 0), some (.getfield 108, 3, 5, 4, 1055), none, none, some (.iconst 1, 1, 0, 0, 0), some (.iadd, 1, 0, 0, 0), some (.putfield 108, 3, 5, 4, 1055), none, none, some (.aload_n 0, 1, 0, 0, 0), some (.dup, 1, 0, 0, 0)],
  [some (.getfield 28, 3, 7, 4, 2053), none, none, some (.iconst 1, 1, 0, 0, 0), some (.iadd, 1, 0, 0, 0), some (.putfield 28, 3, 7, 4, 2053), none, none, some (.iconst 1, 1, 0, 0, 0), some (.ireturn, 1, 0, 0, 0), some (.iload_n 2, 1, 0, 0, 0), some (.bipush 45, 2, 0, 0, 0), none, some (.if_icmp .eq 18, 3, 63, 0, 0), none, none],
  [some (.iload_n 2, 1, 0, 0, 0), some (.bipush 43, 2, 0, 0, 0), none, some (.if_icmp .eq 12, 3, 63, 0, 0), none, none, some (.aload_n 0, 1, 0, 0, 0), some (.aload_n 0, 1, 0, 0, 0), some (.getfield 28, 3, 7, 4, 2053), none, none, some (.invokevirtual 62, 3, 70, 0, 3045), none, none, some (.ireturn, 1, 0, 0, 0), some (.aload_n 0, 1, 0, 0, 0)],
  [some (.dup, 1, 0, 0, 0), some (.getfield 28, 3, 7, 4, 2053), none, none, some (.iconst 1, 1, 0, 0, 0), some (.iadd, 1, 0, 0, 0), some (.putfield 28, 3, 7, 4, 2053), none, none, some (.aload_n 0, 1, 0, 0, 0), some (.bipush 7, 2, 0, 0, 0), none, some (.invokevirtual 95, 3, 69, 0, 3066), none, none, some (.istore_n 3, 1, 0, 0, 0)],
  [some (.iload_n 3, 1, 0, 0, 0), some (.iconst (-1), 1, 0, 0, 0), some (.if_icmp .ne 5, 3, 87, 0, 0), none, none, some (.iconst 0, 1, 0, 0, 0), some (.ireturn, 1, 0, 0, 0), some (.iload_n 2, 1, 0, 0, 0), some (.bipush 45, 2, 0, 0, 0), none, some (.if_icmp .ne 18, 3, 108, 0, 0), none, none, some (.aload_n 1, 1, 0, 0, 0), some (.dup, 1, 0, 0, 0), some (.getfield 111, 3, 5, 2, 1048)],
  [none, none, some (.iconst 1, 1, 0, 0, 0), some (.iload_n 3, 1, 0, 0, 0), some (.ishl, 1, 0, 0, 0), some (.ior, 1, 0, 0, 0), some (.putfield 111, 3, 5, 2, 1048), none, none, some (.goto 15, 3, 120, 0, 0), none, none, some (.aload_n 1, 1, 0, 0, 0), some (.dup, 1, 0, 0, 0), some (.getfield 114, 3, 5, 3, 1051), none],
  [none, some (.iconst 1, 1, 0, 0, 0), some (.iload_n 3, 1, 0, 0, 0), some (.ishl, 1, 0, 0, 0), some (.ior, 1, 0, 0, 0), some (.putfield 114, 3, 5, 3, 1051), none, none, some (.iconst 1, 1, 0, 0, 0), some (.ireturn, 1, 0, 0, 0)]]
def q_f66 : List (List (Option q_In)) := [[some (.aload_n 0, 1, 0, 0, 0), some (.getfield 24, 3, 7, 3, 2052), none, none, some (.aload_n 0, 1, 0, 0, 0), some (.getfield 28, 3, 7, 4, 2053), none, none, some (.invokevirtual 117, 3, 52, 0, 3044), none, none, some (.ifCond .eq 19, 3, 30, 0, 0), none, none, some (.aload_n 0, 1, 0, 0, 0), some (.getfield 24, 3, 7, 3, 2052)],
  [none, none, some (.getfield 120, 3, 6, 0, 2030), none, none, some (.aload_n 0, 1, 0, 0, 0), some (.getfield 28, 3, 7, 4, 2053), none, none, some (.laload, 1, 0, 0, 0), some (.l2i, 1, 0, 0, 0), some (.goto 4, 3, 31, 0, 0), none, none, some (.iconst (-1), 1, 0, 0, 0), some (.ireturn, 1, 0, 0, 0)]]
def q_f67 : List (List (Option q_In)) := [[some (.iload_n 0, 1, 0, 0, 0), some (.bipush 97, 2, 0, 0, 0), none, some (.if_icmp .lt 13, 3, 16, 0, 0), none, none, some (.iload_n 0, 1, 0, 0, 0), some (.bipush 123, 2, 0, 0, 0), none, some (.if_icmp .ge 7, 3, 16, 0, 0), none, none, some (.iconst 1, 1, 0, 0, 0), some (.goto 4, 3, 17, 0, 0), none, none],
  [some (.iconst 0, 1, 0, 0, 0), some (.ireturn, 1, 0, 0, 0)]]
def q_f68 : List (List (Option q_In)) := [[some (.aload_n 0, 1, 0, 0, 0), some (.invokevirtual 79, 3, 66, 0, 3040), none, none, some (.iload_n 1, 1, 0, 0, 0), some (.if_icmp .eq 12, 3, 17, 0, 0), none, none, some (.aload_n 0, 1, 0, 0, 0), some (.aload_n 0, 1, 0, 0, 0), some (.getfield 28, 3, 7, 4, 2053), none, none, some (.invokevirtual 62, 3, 70, 0, 3045), none, none],
  [some (.ireturn, 1, 0, 0, 0), some (.aload_n 0, 1, 0, 0, 0), some (.dup, 1, 0, 0, 0), some (.getfield 28, 3, 7, 4, 2053), none, none, some (.iconst 1, 1, 0, 0, 0), some (.iadd, 1, 0, 0, 0), some (.putfield 28, 3, 7, 4, 2053), none, none, some (.iconst 1, 1, 0, 0, 0), some (.ireturn, 1, 0, 0, 0)]]
def q_f69 : List (List (Option q_In)) := [[some (.aload_n 0, 1, 0, 0, 0), some (.invokevirtual 79, 3, 66, 0, 3040), none, none, some (.bipush 48, 2, 0, 0, 0), none, some (.isub, 1, 0, 0, 0), some (.istore_n 2, 1, 0, 0, 0), some (.iload_n 2, 1, 0, 0, 0), some (.ifCond .lt 8, 3, 17, 0, 0), none, none, some (.iload_n 2, 1, 0, 0, 0), some (.iload_n 1, 1, 0, 0, 0), some (.if_icmp .le 14, 3, 28, 0, 0), none],
  [none, some (.aload_n 0, 1, 0, 0, 0), some (.aload_n 0, 1, 0, 0, 0), some (.getfield 28, 3, 7, 4, 2053), none, none, some (.invokevirtual 62, 3, 70, 0, 3045), none, none, some (.pop, 1, 0, 0, 0), some (.iconst (-1), 1, 0, 0, 0), some (.ireturn, 1, 0, 0, 0), some (.aload_n 0, 1, 0, 0, 0), some (.dup, 1, 0, 0, 0), some (.getfield 28, 3, 7, 4, 2053), none],
  [none, some (.iconst 1, 1, 0, 0, 0), some (.iadd, 1, 0, 0, 0), some (.putfield 28, 3, 7, 4, 2053), none, none, some (.iload_n 2, 1, 0, 0, 0), some (.ireturn, 1, 0, 0, 0)]]
def q_f70 : List (List (Option q_In)) := [[some (.aload_n 0, 1, 0, 0, 0), some (.iload_n 1, 1, 0, 0, 0), some (.putfield 31, 3, 7, 5, 2054), none, none, some (.iconst 0, 1, 0, 0, 0), some (.ireturn, 1, 0, 0, 0)]]
def q_f71 : List (List (Option q_In)) := [[some (.aload_n 0, 1, 0, 0, 0), some (.invokespecial 3, 3, 300, 0, 1209), none, none, some (.aload_n 0, 1, 0, 0, 0), some (.bipush 12, 2, 0, 0, 0), none, some (.newarray .int, 2, 0, 0, 1203), none, some (.putfield 9, 3, 8, 1, 1211), none, none, some (.aload_n 0, 1, 0, 0, 0), some (.aload_n 1, 1, 0, 0, 0), some (.putfield 15, 3, 8, 0, 1210), none],
  [none, some (.return_, 1, 0, 0, 0)]]
def q_f72 : List (List (Option q_In)) := [[some (.aload_n 0, 1, 0, 0, 0), some (.getfield 9, 3, 8, 1, 1211), none, none, some (.iconst (-1), 1, 0, 0, 0), some (.invokestatic 19, 3, 225, 0, 3215), none, none, some (.aload_n 0, 1, 0, 0, 0), some (.getfield 15, 3, 8, 0, 1210), none, none, some (.iload_n 1, 1, 0, 0, 0), some (.invokevirtual 25, 3, 21, 0, 3218), none, none],
  [some (.ifCond .ne 5, 3, 21, 0, 0), none, none, some (.iconst 0, 1, 0, 0, 0), some (.ireturn, 1, 0, 0, 0), some (.aload_n 0, 1, 0, 0, 0), some (.getfield 9, 3, 8, 1, 1211), none, none, some (.iload_n 1, 1, 0, 0, 0), some (.iconst 0, 1, 0, 0, 0), some (.iastore, 1, 0, 0, 0), some (.iconst 1, 1, 0, 0, 0), some (.istore_n 2, 1, 0, 0, 0), some (.iconst 1, 1, 0, 0, 0), some (.istore_n 3, 1, 0, 0, 0)],
  [some (.iconst 1, 1, 0, 0, 0), some (.istore 4, 2, 0, 0, 0), none, some (.iload 4, 2, 0, 0, 0), none, some (.bipush 12, 2, 0, 0, 0), none, some (.if_icmp .gt 24, 3, 63, 0, 0), none, none, some (.iload_n 3, 1, 0, 0, 0), some (.ifCond .le 20, 3, 63, 0, 0), none, none, some (.aload_n 0, 1, 0, 0, 0), some (.iload 4, 2, 0, 0, 0)],
  [none, some (.invokevirtual 31, 3, 73, 0, 3219), none, none, some (.istore_n 3, 1, 0, 0, 0), some (.iload_n 2, 1, 0, 0, 0), some (.iload_n 3, 1, 0, 0, 0), some (.iadd, 1, 0, 0, 0), some (.istore_n 2, 1, 0, 0, 0), some (.iinc 4 1, 3, 0, 0, 0), none, none, some (.goto (-25), 3, 35, 0, 0), none, none, some (.iload_n 2, 1, 0, 0, 0)],
  [some (.ireturn, 1, 0, 0, 0)]]
def q_f73 : List (List (Option q_In)) := [[some (.aload_n 0, 1, 0, 0, 0), some (.invokevirtual 35, 3, 74, 0, 3223), none, none, some (.istore_n 2, 1, 0, 0, 0), some (.iconst 0, 1, 0, 0, 0), some (.istore_n 3, 1, 0, 0, 0), some (.iconst 0, 1, 0, 0, 0), some (.istore 4, 2, 0, 0, 0), none, some (.iload 4, 2, 0, 0, 0), none, some (.aload_n 0, 1, 0, 0, 0), some (.getfield 15, 3, 8, 0, 1210), none, none],
  [some (.getfield 39, 3, 3, 2, 1143), none, none, some (.if_icmp .ge 39, 3, 58, 0, 0), none, none, some (.iload_n 2, 1, 0, 0, 0), some (.iload 4, 2, 0, 0, 0), none, some (.ishr, 1, 0, 0, 0), some (.iconst 1, 1, 0, 0, 0), some (.iand, 1, 0, 0, 0), some (.ifCond .eq 24, 3, 52, 0, 0), none, none, some (.aload_n 0, 1, 0, 0, 0)],
  [some (.iload 4, 2, 0, 0, 0), none, some (.iload_n 2, 1, 0, 0, 0), some (.invokevirtual 43, 3, 75, 0, 3227), none, none, some (.ifCond .eq 14, 3, 52, 0, 0), none, none, some (.aload_n 0, 1, 0, 0, 0), some (.getfield 9, 3, 8, 1, 1211), none, none, some (.iload 4, 2, 0, 0, 0), none, some (.iload_n 1, 1, 0, 0, 0)],
  [some (.iastore, 1, 0, 0, 0), some (.iinc 3 1, 3, 0, 0, 0), none, none, some (.iinc 4 1, 3, 0, 0, 0), none, none, some (.goto (-45), 3, 10, 0, 0), none, none, some (.iload_n 3, 1, 0, 0, 0), some (.ireturn, 1, 0, 0, 0)]]
def q_f74 : List (List (Option q_In)) := [[some (.iconst 0, 1, 0, 0, 0), some (.istore_n 1, 1, 0, 0, 0), some (.iconst 0, 1, 0, 0, 0), some (.istore_n 2, 1, 0, 0, 0), some (.iload_n 2, 1, 0, 0, 0), some (.aload_n 0, 1, 0, 0, 0), some (.getfield 15, 3, 8, 0, 1210), none, none, some (.getfield 39, 3, 3, 2, 1143), none, none, some (.if_icmp .ge 36, 3, 48, 0, 0), none, none, some (.aload_n 0, 1, 0, 0, 0)],
  [some (.getfield 9, 3, 8, 1, 1211), none, none, some (.iload_n 2, 1, 0, 0, 0), some (.iaload, 1, 0, 0, 0), some (.iconst (-1), 1, 0, 0, 0), some (.if_icmp .ne 20, 3, 42, 0, 0), none, none, some (.aload_n 0, 1, 0, 0, 0), some (.getfield 15, 3, 8, 0, 1210), none, none, some (.iload_n 2, 1, 0, 0, 0), some (.invokevirtual 25, 3, 21, 0, 3218), none],
  [none, some (.ifCond .eq 9, 3, 42, 0, 0), none, none, some (.iload_n 1, 1, 0, 0, 0), some (.iconst 1, 1, 0, 0, 0), some (.iload_n 2, 1, 0, 0, 0), some (.ishl, 1, 0, 0, 0), some (.ior, 1, 0, 0, 0), some (.istore_n 1, 1, 0, 0, 0), some (.iinc 2 1, 3, 0, 0, 0), none, none, some (.goto (-41), 3, 4, 0, 0), none, none],
  [some (.iload_n 1, 1, 0, 0, 0), some (.ireturn, 1, 0, 0, 0)]]
def q_f75 : List (List (Option q_In)) := [[some (.iload_n 2, 1, 0, 0, 0), some (.aload_n 0, 1, 0, 0, 0), some (.getfield 15, 3, 8, 0, 1210), none, none, some (.iload_n 1, 1, 0, 0, 0), some (.invokevirtual 47, 3, 25, 0, 3231), none, none, some (.iand, 1, 0, 0, 0), some (.istore_n 3, 1, 0, 0, 0), some (.iconst 0, 1, 0, 0, 0), some (.istore 4, 2, 0, 0, 0), none, some (.iload 4, 2, 0, 0, 0), none],
  [some (.bipush 8, 2, 0, 0, 0), none, some (.if_icmp .ge 41, 3, 59, 0, 0), none, none, some (.aload_n 0, 1, 0, 0, 0), some (.getfield 15, 3, 8, 0, 1210), none, none, some (.getfield 50, 3, 3, 0, 1135), none, none, some (.iload_n 1, 1, 0, 0, 0), some (.aaload, 1, 0, 0, 0), some (.iload 4, 2, 0, 0, 0), none],
  [some (.invokevirtual 54, 3, 40, 0, 3232), none, none, some (.ifCond .eq 18, 3, 53, 0, 0), none, none, some (.aload_n 0, 1, 0, 0, 0), some (.getfield 15, 3, 8, 0, 1210), none, none, some (.iload 4, 2, 0, 0, 0), none, some (.iload_n 3, 1, 0, 0, 0), some (.invokevirtual 59, 3, 26, 0, 3233), none, none],
  [some (.ifCond .ne 5, 3, 53, 0, 0), none, none, some (.iconst 1, 1, 0, 0, 0), some (.ireturn, 1, 0, 0, 0), some (.iinc 4 1, 3, 0, 0, 0), none, none, some (.goto (-42), 3, 14, 0, 0), none, none, some (.iconst 0, 1, 0, 0, 0), some (.ireturn, 1, 0, 0, 0)]]
def q_f76 : List (List (Option q_In)) := [[some (.iconst (-1), 1, 0, 0, 0), some (.istore_n 1, 1, 0, 0, 0), some (.iconst 0, 1, 0, 0, 0), some (.istore_n 2, 1, 0, 0, 0), some (.iload_n 2, 1, 0, 0, 0), some (.aload_n 0, 1, 0, 0, 0), some (.getfield 15, 3, 8, 0, 1210), none, none, some (.getfield 39, 3, 3, 2, 1143), none, none, some (.if_icmp .ge 64, 3, 76, 0, 0), none, none, some (.aload_n 0, 1, 0, 0, 0)],
  [some (.getfield 15, 3, 8, 0, 1210), none, none, some (.iload_n 2, 1, 0, 0, 0), some (.invokevirtual 25, 3, 21, 0, 3218), none, none, some (.ifCond .eq 47, 3, 70, 0, 0), none, none, some (.aload_n 0, 1, 0, 0, 0), some (.getfield 9, 3, 8, 1, 1211), none, none, some (.iload_n 2, 1, 0, 0, 0), some (.iaload, 1, 0, 0, 0)],
  [some (.iconst (-1), 1, 0, 0, 0), some (.if_icmp .eq 37, 3, 70, 0, 0), none, none, some (.iload_n 1, 1, 0, 0, 0), some (.iconst (-1), 1, 0, 0, 0), some (.if_icmp .eq 30, 3, 68, 0, 0), none, none, some (.aload_n 0, 1, 0, 0, 0), some (.getfield 15, 3, 8, 0, 1210), none, none, some (.getfield 50, 3, 3, 0, 1135), none, none],
  [some (.iload_n 1, 1, 0, 0, 0), some (.aaload, 1, 0, 0, 0), some (.getfield 63, 3, 5, 10, 1075), none, none, some (.aload_n 0, 1, 0, 0, 0), some (.getfield 15, 3, 8, 0, 1210), none, none, some (.getfield 50, 3, 3, 0, 1135), none, none, some (.iload_n 2, 1, 0, 0, 0), some (.aaload, 1, 0, 0, 0), some (.getfield 63, 3, 5, 10, 1075), none],
  [none, some (.if_icmp .ge 5, 3, 70, 0, 0), none, none, some (.iload_n 2, 1, 0, 0, 0), some (.istore_n 1, 1, 0, 0, 0), some (.iinc 2 1, 3, 0, 0, 0), none, none, some (.goto (-69), 3, 4, 0, 0), none, none, some (.iload_n 1, 1, 0, 0, 0), some (.ireturn, 1, 0, 0, 0)]]
def q_f77 : List (List (Option q_In)) := [[some (.aload_n 0, 1, 0, 0, 0), some (.invokespecial 1, 3, 300, 0, 1021), none, none, some (.aload_n 0, 1, 0, 0, 0), some (.bipush 8, 2, 0, 0, 0), none, some (.anewarray 9, 3, 6, 0, 1024), none, none, some (.putfield 11, 3, 9, 0, 2083), none, none, some (.aload_n 0, 1, 0, 0, 0), some (.new 15, 3, 3, 0, 1026), none],
  [none, some (.dup, 1, 0, 0, 0), some (.invokespecial 17, 3, 18, 0, 1028), none, none, some (.putfield 18, 3, 9, 1, 2084), none, none, some (.aload_n 0, 1, 0, 0, 0), some (.new 15, 3, 3, 0, 1026), none, none, some (.dup, 1, 0, 0, 0), some (.invokespecial 17, 3, 18, 0, 1028), none, none],
  [some (.putfield 22, 3, 9, 2, 2085), none, none, some (.aload_n 0, 1, 0, 0, 0), some (.iconst 0, 1, 0, 0, 0), some (.putfield 25, 3, 9, 3, 2086), none, none, some (.aload_n 0, 1, 0, 0, 0), some (.new 29, 3, 4, 0, 1167), none, none, some (.dup, 1, 0, 0, 0), some (.aload_n 0, 1, 0, 0, 0), some (.getfield 18, 3, 9, 1, 2084), none],
  [none, some (.invokespecial 31, 3, 30, 0, 1169), none, none, some (.putfield 34, 3, 9, 4, 2087), none, none, some (.aload_n 0, 1, 0, 0, 0), some (.new 38, 3, 8, 0, 1204), none, none, some (.dup, 1, 0, 0, 0), some (.aload_n 0, 1, 0, 0, 0), some (.getfield 18, 3, 9, 1, 2084), none, none],
  [some (.invokespecial 40, 3, 71, 0, 1206), none, none, some (.putfield 41, 3, 9, 5, 2088), none, none, some (.aload_n 0, 1, 0, 0, 0), some (.new 45, 3, 1, 0, 1218), none, none, some (.dup, 1, 0, 0, 0), some (.aload_n 0, 1, 0, 0, 0), some (.getfield 18, 3, 9, 1, 2084), none, none, some (.invokespecial 47, 3, 3, 0, 1220)],
  [none, none, some (.putfield 48, 3, 9, 6, 2089), none, none, some (.aload_n 0, 1, 0, 0, 0), some (.new 45, 3, 1, 0, 1218), none, none, some (.dup, 1, 0, 0, 0), some (.aload_n 0, 1, 0, 0, 0), some (.getfield 18, 3, 9, 1, 2084), none, none, some (.invokespecial 47, 3, 3, 0, 1220), none],
  [none, some (.putfield 52, 3, 9, 7, 2090), none, none, some (.aload_n 0, 1, 0, 0, 0), some (.new 55, 3, 7, 0, 2015), none, none, some (.dup, 1, 0, 0, 0), some (.aload_n 0, 1, 0, 0, 0), some (.getfield 18, 3, 9, 1, 2084), none, none, some (.invokespecial 57, 3, 57, 0, 2017), none, none],
  [some (.putfield 58, 3, 9, 8, 2091), none, none, some (.aload_n 0, 1, 0, 0, 0), some (.new 62, 3, 0, 0, 2068), none, none, some (.dup, 1, 0, 0, 0), some (.invokespecial 64, 3, 0, 1, 2070), none, none, some (.putfield 65, 3, 9, 9, 2092), none, none, some (.aload_n 0, 1, 0, 0, 0), some (.bipush 36, 2, 0, 0, 0)],
  [none, some (.newarray .int, 2, 0, 0, 1203), none, some (.putfield 69, 3, 9, 10, 2093), none, none, some (.aload_n 0, 1, 0, 0, 0), some (.iconst 0, 1, 0, 0, 0), some (.putfield 73, 3, 9, 11, 2094), none, none, some (.aload_n 0, 1, 0, 0, 0), some (.iconst (-1), 1, 0, 0, 0), some (.putfield 77, 3, 9, 12, 2095), none, none],
  [some (.aload_n 0, 1, 0, 0, 0), some (.bipush 8, 2, 0, 0, 0), none, some (.newarray .int, 2, 0, 0, 1203), none, some (.putfield 80, 3, 9, 13, 2096), none, none, some (.iconst 0, 1, 0, 0, 0), some (.istore_n 1, 1, 0, 0, 0), some (.iload_n 1, 1, 0, 0, 0), some (.bipush 8, 2, 0, 0, 0), none, some (.if_icmp .ge 22, 3, 179, 0, 0), none, none],
  [some (.aload_n 0, 1, 0, 0, 0), some (.getfield 11, 3, 9, 0, 2083), none, none, some (.iload_n 1, 1, 0, 0, 0), some (.new 9, 3, 6, 0, 1024), none, none, some (.dup, 1, 0, 0, 0), some (.invokespecial 83, 3, 46, 1, 2082), none, none, some (.aastore, 1, 0, 0, 0), some (.iinc 1 1, 3, 0, 0, 0), none, none],
  [some (.goto (-22), 3, 154, 0, 0), none, none, some (.return_, 1, 0, 0, 0)]]
def q_f78 : List (List (Option q_In)) := [[some (.iload_n 1, 1, 0, 0, 0), some (.invokestatic 84, 3, 121, 0, 2130), none, none, some (.ifCond .ne 9, 3, 13, 0, 0), none, none, some (.aload_n 0, 1, 0, 0, 0), some (.iconst (-1), 1, 0, 0, 0), some (.invokevirtual 88, 3, 117, 0, 2136), none, none, some (.ireturn, 1, 0, 0, 0), some (.iload_n 3, 1, 0, 0, 0), some (.ifCond .ge 10, 3, 24, 0, 0), none],
  [none, some (.aload_n 0, 1, 0, 0, 0), some (.bipush (-4), 2, 0, 0, 0), none, some (.invokevirtual 88, 3, 117, 0, 2136), none, none, some (.ireturn, 1, 0, 0, 0), some (.iload_n 2, 1, 0, 0, 0), some (.iconst 4, 1, 0, 0, 0), some (.invokestatic 92, 3, 119, 0, 2133), none, none, some (.ifCond .ne 10, 3, 39, 0, 0), none, none],
  [some (.aload_n 0, 1, 0, 0, 0), some (.bipush (-6), 2, 0, 0, 0), none, some (.invokevirtual 88, 3, 117, 0, 2136), none, none, some (.ireturn, 1, 0, 0, 0), some (.iload_n 3, 1, 0, 0, 0), some (.sipush 160, 3, 0, 0, 0), none, none, some (.if_icmp .le 10, 3, 53, 0, 0), none, none, some (.aload_n 0, 1, 0, 0, 0), some (.bipush (-7), 2, 0, 0, 0)],
  [none, some (.invokevirtual 88, 3, 117, 0, 2136), none, none, some (.ireturn, 1, 0, 0, 0), some (.aload_n 0, 1, 0, 0, 0), some (.getfield 11, 3, 9, 0, 2083), none, none, some (.iload_n 1, 1, 0, 0, 0), some (.aaload, 1, 0, 0, 0), some (.iload_n 2, 1, 0, 0, 0), some (.iload_n 3, 1, 0, 0, 0), some (.invokevirtual 96, 3, 47, 0, 2140), none, none],
  [some (.iconst 1, 1, 0, 0, 0), some (.ireturn, 1, 0, 0, 0)]]
def q_f79 : List (List (Option q_In)) := [[some (.aload_n 0, 1, 0, 0, 0), some (.iload_n 1, 1, 0, 0, 0), some (.invokevirtual 100, 3, 122, 0, 2151), none, none, some (.istore 5, 2, 0, 0, 0), none, some (.iload 5, 2, 0, 0, 0), none, some (.ifCond .eq 10, 3, 19, 0, 0), none, none, some (.aload_n 0, 1, 0, 0, 0), some (.iload 5, 2, 0, 0, 0), none, some (.invokevirtual 88, 3, 117, 0, 2136)],
  [none, none, some (.ireturn, 1, 0, 0, 0), some (.aload_n 0, 1, 0, 0, 0), some (.getfield 11, 3, 9, 0, 2083), none, none, some (.iload_n 1, 1, 0, 0, 0), some (.aaload, 1, 0, 0, 0), some (.iload_n 2, 1, 0, 0, 0), some (.invokevirtual 103, 3, 52, 0, 2163), none, none, some (.ifCond .ne 10, 3, 39, 0, 0), none, none],
  [some (.aload_n 0, 1, 0, 0, 0), some (.bipush (-5), 2, 0, 0, 0), none, some (.invokevirtual 88, 3, 117, 0, 2136), none, none, some (.ireturn, 1, 0, 0, 0), some (.aload_n 0, 1, 0, 0, 0), some (.getfield 11, 3, 9, 0, 2083), none, none, some (.iload_n 1, 1, 0, 0, 0), some (.aaload, 1, 0, 0, 0), some (.iload_n 2, 1, 0, 0, 0), some (.lload_n 3, 1, 0, 0, 0), some (.invokevirtual 106, 3, 55, 0, 2167)],
  [none, none, some (.iconst 1, 1, 0, 0, 0), some (.ireturn, 1, 0, 0, 0)]]
def q_f80 : List (List (Option q_In)) := [[some (.aload_n 0, 1, 0, 0, 0), some (.iload_n 1, 1, 0, 0, 0), some (.iload_n 2, 1, 0, 0, 0), some (.invokevirtual 110, 3, 123, 0, 2180), none, none, some (.istore 6, 2, 0, 0, 0), none, some (.iload 6, 2, 0, 0, 0), none, some (.ifCond .eq 10, 3, 20, 0, 0), none, none, some (.aload_n 0, 1, 0, 0, 0), some (.iload 6, 2, 0, 0, 0), none],
  [some (.invokevirtual 88, 3, 117, 0, 2136), none, none, some (.ireturn, 1, 0, 0, 0), some (.iload 5, 2, 0, 0, 0), none, some (.ifCond .ge 10, 3, 32, 0, 0), none, none, some (.aload_n 0, 1, 0, 0, 0), some (.bipush (-4), 2, 0, 0, 0), none, some (.invokevirtual 88, 3, 117, 0, 2136), none, none, some (.ireturn, 1, 0, 0, 0)],
  [some (.aload_n 0, 1, 0, 0, 0), some (.getfield 11, 3, 9, 0, 2083), none, none, some (.iload_n 1, 1, 0, 0, 0), some (.aaload, 1, 0, 0, 0), some (.astore 7, 2, 0, 0, 0), none, some (.aload_n 0, 1, 0, 0, 0), some (.getfield 11, 3, 9, 0, 2083), none, none, some (.iload_n 2, 1, 0, 0, 0), some (.aaload, 1, 0, 0, 0), some (.astore 8, 2, 0, 0, 0), none],
  [some (.aload 7, 2, 0, 0, 0), none, some (.iload_n 3, 1, 0, 0, 0), some (.iload 5, 2, 0, 0, 0), none, some (.invokevirtual 114, 3, 53, 0, 2184), none, none, some (.ifCond .eq 15, 3, 71, 0, 0), none, none, some (.aload 8, 2, 0, 0, 0), none, some (.iload 4, 2, 0, 0, 0), none, some (.iload 5, 2, 0, 0, 0)],
  [none, some (.invokevirtual 114, 3, 53, 0, 2184), none, none, some (.ifCond .ne 10, 3, 78, 0, 0), none, none, some (.aload_n 0, 1, 0, 0, 0), some (.bipush (-5), 2, 0, 0, 0), none, some (.invokevirtual 88, 3, 117, 0, 2136), none, none, some (.ireturn, 1, 0, 0, 0), some (.aload 7, 2, 0, 0, 0), none],
  [some (.getfield 117, 3, 6, 0, 2029), none, none, some (.iload_n 3, 1, 0, 0, 0), some (.aload 8, 2, 0, 0, 0), none, some (.getfield 117, 3, 6, 0, 2029), none, none, some (.iload 4, 2, 0, 0, 0), none, some (.iload 5, 2, 0, 0, 0), none, some (.invokestatic 121, 3, 301, 0, 2188), none, none],
  [some (.iconst 1, 1, 0, 0, 0), some (.ireturn, 1, 0, 0, 0)]]
def q_f81 : List (List (Option q_In)) := [[some (.aload_n 0, 1, 0, 0, 0), some (.iload_n 1, 1, 0, 0, 0), some (.invokevirtual 100, 3, 122, 0, 2151), none, none, some (.ifCond .ne 16, 3, 21, 0, 0), none, none, some (.aload_n 0, 1, 0, 0, 0), some (.getfield 11, 3, 9, 0, 2083), none, none, some (.iload_n 1, 1, 0, 0, 0), some (.aaload, 1, 0, 0, 0), some (.iload_n 2, 1, 0, 0, 0), some (.invokevirtual 103, 3, 52, 0, 2163)],
  [none, none, some (.ifCond .ne 5, 3, 23, 0, 0), none, none, some (.lconst 0, 1, 0, 0, 0), some (.lreturn, 1, 0, 0, 0), some (.aload_n 0, 1, 0, 0, 0), some (.getfield 11, 3, 9, 0, 2083), none, none, some (.iload_n 1, 1, 0, 0, 0), some (.aaload, 1, 0, 0, 0), some (.getfield 117, 3, 6, 0, 2029), none, none],
  [some (.iload_n 2, 1, 0, 0, 0), some (.laload, 1, 0, 0, 0), some (.lreturn, 1, 0, 0, 0)]]
def q_f82 : List (List (Option q_In)) := [[some (.iload_n 1, 1, 0, 0, 0), some (.invokestatic 84, 3, 121, 0, 2130), none, none, some (.ifCond .eq 19, 3, 23, 0, 0), none, none, some (.iload_n 2, 1, 0, 0, 0), some (.iconst (-1), 1, 0, 0, 0), some (.if_icmp .eq 20, 3, 29, 0, 0), none, none, some (.aload_n 0, 1, 0, 0, 0), some (.getfield 18, 3, 9, 1, 2084), none, none],
  [some (.iload_n 2, 1, 0, 0, 0), some (.invokevirtual 127, 3, 20, 0, 2199), none, none, some (.ifCond .ne 9, 3, 29, 0, 0), none, none, some (.aload_n 0, 1, 0, 0, 0), some (.iconst (-1), 1, 0, 0, 0), some (.invokevirtual 88, 3, 117, 0, 2136), none, none, some (.ireturn, 1, 0, 0, 0), some (.iload_n 2, 1, 0, 0, 0), some (.iconst (-1), 1, 0, 0, 0), some (.if_icmp .ne 14, 3, 45, 0, 0)],
  [none, none, some (.aload_n 0, 1, 0, 0, 0), some (.getfield 11, 3, 9, 0, 2083), none, none, some (.iload_n 1, 1, 0, 0, 0), some (.aaload, 1, 0, 0, 0), some (.invokevirtual 130, 3, 49, 0, 2203), none, none, some (.iconst 0, 1, 0, 0, 0), some (.ireturn, 1, 0, 0, 0), some (.aload_n 0, 1, 0, 0, 0), some (.getfield 11, 3, 9, 0, 2083), none],
  [none, some (.iload_n 1, 1, 0, 0, 0), some (.aaload, 1, 0, 0, 0), some (.iload_n 2, 1, 0, 0, 0), some (.invokevirtual 133, 3, 48, 0, 2207), none, none, some (.iconst 1, 1, 0, 0, 0), some (.ireturn, 1, 0, 0, 0)]]
def q_f83 : List (List (Option q_In)) := [[some (.iload_n 1, 1, 0, 0, 0), some (.invokestatic 84, 3, 121, 0, 2130), none, none, some (.ifCond .ne 5, 3, 9, 0, 0), none, none, some (.iconst (-1), 1, 0, 0, 0), some (.ireturn, 1, 0, 0, 0), some (.aload_n 0, 1, 0, 0, 0), some (.getfield 11, 3, 9, 0, 2083), none, none, some (.iload_n 1, 1, 0, 0, 0), some (.aaload, 1, 0, 0, 0), some (.astore_n 2, 1, 0, 0, 0)],
  [some (.aload_n 2, 1, 0, 0, 0), some (.invokevirtual 137, 3, 50, 0, 2159), none, none, some (.ifCond .eq 13, 3, 33, 0, 0), none, none, some (.bipush 100, 2, 0, 0, 0), none, some (.aload_n 2, 1, 0, 0, 0), some (.getfield 141, 3, 6, 1, 2032), none, none, some (.iadd, 1, 0, 0, 0), some (.goto 7, 3, 37, 0, 0), none],
  [none, some (.aload_n 2, 1, 0, 0, 0), some (.getfield 144, 3, 6, 3, 2037), none, none, some (.ireturn, 1, 0, 0, 0)]]
def q_f84 : List (List (Option q_In)) := [[some (.iload_n 1, 1, 0, 0, 0), some (.invokestatic 84, 3, 121, 0, 2130), none, none, some (.ifCond .eq 11, 3, 15, 0, 0), none, none, some (.iload_n 2, 1, 0, 0, 0), some (.iconst 5, 1, 0, 0, 0), some (.invokestatic 92, 3, 119, 0, 2133), none, none, some (.ifCond .ne 9, 3, 21, 0, 0), none, none, some (.aload_n 0, 1, 0, 0, 0)],
  [some (.iconst (-1), 1, 0, 0, 0), some (.invokevirtual 88, 3, 117, 0, 2136), none, none, some (.ireturn, 1, 0, 0, 0), some (.aload_n 0, 1, 0, 0, 0), some (.getfield 11, 3, 9, 0, 2083), none, none, some (.iload_n 1, 1, 0, 0, 0), some (.aaload, 1, 0, 0, 0), some (.invokevirtual 137, 3, 50, 0, 2159), none, none, some (.ifCond .eq 10, 3, 40, 0, 0), none],
  [none, some (.aload_n 0, 1, 0, 0, 0), some (.bipush (-2), 2, 0, 0, 0), none, some (.invokevirtual 88, 3, 117, 0, 2136), none, none, some (.ireturn, 1, 0, 0, 0), some (.aload_n 0, 1, 0, 0, 0), some (.getfield 11, 3, 9, 0, 2083), none, none, some (.iload_n 1, 1, 0, 0, 0), some (.aaload, 1, 0, 0, 0), some (.getfield 144, 3, 6, 3, 2037), none],
  [none, some (.istore_n 3, 1, 0, 0, 0), some (.aload_n 0, 1, 0, 0, 0), some (.getfield 18, 3, 9, 1, 2084), none, none, some (.iload_n 3, 1, 0, 0, 0), some (.invokevirtual 127, 3, 20, 0, 2199), none, none, some (.ifCond .ne 10, 3, 68, 0, 0), none, none, some (.aload_n 0, 1, 0, 0, 0), some (.bipush (-3), 2, 0, 0, 0), none],
  [some (.invokevirtual 88, 3, 117, 0, 2136), none, none, some (.ireturn, 1, 0, 0, 0), some (.aload_n 0, 1, 0, 0, 0), some (.getfield 18, 3, 9, 1, 2084), none, none, some (.getfield 147, 3, 3, 0, 1137), none, none, some (.iload_n 3, 1, 0, 0, 0), some (.aaload, 1, 0, 0, 0), some (.astore 4, 2, 0, 0, 0), none, some (.aload 4, 2, 0, 0, 0)],
  [none, some (.iload_n 2, 1, 0, 0, 0), some (.invokevirtual 151, 3, 43, 0, 2220), none, none, some (.ifCond .ne 10, 3, 95, 0, 0), none, none, some (.aload_n 0, 1, 0, 0, 0), some (.bipush (-2), 2, 0, 0, 0), none, some (.invokevirtual 88, 3, 117, 0, 2136), none, none, some (.ireturn, 1, 0, 0, 0), some (.aload 4, 2, 0, 0, 0)],
  [none, some (.iload_n 2, 1, 0, 0, 0), some (.invokevirtual 156, 3, 44, 0, 2224), none, none, some (.ireturn, 1, 0, 0, 0)]]
def q_f85 : List (List (Option q_In)) := [[some (.iload_n 1, 1, 0, 0, 0), some (.iconst 5, 1, 0, 0, 0), some (.invokestatic 92, 3, 119, 0, 2133), none, none, some (.ifCond .ne 9, 3, 14, 0, 0), none, none, some (.aload_n 0, 1, 0, 0, 0), some (.iconst (-1), 1, 0, 0, 0), some (.invokevirtual 88, 3, 117, 0, 2136), none, none, some (.ireturn, 1, 0, 0, 0), some (.iload_n 2, 1, 0, 0, 0), some (.bipush 9, 2, 0, 0, 0)],
  [none, some (.invokestatic 159, 3, 120, 0, 2238), none, none, some (.ifCond .eq 38, 3, 58, 0, 0), none, none, some (.iload_n 3, 1, 0, 0, 0), some (.sipush 255, 3, 0, 0, 0), none, none, some (.invokestatic 159, 3, 120, 0, 2238), none, none, some (.ifCond .eq 28, 3, 58, 0, 0), none],
  [none, some (.iload 4, 2, 0, 0, 0), none, some (.sipush 255, 3, 0, 0, 0), none, none, some (.invokestatic 159, 3, 120, 0, 2238), none, none, some (.ifCond .eq 17, 3, 58, 0, 0), none, none, some (.iload 5, 2, 0, 0, 0), none, some (.bipush 9, 2, 0, 0, 0), none],
  [some (.invokestatic 159, 3, 120, 0, 2238), none, none, some (.ifCond .eq 7, 3, 58, 0, 0), none, none, some (.iconst 1, 1, 0, 0, 0), some (.goto 4, 3, 59, 0, 0), none, none, some (.iconst 0, 1, 0, 0, 0), some (.istore 7, 2, 0, 0, 0), none, some (.iload 7, 2, 0, 0, 0), none, some (.ifCond .eq 23, 3, 86, 0, 0)],
  [none, none, some (.iload 6, 2, 0, 0, 0), none, some (.invokestatic 162, 3, 124, 0, 3001), none, none, some (.ifCond .eq 15, 3, 86, 0, 0), none, none, some (.aload_n 0, 1, 0, 0, 0), some (.getfield 18, 3, 9, 1, 2084), none, none, some (.iload 6, 2, 0, 0, 0), none],
  [some (.invokevirtual 165, 3, 22, 0, 3005), none, none, some (.ifCond .eq 10, 3, 93, 0, 0), none, none, some (.aload_n 0, 1, 0, 0, 0), some (.bipush (-6), 2, 0, 0, 0), none, some (.invokevirtual 88, 3, 117, 0, 2136), none, none, some (.ireturn, 1, 0, 0, 0), some (.aload_n 0, 1, 0, 0, 0), some (.getfield 18, 3, 9, 1, 2084), none],
  [none, some (.getfield 168, 3, 3, 2, 1146), none, none, some (.bipush 12, 2, 0, 0, 0), none, some (.if_icmp .lt 10, 3, 112, 0, 0), none, none, some (.aload_n 0, 1, 0, 0, 0), some (.bipush (-7), 2, 0, 0, 0), none, some (.invokevirtual 88, 3, 117, 0, 2136), none, none, some (.ireturn, 1, 0, 0, 0)],
  [some (.aload_n 0, 1, 0, 0, 0), some (.getfield 18, 3, 9, 1, 2084), none, none, some (.getfield 168, 3, 3, 2, 1146), none, none, some (.istore 8, 2, 0, 0, 0), none, some (.aload_n 0, 1, 0, 0, 0), some (.getfield 18, 3, 9, 1, 2084), none, none, some (.getfield 147, 3, 3, 0, 1137), none, none],
  [some (.iload 8, 2, 0, 0, 0), none, some (.aaload, 1, 0, 0, 0), some (.iload_n 1, 1, 0, 0, 0), some (.iload_n 2, 1, 0, 0, 0), some (.iload_n 3, 1, 0, 0, 0), some (.iload 4, 2, 0, 0, 0), none, some (.iload 5, 2, 0, 0, 0), none, some (.iload 6, 2, 0, 0, 0), none, some (.invokevirtual 171, 3, 38, 0, 3009), none, none, some (.aload_n 0, 1, 0, 0, 0)],
  [some (.getfield 18, 3, 9, 1, 2084), none, none, some (.dup, 1, 0, 0, 0), some (.getfield 168, 3, 3, 2, 1146), none, none, some (.iconst 1, 1, 0, 0, 0), some (.iadd, 1, 0, 0, 0), some (.putfield 168, 3, 3, 2, 1146), none, none, some (.iload 8, 2, 0, 0, 0), none, some (.ireturn, 1, 0, 0, 0)]]
def q_f86 : List (List (Option q_In)) := [[some (.aload_n 0, 1, 0, 0, 0), some (.iload_n 1, 1, 0, 0, 0), some (.invokevirtual 100, 3, 122, 0, 2151), none, none, some (.istore_n 2, 1, 0, 0, 0), some (.iload_n 2, 1, 0, 0, 0), some (.ifCond .eq 9, 3, 16, 0, 0), none, none, some (.aload_n 0, 1, 0, 0, 0), some (.iload_n 2, 1, 0, 0, 0), some (.invokevirtual 88, 3, 117, 0, 2136), none, none, some (.ireturn, 1, 0, 0, 0)],
  [some (.aload_n 0, 1, 0, 0, 0), some (.aload_n 0, 1, 0, 0, 0), some (.getfield 58, 3, 9, 8, 2091), none, none, some (.aload_n 0, 1, 0, 0, 0), some (.getfield 11, 3, 9, 0, 2083), none, none, some (.iload_n 1, 1, 0, 0, 0), some (.aaload, 1, 0, 0, 0), some (.invokevirtual 175, 3, 58, 0, 3028), none, none, some (.putfield 77, 3, 9, 12, 2095), none],
  [none, some (.aload_n 0, 1, 0, 0, 0), some (.getfield 77, 3, 9, 12, 2095), none, none, some (.iconst (-1), 1, 0, 0, 0), some (.if_icmp .eq 10, 3, 48, 0, 0), none, none, some (.aload_n 0, 1, 0, 0, 0), some (.bipush (-6), 2, 0, 0, 0), none, some (.invokevirtual 88, 3, 117, 0, 2136), none, none, some (.ireturn, 1, 0, 0, 0)],
  [some (.aload_n 0, 1, 0, 0, 0), some (.getfield 58, 3, 9, 8, 2091), none, none, some (.invokevirtual 179, 3, 59, 0, 3078), none, none, some (.ireturn, 1, 0, 0, 0)]]
def q_f87 : List (List (Option q_In)) := [[some (.aload_n 0, 1, 0, 0, 0), some (.getfield 77, 3, 9, 12, 2095), none, none, some (.ireturn, 1, 0, 0, 0)]]
def q_f88 : List (List (Option q_In)) := [[some (.aload_n 0, 1, 0, 0, 0), some (.getfield 18, 3, 9, 1, 2084), none, none, some (.iload_n 1, 1, 0, 0, 0), some (.invokevirtual 127, 3, 20, 0, 2199), none, none, some (.ifCond .ne 10, 3, 18, 0, 0), none, none, some (.aload_n 0, 1, 0, 0, 0), some (.bipush (-5), 2, 0, 0, 0), none, some (.invokevirtual 88, 3, 117, 0, 2136), none],
  [none, some (.ireturn, 1, 0, 0, 0), some (.aload_n 0, 1, 0, 0, 0), some (.getfield 18, 3, 9, 1, 2084), none, none, some (.getfield 147, 3, 3, 0, 1137), none, none, some (.iload_n 1, 1, 0, 0, 0), some (.aaload, 1, 0, 0, 0), some (.astore_n 3, 1, 0, 0, 0), some (.iload_n 2, 1, 0, 0, 0), some (.tableswitch 87 0 7 #[47, 52, 57, 62, 67, 72, 77, 82], 47, 0, 0, 0), none, none],
  [none, none, none, none, none, none, none, none, none, none, none, none, none, none, none, none],
  [none, none, none, none, none, none, none, none, none, none, none, none, none, none, none, none],
  [none, none, none, none, none, none, none, none, none, none, none, none, some (.aload_n 3, 1, 0, 0, 0), some (.getfield 183, 3, 5, 9, 1073), none, none],
  [some (.ireturn, 1, 0, 0, 0), some (.aload_n 3, 1, 0, 0, 0), some (.getfield 186, 3, 5, 0, 1043), none, none, some (.ireturn, 1, 0, 0, 0), some (.aload_n 3, 1, 0, 0, 0), some (.getfield 189, 3, 5, 1, 1046), none, none, some (.ireturn, 1, 0, 0, 0), some (.aload_n 3, 1, 0, 0, 0), some (.getfield 192, 3, 5, 2, 1049), none, none, some (.ireturn, 1, 0, 0, 0)],
  [some (.aload_n 3, 1, 0, 0, 0), some (.getfield 195, 3, 5, 3, 1052), none, none, some (.ireturn, 1, 0, 0, 0), some (.aload_n 3, 1, 0, 0, 0), some (.getfield 198, 3, 5, 4, 1056), none, none, some (.ireturn, 1, 0, 0, 0), some (.aload_n 3, 1, 0, 0, 0), some (.getfield 201, 3, 5, 6, 1064), none, none, some (.ireturn, 1, 0, 0, 0), some (.aload_n 3, 1, 0, 0, 0)],
  [some (.getfield 204, 3, 5, 5, 1060), none, none, some (.ireturn, 1, 0, 0, 0), some (.aload_n 0, 1, 0, 0, 0), some (.bipush (-5), 2, 0, 0, 0), none, some (.invokevirtual 88, 3, 117, 0, 2136), none, none, some (.ireturn, 1, 0, 0, 0)]]
def q_f89 : List (List (Option q_In)) := [[some (.aload_n 0, 1, 0, 0, 0), some (.getfield 18, 3, 9, 1, 2084), none, none, some (.iload_n 1, 1, 0, 0, 0), some (.invokevirtual 127, 3, 20, 0, 2199), none, none, some (.ifCond .ne 9, 3, 17, 0, 0), none, none, some (.aload_n 0, 1, 0, 0, 0), some (.iconst (-1), 1, 0, 0, 0), some (.invokevirtual 207, 3, 118, 0, 3099), none, none],
  [some (.ireturn, 1, 0, 0, 0), some (.aload_n 0, 1, 0, 0, 0), some (.getfield 18, 3, 9, 1, 2084), none, none, some (.iload_n 1, 1, 0, 0, 0), some (.invokevirtual 210, 3, 21, 0, 3103), none, none, some (.ifCond .eq 18, 3, 43, 0, 0), none, none, some (.aload_n 0, 1, 0, 0, 0), some (.getfield 18, 3, 9, 1, 2084), none, none],
  [some (.getfield 147, 3, 3, 0, 1137), none, none, some (.iload_n 1, 1, 0, 0, 0), some (.aaload, 1, 0, 0, 0), some (.getfield 213, 3, 5, 10, 1077), none, none, some (.goto 4, 3, 44, 0, 0), none, none, some (.iconst (-1), 1, 0, 0, 0), some (.ireturn, 1, 0, 0, 0)]]
def q_f90 : List (List (Option q_In)) := [[some (.aload_n 0, 1, 0, 0, 0), some (.getfield 18, 3, 9, 1, 2084), none, none, some (.iload_n 1, 1, 0, 0, 0), some (.invokevirtual 127, 3, 20, 0, 2199), none, none, some (.ifCond .eq 18, 3, 26, 0, 0), none, none, some (.aload_n 0, 1, 0, 0, 0), some (.getfield 18, 3, 9, 1, 2084), none, none, some (.getfield 147, 3, 3, 0, 1137)],
  [none, none, some (.iload_n 1, 1, 0, 0, 0), some (.aaload, 1, 0, 0, 0), some (.getfield 216, 3, 5, 8, 1069), none, none, some (.goto 4, 3, 27, 0, 0), none, none, some (.iconst 0, 1, 0, 0, 0), some (.ireturn, 1, 0, 0, 0)]]
def q_f91 : List (List (Option q_In)) := [[some (.aload_n 0, 1, 0, 0, 0), some (.getfield 18, 3, 9, 1, 2084), none, none, some (.iload_n 1, 1, 0, 0, 0), some (.invokevirtual 127, 3, 20, 0, 2199), none, none, some (.ifCond .eq 12, 3, 20, 0, 0), none, none, some (.iload_n 2, 1, 0, 0, 0), some (.bipush 8, 2, 0, 0, 0), none, some (.invokestatic 92, 3, 119, 0, 2133), none],
  [none, some (.ifCond .ne 9, 3, 26, 0, 0), none, none, some (.aload_n 0, 1, 0, 0, 0), some (.iconst (-1), 1, 0, 0, 0), some (.invokevirtual 207, 3, 118, 0, 3099), none, none, some (.ireturn, 1, 0, 0, 0), some (.aload_n 0, 1, 0, 0, 0), some (.getfield 18, 3, 9, 1, 2084), none, none, some (.iload_n 1, 1, 0, 0, 0), some (.invokevirtual 210, 3, 21, 0, 3103)],
  [none, none, some (.ifCond .eq 31, 3, 65, 0, 0), none, none, some (.aload_n 0, 1, 0, 0, 0), some (.getfield 18, 3, 9, 1, 2084), none, none, some (.getfield 147, 3, 3, 0, 1137), none, none, some (.iload_n 1, 1, 0, 0, 0), some (.aaload, 1, 0, 0, 0), some (.iload_n 2, 1, 0, 0, 0), some (.invokevirtual 219, 3, 40, 0, 3116)],
  [none, none, some (.ifCond .eq 15, 3, 65, 0, 0), none, none, some (.aload_n 0, 1, 0, 0, 0), some (.getfield 18, 3, 9, 1, 2084), none, none, some (.iload_n 1, 1, 0, 0, 0), some (.iload_n 2, 1, 0, 0, 0), some (.invokevirtual 222, 3, 27, 0, 3120), none, none, some (.goto 4, 3, 66, 0, 0), none],
  [none, some (.iconst (-1), 1, 0, 0, 0), some (.ireturn, 1, 0, 0, 0)]]
def q_f92 : List (List (Option q_In)) := [[some (.aload_n 0, 1, 0, 0, 0), some (.getfield 18, 3, 9, 1, 2084), none, none, some (.iload_n 1, 1, 0, 0, 0), some (.invokevirtual 127, 3, 20, 0, 2199), none, none, some (.ifCond .ne 9, 3, 17, 0, 0), none, none, some (.aload_n 0, 1, 0, 0, 0), some (.iconst (-1), 1, 0, 0, 0), some (.invokevirtual 88, 3, 117, 0, 2136), none, none],
  [some (.ireturn, 1, 0, 0, 0), some (.aload_n 0, 1, 0, 0, 0), some (.getfield 18, 3, 9, 1, 2084), none, none, some (.iload_n 1, 1, 0, 0, 0), some (.invokevirtual 210, 3, 21, 0, 3103), none, none, some (.ifCond .eq 10, 3, 35, 0, 0), none, none, some (.aload_n 0, 1, 0, 0, 0), some (.bipush (-6), 2, 0, 0, 0), none, some (.invokevirtual 88, 3, 117, 0, 2136)],
  [none, none, some (.ireturn, 1, 0, 0, 0), some (.aload_n 0, 1, 0, 0, 0), some (.iload_n 1, 1, 0, 0, 0), some (.invokevirtual 225, 3, 125, 0, 3143), none, none, some (.ifCond .ne 42, 3, 82, 0, 0), none, none, some (.aload_n 0, 1, 0, 0, 0), some (.getfield 34, 3, 9, 4, 2087), none, none, some (.getfield 228, 3, 4, 4, 1181)],
  [none, none, some (.iconst 0, 1, 0, 0, 0), some (.aload_n 0, 1, 0, 0, 0), some (.getfield 69, 3, 9, 10, 2093), none, none, some (.iconst 0, 1, 0, 0, 0), some (.aload_n 0, 1, 0, 0, 0), some (.getfield 69, 3, 9, 10, 2093), none, none, some (.arraylength, 1, 0, 0, 0), some (.invokestatic 121, 3, 301, 0, 2188), none, none],
  [some (.aload_n 0, 1, 0, 0, 0), some (.aload_n 0, 1, 0, 0, 0), some (.getfield 34, 3, 9, 4, 2087), none, none, some (.getfield 229, 3, 4, 5, 1183), none, none, some (.putfield 73, 3, 9, 11, 2094), none, none, some (.aload_n 0, 1, 0, 0, 0), some (.bipush (-6), 2, 0, 0, 0), none, some (.invokevirtual 88, 3, 117, 0, 2136), none],
  [none, some (.ireturn, 1, 0, 0, 0), some (.aload_n 0, 1, 0, 0, 0), some (.getfield 34, 3, 9, 4, 2087), none, none, some (.getfield 230, 3, 4, 2, 1177), none, none, some (.ireturn, 1, 0, 0, 0)]]
def q_f93 : List (List (Option q_In)) := [[some (.iload_n 1, 1, 0, 0, 0), some (.aload_n 0, 1, 0, 0, 0), some (.getfield 73, 3, 9, 11, 2094), none, none, some (.invokestatic 92, 3, 119, 0, 2133), none, none, some (.ifCond .eq 11, 3, 19, 0, 0), none, none, some (.iload_n 2, 1, 0, 0, 0), some (.iconst 3, 1, 0, 0, 0), some (.invokestatic 92, 3, 119, 0, 2133), none, none],
  [some (.ifCond .ne 10, 3, 26, 0, 0), none, none, some (.aload_n 0, 1, 0, 0, 0), some (.bipush (-5), 2, 0, 0, 0), none, some (.invokevirtual 88, 3, 117, 0, 2136), none, none, some (.ireturn, 1, 0, 0, 0), some (.aload_n 0, 1, 0, 0, 0), some (.getfield 69, 3, 9, 10, 2093), none, none, some (.iconst 3, 1, 0, 0, 0), some (.iload_n 1, 1, 0, 0, 0)],
  [some (.imul, 1, 0, 0, 0), some (.iload_n 2, 1, 0, 0, 0), some (.iadd, 1, 0, 0, 0), some (.iaload, 1, 0, 0, 0), some (.ireturn, 1, 0, 0, 0)]]
def q_f94 : List (List (Option q_In)) := [[some (.aload_n 0, 1, 0, 0, 0), some (.getfield 18, 3, 9, 1, 2084), none, none, some (.iload_n 1, 1, 0, 0, 0), some (.invokevirtual 127, 3, 20, 0, 2199), none, none, some (.ifCond .ne 9, 3, 17, 0, 0), none, none, some (.aload_n 0, 1, 0, 0, 0), some (.iconst (-1), 1, 0, 0, 0), some (.invokevirtual 88, 3, 117, 0, 2136), none, none],
  [some (.ireturn, 1, 0, 0, 0), some (.aload_n 0, 1, 0, 0, 0), some (.getfield 18, 3, 9, 1, 2084), none, none, some (.iload_n 1, 1, 0, 0, 0), some (.invokevirtual 210, 3, 21, 0, 3103), none, none, some (.ifCond .ne 10, 3, 35, 0, 0), none, none, some (.aload_n 0, 1, 0, 0, 0), some (.bipush (-6), 2, 0, 0, 0), none, some (.invokevirtual 88, 3, 117, 0, 2136)],
  [none, none, some (.ireturn, 1, 0, 0, 0), some (.aload_n 0, 1, 0, 0, 0), some (.iload_n 1, 1, 0, 0, 0), some (.invokevirtual 233, 3, 130, 0, 3207), none, none, some (.ireturn, 1, 0, 0, 0)]]
def q_f95 : List (List (Option q_In)) := [[some (.aload_n 0, 1, 0, 0, 0), some (.getfield 18, 3, 9, 1, 2084), none, none, some (.iload_n 1, 1, 0, 0, 0), some (.invokevirtual 127, 3, 20, 0, 2199), none, none, some (.ifCond .eq 14, 3, 22, 0, 0), none, none, some (.aload_n 0, 1, 0, 0, 0), some (.getfield 18, 3, 9, 1, 2084), none, none, some (.iload_n 2, 1, 0, 0, 0)],
  [some (.invokevirtual 127, 3, 20, 0, 2199), none, none, some (.ifCond .ne 9, 3, 28, 0, 0), none, none, some (.aload_n 0, 1, 0, 0, 0), some (.iconst (-1), 1, 0, 0, 0), some (.invokevirtual 207, 3, 118, 0, 3099), none, none, some (.ireturn, 1, 0, 0, 0), some (.aload_n 0, 1, 0, 0, 0), some (.getfield 18, 3, 9, 1, 2084), none, none],
  [some (.iload_n 1, 1, 0, 0, 0), some (.invokevirtual 210, 3, 21, 0, 3103), none, none, some (.ifCond .ne 10, 3, 46, 0, 0), none, none, some (.aload_n 0, 1, 0, 0, 0), some (.bipush (-6), 2, 0, 0, 0), none, some (.invokevirtual 207, 3, 118, 0, 3099), none, none, some (.ireturn, 1, 0, 0, 0), some (.aload_n 0, 1, 0, 0, 0), some (.getfield 41, 3, 9, 5, 2088)],
  [none, none, some (.iload_n 1, 1, 0, 0, 0), some (.invokevirtual 236, 3, 72, 0, 3211), none, none, some (.pop, 1, 0, 0, 0), some (.aload_n 0, 1, 0, 0, 0), some (.getfield 41, 3, 9, 5, 2088), none, none, some (.getfield 239, 3, 8, 1, 1212), none, none, some (.iload_n 2, 1, 0, 0, 0), some (.iaload, 1, 0, 0, 0)],
  [some (.ireturn, 1, 0, 0, 0)]]
def q_f96 : List (List (Option q_In)) := [[some (.aload_n 0, 1, 0, 0, 0), some (.getfield 18, 3, 9, 1, 2084), none, none, some (.iload_n 1, 1, 0, 0, 0), some (.invokevirtual 127, 3, 20, 0, 2199), none, none, some (.ifCond .ne 9, 3, 17, 0, 0), none, none, some (.aload_n 0, 1, 0, 0, 0), some (.iconst (-1), 1, 0, 0, 0), some (.invokevirtual 88, 3, 117, 0, 2136), none, none],
  [some (.ireturn, 1, 0, 0, 0), some (.aload_n 0, 1, 0, 0, 0), some (.getfield 18, 3, 9, 1, 2084), none, none, some (.getfield 147, 3, 3, 0, 1137), none, none, some (.iload_n 1, 1, 0, 0, 0), some (.aaload, 1, 0, 0, 0), some (.astore_n 2, 1, 0, 0, 0), some (.aload_n 2, 1, 0, 0, 0), some (.getfield 183, 3, 5, 9, 1073), none, none, some (.iconst 2, 1, 0, 0, 0)],
  [some (.if_icmp .eq 10, 3, 42, 0, 0), none, none, some (.aload_n 0, 1, 0, 0, 0), some (.bipush (-6), 2, 0, 0, 0), none, some (.invokevirtual 88, 3, 117, 0, 2136), none, none, some (.ireturn, 1, 0, 0, 0), some (.aload_n 2, 1, 0, 0, 0), some (.iconst 0, 1, 0, 0, 0), some (.putfield 183, 3, 5, 9, 1073), none, none, some (.aload_n 2, 1, 0, 0, 0)],
  [some (.getfield 198, 3, 5, 4, 1056), none, none, some (.ireturn, 1, 0, 0, 0)]]
def q_f97 : List (List (Option q_In)) := [[some (.aload_n 0, 1, 0, 0, 0), some (.getfield 18, 3, 9, 1, 2084), none, none, some (.iload_n 1, 1, 0, 0, 0), some (.invokevirtual 127, 3, 20, 0, 2199), none, none, some (.ifCond .ne 9, 3, 17, 0, 0), none, none, some (.aload_n 0, 1, 0, 0, 0), some (.iconst (-1), 1, 0, 0, 0), some (.invokevirtual 88, 3, 117, 0, 2136), none, none],
  [some (.ireturn, 1, 0, 0, 0), some (.aload_n 0, 1, 0, 0, 0), some (.getfield 18, 3, 9, 1, 2084), none, none, some (.getfield 147, 3, 3, 0, 1137), none, none, some (.iload_n 1, 1, 0, 0, 0), some (.aaload, 1, 0, 0, 0), some (.astore_n 2, 1, 0, 0, 0), some (.aload_n 2, 1, 0, 0, 0), some (.getfield 183, 3, 5, 9, 1073), none, none, some (.iconst 3, 1, 0, 0, 0)],
  [some (.if_icmp .ne 10, 3, 42, 0, 0), none, none, some (.aload_n 0, 1, 0, 0, 0), some (.bipush (-6), 2, 0, 0, 0), none, some (.invokevirtual 88, 3, 117, 0, 2136), none, none, some (.ireturn, 1, 0, 0, 0), some (.aload_n 2, 1, 0, 0, 0), some (.getfield 183, 3, 5, 9, 1073), none, none, some (.iconst 1, 1, 0, 0, 0), some (.if_icmp .ne 11, 3, 58, 0, 0)],
  [none, none, some (.aload_n 0, 1, 0, 0, 0), some (.iload_n 1, 1, 0, 0, 0), some (.invokevirtual 233, 3, 130, 0, 3207), none, none, some (.goto 4, 3, 59, 0, 0), none, none, some (.iconst 0, 1, 0, 0, 0), some (.istore_n 3, 1, 0, 0, 0), some (.aload_n 2, 1, 0, 0, 0), some (.iconst 3, 1, 0, 0, 0), some (.putfield 183, 3, 5, 9, 1073), none],
  [none, some (.iload_n 3, 1, 0, 0, 0), some (.ireturn, 1, 0, 0, 0)]]
def q_f98 : List (List (Option q_In)) := [[some (.aload_n 0, 1, 0, 0, 0), some (.getfield 18, 3, 9, 1, 2084), none, none, some (.iload_n 1, 1, 0, 0, 0), some (.invokevirtual 127, 3, 20, 0, 2199), none, none, some (.ifCond .ne 9, 3, 17, 0, 0), none, none, some (.aload_n 0, 1, 0, 0, 0), some (.iconst (-1), 1, 0, 0, 0), some (.invokevirtual 207, 3, 118, 0, 3099), none, none],
  [some (.ireturn, 1, 0, 0, 0), some (.aload_n 0, 1, 0, 0, 0), some (.getfield 18, 3, 9, 1, 2084), none, none, some (.iload_n 1, 1, 0, 0, 0), some (.invokevirtual 210, 3, 21, 0, 3103), none, none, some (.ifCond .eq 10, 3, 35, 0, 0), none, none, some (.aload_n 0, 1, 0, 0, 0), some (.bipush (-6), 2, 0, 0, 0), none, some (.invokevirtual 207, 3, 118, 0, 3099)],
  [none, none, some (.ireturn, 1, 0, 0, 0), some (.aload_n 0, 1, 0, 0, 0), some (.getfield 34, 3, 9, 4, 2087), none, none, some (.iload_n 1, 1, 0, 0, 0), some (.invokevirtual 242, 3, 31, 0, 3147), none, none, some (.ifCond .eq 13, 3, 56, 0, 0), none, none, some (.aload_n 0, 1, 0, 0, 0), some (.getfield 34, 3, 9, 4, 2087)],
  [none, none, some (.getfield 230, 3, 4, 2, 1177), none, none, some (.goto 4, 3, 57, 0, 0), none, none, some (.iconst 0, 1, 0, 0, 0), some (.istore_n 3, 1, 0, 0, 0), some (.iload_n 2, 1, 0, 0, 0), some (.iconst (-1), 1, 0, 0, 0), some (.if_icmp .ne 5, 3, 65, 0, 0), none, none, some (.iload_n 3, 1, 0, 0, 0)],
  [some (.ireturn, 1, 0, 0, 0), some (.iload_n 2, 1, 0, 0, 0), some (.iload_n 3, 1, 0, 0, 0), some (.invokestatic 92, 3, 119, 0, 2133), none, none, some (.ifCond .eq 15, 3, 85, 0, 0), none, none, some (.aload_n 0, 1, 0, 0, 0), some (.getfield 34, 3, 9, 4, 2087), none, none, some (.getfield 245, 3, 4, 1, 1175), none, none],
  [some (.iload_n 2, 1, 0, 0, 0), some (.iaload, 1, 0, 0, 0), some (.goto 4, 3, 86, 0, 0), none, none, some (.iconst (-1), 1, 0, 0, 0), some (.ireturn, 1, 0, 0, 0)]]
def q_f99 : List (List (Option q_In)) := [[some (.iconst 0, 1, 0, 0, 0), some (.istore_n 2, 1, 0, 0, 0), some (.iload_n 2, 1, 0, 0, 0), some (.aload_n 0, 1, 0, 0, 0), some (.getfield 18, 3, 9, 1, 2084), none, none, some (.getfield 168, 3, 3, 2, 1146), none, none, some (.if_icmp .ge 37, 3, 47, 0, 0), none, none, some (.aload_n 0, 1, 0, 0, 0), some (.getfield 18, 3, 9, 1, 2084), none],
  [none, some (.iload_n 2, 1, 0, 0, 0), some (.invokevirtual 210, 3, 21, 0, 3103), none, none, some (.ifCond .eq 20, 3, 41, 0, 0), none, none, some (.aload_n 0, 1, 0, 0, 0), some (.getfield 18, 3, 9, 1, 2084), none, none, some (.iload_n 2, 1, 0, 0, 0), some (.invokevirtual 248, 3, 25, 0, 4018), none, none],
  [some (.invokestatic 251, 3, 222, 0, 4019), none, none, some (.iload_n 1, 1, 0, 0, 0), some (.if_icmp .ne 5, 3, 41, 0, 0), none, none, some (.iload_n 2, 1, 0, 0, 0), some (.ireturn, 1, 0, 0, 0), some (.iinc 2 1, 3, 0, 0, 0), none, none, some (.goto (-42), 3, 2, 0, 0), none, none, some (.iconst (-1), 1, 0, 0, 0)],
  [some (.ireturn, 1, 0, 0, 0)]]
def q_f100 : List (List (Option q_In)) := [[some (.iload_n 1, 1, 0, 0, 0), some (.bipush 8, 2, 0, 0, 0), none, some (.invokestatic 92, 3, 119, 0, 2133), none, none, some (.ifCond .ne 9, 3, 15, 0, 0), none, none, some (.aload_n 0, 1, 0, 0, 0), some (.iconst (-1), 1, 0, 0, 0), some (.invokevirtual 88, 3, 117, 0, 2136), none, none, some (.ireturn, 1, 0, 0, 0), some (.aload_n 0, 1, 0, 0, 0)],
  [some (.getfield 18, 3, 9, 1, 2084), none, none, some (.iload_n 1, 1, 0, 0, 0), some (.aload_n 0, 1, 0, 0, 0), some (.getfield 18, 3, 9, 1, 2084), none, none, some (.invokevirtual 256, 3, 24, 0, 4024), none, none, some (.invokevirtual 259, 3, 26, 0, 4025), none, none, some (.ireturn, 1, 0, 0, 0)]]
def q_f101 : List (List (Option q_In)) := [[some (.aload_n 0, 1, 0, 0, 0), some (.getfield 18, 3, 9, 1, 2084), none, none, some (.iload_n 1, 1, 0, 0, 0), some (.invokevirtual 127, 3, 20, 0, 2199), none, none, some (.ifCond .eq 27, 3, 35, 0, 0), none, none, some (.aload_n 0, 1, 0, 0, 0), some (.getfield 18, 3, 9, 1, 2084), none, none, some (.getfield 147, 3, 3, 0, 1137)],
  [none, none, some (.iload_n 1, 1, 0, 0, 0), some (.aaload, 1, 0, 0, 0), some (.getfield 183, 3, 5, 9, 1073), none, none, some (.iconst 3, 1, 0, 0, 0), some (.if_icmp .eq 11, 3, 35, 0, 0), none, none, some (.iload_n 2, 1, 0, 0, 0), some (.iconst 4, 1, 0, 0, 0), some (.invokestatic 92, 3, 119, 0, 2133), none, none],
  [some (.ifCond .ne 9, 3, 41, 0, 0), none, none, some (.aload_n 0, 1, 0, 0, 0), some (.iconst (-1), 1, 0, 0, 0), some (.invokevirtual 88, 3, 117, 0, 2136), none, none, some (.ireturn, 1, 0, 0, 0), some (.iload_n 3, 1, 0, 0, 0), some (.bipush (-9), 2, 0, 0, 0), none, some (.if_icmp .lt 13, 3, 57, 0, 0), none, none, some (.iload_n 3, 1, 0, 0, 0)],
  [some (.bipush 9, 2, 0, 0, 0), none, some (.if_icmp .gt 7, 3, 57, 0, 0), none, none, some (.iconst 1, 1, 0, 0, 0), some (.goto 4, 3, 58, 0, 0), none, none, some (.iconst 0, 1, 0, 0, 0), some (.istore 6, 2, 0, 0, 0), none, some (.iload 5, 2, 0, 0, 0), none, some (.bipush (-99), 2, 0, 0, 0), none],
  [some (.if_icmp .lt 14, 3, 78, 0, 0), none, none, some (.iload 5, 2, 0, 0, 0), none, some (.bipush 99, 2, 0, 0, 0), none, some (.if_icmp .gt 7, 3, 78, 0, 0), none, none, some (.iconst 1, 1, 0, 0, 0), some (.goto 4, 3, 79, 0, 0), none, none, some (.iconst 0, 1, 0, 0, 0), some (.istore 7, 2, 0, 0, 0)],
  [none, some (.iload 6, 2, 0, 0, 0), none, some (.ifCond .eq 18, 3, 101, 0, 0), none, none, some (.iload 4, 2, 0, 0, 0), none, some (.bipush 9, 2, 0, 0, 0), none, some (.invokestatic 92, 3, 119, 0, 2133), none, none, some (.ifCond .eq 8, 3, 101, 0, 0), none, none],
  [some (.iload 7, 2, 0, 0, 0), none, some (.ifCond .ne 10, 3, 108, 0, 0), none, none, some (.aload_n 0, 1, 0, 0, 0), some (.bipush (-6), 2, 0, 0, 0), none, some (.invokevirtual 88, 3, 117, 0, 2136), none, none, some (.ireturn, 1, 0, 0, 0), some (.aload_n 0, 1, 0, 0, 0), some (.getfield 18, 3, 9, 1, 2084), none, none],
  [some (.getfield 262, 3, 3, 3, 1149), none, none, some (.bipush 24, 2, 0, 0, 0), none, some (.if_icmp .lt 10, 3, 127, 0, 0), none, none, some (.aload_n 0, 1, 0, 0, 0), some (.bipush (-7), 2, 0, 0, 0), none, some (.invokevirtual 88, 3, 117, 0, 2136), none, none, some (.ireturn, 1, 0, 0, 0), some (.aload_n 0, 1, 0, 0, 0)],
  [some (.getfield 18, 3, 9, 1, 2084), none, none, some (.getfield 262, 3, 3, 3, 1149), none, none, some (.istore 8, 2, 0, 0, 0), none, some (.aload_n 0, 1, 0, 0, 0), some (.getfield 18, 3, 9, 1, 2084), none, none, some (.getfield 265, 3, 3, 1, 1140), none, none, some (.iload 8, 2, 0, 0, 0)],
  [none, some (.aaload, 1, 0, 0, 0), some (.iload_n 1, 1, 0, 0, 0), some (.iload_n 2, 1, 0, 0, 0), some (.iload_n 3, 1, 0, 0, 0), some (.iload 4, 2, 0, 0, 0), none, some (.iload 5, 2, 0, 0, 0), none, some (.invokevirtual 269, 3, 16, 0, 4030), none, none, some (.aload_n 0, 1, 0, 0, 0), some (.getfield 18, 3, 9, 1, 2084), none, none],
  [some (.dup, 1, 0, 0, 0), some (.getfield 262, 3, 3, 3, 1149), none, none, some (.iconst 1, 1, 0, 0, 0), some (.iadd, 1, 0, 0, 0), some (.putfield 262, 3, 3, 3, 1149), none, none, some (.iload 8, 2, 0, 0, 0), none, some (.ireturn, 1, 0, 0, 0)]]
def q_f102 : List (List (Option q_In)) := [[some (.iload_n 1, 1, 0, 0, 0), some (.aload_n 0, 1, 0, 0, 0), some (.getfield 18, 3, 9, 1, 2084), none, none, some (.getfield 262, 3, 3, 3, 1149), none, none, some (.invokestatic 92, 3, 119, 0, 2133), none, none, some (.ifCond .ne 10, 3, 21, 0, 0), none, none, some (.aload_n 0, 1, 0, 0, 0), some (.bipush (-5), 2, 0, 0, 0)],
  [none, some (.invokevirtual 88, 3, 117, 0, 2136), none, none, some (.ireturn, 1, 0, 0, 0), some (.aload_n 0, 1, 0, 0, 0), some (.getfield 18, 3, 9, 1, 2084), none, none, some (.getfield 265, 3, 3, 1, 1140), none, none, some (.iload_n 1, 1, 0, 0, 0), some (.aaload, 1, 0, 0, 0), some (.astore_n 3, 1, 0, 0, 0), some (.iload_n 2, 1, 0, 0, 0)],
  [some (.tableswitch 67 0 4 #[36, 41, 46, 54, 59], 36, 0, 0, 0), none, none, none, none, none, none, none, none, none, none, none, none, none, none, none],
  [none, none, none, none, none, none, none, none, none, none, none, none, none, none, none, none],
  [none, none, none, none, some (.aload_n 3, 1, 0, 0, 0), some (.getfield 274, 3, 2, 0, 1108), none, none, some (.ireturn, 1, 0, 0, 0), some (.aload_n 3, 1, 0, 0, 0), some (.getfield 275, 3, 2, 1, 1111), none, none, some (.ireturn, 1, 0, 0, 0), some (.aload_n 3, 1, 0, 0, 0), some (.getfield 278, 3, 2, 2, 1114)],
  [none, none, some (.bipush 10, 2, 0, 0, 0), none, some (.iadd, 1, 0, 0, 0), some (.ireturn, 1, 0, 0, 0), some (.aload_n 3, 1, 0, 0, 0), some (.getfield 281, 3, 2, 3, 1117), none, none, some (.ireturn, 1, 0, 0, 0), some (.aload_n 3, 1, 0, 0, 0), some (.getfield 284, 3, 2, 4, 1120), none, none, some (.bipush 100, 2, 0, 0, 0)],
  [none, some (.iadd, 1, 0, 0, 0), some (.ireturn, 1, 0, 0, 0), some (.aload_n 0, 1, 0, 0, 0), some (.bipush (-5), 2, 0, 0, 0), none, some (.invokevirtual 88, 3, 117, 0, 2136), none, none, some (.ireturn, 1, 0, 0, 0)]]
def q_f103 : List (List (Option q_In)) := [[some (.iload_n 1, 1, 0, 0, 0), some (.iconst 4, 1, 0, 0, 0), some (.invokestatic 92, 3, 119, 0, 2133), none, none, some (.ifCond .ne 9, 3, 14, 0, 0), none, none, some (.aload_n 0, 1, 0, 0, 0), some (.iconst (-1), 1, 0, 0, 0), some (.invokevirtual 207, 3, 118, 0, 3099), none, none, some (.ireturn, 1, 0, 0, 0), some (.aload_n 0, 1, 0, 0, 0), some (.getfield 52, 3, 9, 7, 2090)],
  [none, none, some (.iload_n 1, 1, 0, 0, 0), some (.iconst (-1), 1, 0, 0, 0), some (.invokevirtual 287, 3, 4, 0, 4042), none, none, some (.iload_n 2, 1, 0, 0, 0), some (.aload_n 0, 1, 0, 0, 0), some (.getfield 52, 3, 9, 7, 2090), none, none, some (.getfield 290, 3, 1, 2, 1228), none, none, some (.invokestatic 92, 3, 119, 0, 2133)],
  [none, none, some (.ifCond .eq 15, 3, 49, 0, 0), none, none, some (.aload_n 0, 1, 0, 0, 0), some (.getfield 52, 3, 9, 7, 2090), none, none, some (.getfield 293, 3, 1, 1, 1226), none, none, some (.iload_n 2, 1, 0, 0, 0), some (.iaload, 1, 0, 0, 0), some (.goto 4, 3, 50, 0, 0), none],
  [none, some (.iconst (-1), 1, 0, 0, 0), some (.ireturn, 1, 0, 0, 0)]]
def q_f104 : List (List (Option q_In)) := [[some (.iload_n 1, 1, 0, 0, 0), some (.iconst 4, 1, 0, 0, 0), some (.invokestatic 92, 3, 119, 0, 2133), none, none, some (.ifCond .ne 9, 3, 14, 0, 0), none, none, some (.aload_n 0, 1, 0, 0, 0), some (.iconst (-1), 1, 0, 0, 0), some (.invokevirtual 88, 3, 117, 0, 2136), none, none, some (.ireturn, 1, 0, 0, 0), some (.aload_n 0, 1, 0, 0, 0), some (.getfield 48, 3, 9, 6, 2089)],
  [none, none, some (.iload_n 1, 1, 0, 0, 0), some (.iconst (-1), 1, 0, 0, 0), some (.invokevirtual 287, 3, 4, 0, 4042), none, none, some (.aload_n 0, 1, 0, 0, 0), some (.getfield 48, 3, 9, 6, 2089), none, none, some (.iload_n 2, 1, 0, 0, 0), some (.invokevirtual 296, 3, 7, 0, 4060), none, none, some (.aload_n 0, 1, 0, 0, 0)],
  [some (.getfield 48, 3, 9, 6, 2089), none, none, some (.getfield 299, 3, 1, 3, 1230), none, none, some (.ifCond .ne 10, 3, 48, 0, 0), none, none, some (.aload_n 0, 1, 0, 0, 0), some (.getfield 48, 3, 9, 6, 2089), none, none, some (.invokevirtual 302, 3, 9, 0, 4087), none, none],
  [some (.aload_n 0, 1, 0, 0, 0), some (.getfield 48, 3, 9, 6, 2089), none, none, some (.getfield 299, 3, 1, 3, 1230), none, none, some (.ireturn, 1, 0, 0, 0)]]
def q_f105 : List (List (Option q_In)) := [[some (.aload_n 0, 1, 0, 0, 0), some (.getfield 48, 3, 9, 6, 2089), none, none, some (.getfield 305, 3, 1, 4, 1232), none, none, some (.ireturn, 1, 0, 0, 0)]]
def q_f106 : List (List (Option q_In)) := [[some (.iload_n 1, 1, 0, 0, 0), some (.iconst 4, 1, 0, 0, 0), some (.invokestatic 92, 3, 119, 0, 2133), none, none, some (.ifCond .ne 10, 3, 15, 0, 0), none, none, some (.aload_n 0, 1, 0, 0, 0), some (.iconst (-1), 1, 0, 0, 0), some (.invokevirtual 88, 3, 117, 0, 2136), none, none, some (.i2l, 1, 0, 0, 0), some (.lreturn, 1, 0, 0, 0), some (.iload_n 3, 1, 0, 0, 0)],
  [some (.ifCond .eq 16, 3, 32, 0, 0), none, none, some (.iload_n 3, 1, 0, 0, 0), some (.iconst 1, 1, 0, 0, 0), some (.if_icmp .eq 11, 3, 32, 0, 0), none, none, some (.aload_n 0, 1, 0, 0, 0), some (.bipush (-5), 2, 0, 0, 0), none, some (.invokevirtual 88, 3, 117, 0, 2136), none, none, some (.i2l, 1, 0, 0, 0), some (.lreturn, 1, 0, 0, 0)],
  [some (.aload_n 0, 1, 0, 0, 0), some (.getfield 52, 3, 9, 7, 2090), none, none, some (.iload_n 1, 1, 0, 0, 0), some (.iconst (-1), 1, 0, 0, 0), some (.invokevirtual 287, 3, 4, 0, 4042), none, none, some (.aload_n 0, 1, 0, 0, 0), some (.getfield 52, 3, 9, 7, 2090), none, none, some (.iload_n 2, 1, 0, 0, 0), some (.invokevirtual 296, 3, 7, 0, 4060), none],
  [none, some (.iload_n 3, 1, 0, 0, 0), some (.ifCond .ne 14, 3, 64, 0, 0), none, none, some (.aload_n 0, 1, 0, 0, 0), some (.getfield 52, 3, 9, 7, 2090), none, none, some (.getfield 299, 3, 1, 3, 1230), none, none, some (.i2l, 1, 0, 0, 0), some (.goto 15, 3, 76, 0, 0), none, none],
  [some (.ldc2_w 308, 3, 10000000000, 0, 4099), none, none, some (.aload_n 0, 1, 0, 0, 0), some (.getfield 52, 3, 9, 7, 2090), none, none, some (.getfield 305, 3, 1, 4, 1232), none, none, some (.i2l, 1, 0, 0, 0), some (.ladd, 1, 0, 0, 0), some (.lreturn, 1, 0, 0, 0)]]
def q_f107 : List (List (Option q_In)) := [[some (.iload_n 1, 1, 0, 0, 0), some (.iconst 4, 1, 0, 0, 0), some (.invokestatic 92, 3, 119, 0, 2133), none, none, some (.ifCond .ne 9, 3, 14, 0, 0), none, none, some (.aload_n 0, 1, 0, 0, 0), some (.iconst (-1), 1, 0, 0, 0), some (.invokevirtual 88, 3, 117, 0, 2136), none, none, some (.ireturn, 1, 0, 0, 0), some (.aload_n 0, 1, 0, 0, 0), some (.getfield 52, 3, 9, 7, 2090)],
  [none, none, some (.iload_n 1, 1, 0, 0, 0), some (.iconst (-1), 1, 0, 0, 0), some (.invokevirtual 287, 3, 4, 0, 4042), none, none, some (.aload_n 0, 1, 0, 0, 0), some (.getfield 52, 3, 9, 7, 2090), none, none, some (.iload_n 2, 1, 0, 0, 0), some (.invokevirtual 296, 3, 7, 0, 4060), none, none, some (.aload_n 0, 1, 0, 0, 0)],
  [some (.getfield 52, 3, 9, 7, 2090), none, none, some (.getfield 299, 3, 1, 3, 1230), none, none, some (.istore_n 3, 1, 0, 0, 0), some (.aload_n 0, 1, 0, 0, 0), some (.getfield 52, 3, 9, 7, 2090), none, none, some (.getfield 305, 3, 1, 4, 1232), none, none, some (.istore 4, 2, 0, 0, 0), none],
  [some (.iconst 0, 1, 0, 0, 0), some (.istore 5, 2, 0, 0, 0), none, some (.iconst 0, 1, 0, 0, 0), some (.istore 6, 2, 0, 0, 0), none, some (.iload 6, 2, 0, 0, 0), none, some (.aload_n 0, 1, 0, 0, 0), some (.getfield 18, 3, 9, 1, 2084), none, none, some (.getfield 262, 3, 3, 3, 1149), none, none, some (.if_icmp .ge 59, 3, 122, 0, 0)],
  [none, none, some (.aload_n 0, 1, 0, 0, 0), some (.getfield 52, 3, 9, 7, 2090), none, none, some (.iload_n 1, 1, 0, 0, 0), some (.iload 6, 2, 0, 0, 0), none, some (.invokevirtual 287, 3, 4, 0, 4042), none, none, some (.aload_n 0, 1, 0, 0, 0), some (.getfield 52, 3, 9, 7, 2090), none, none],
  [some (.iload_n 2, 1, 0, 0, 0), some (.invokevirtual 296, 3, 7, 0, 4060), none, none, some (.aload_n 0, 1, 0, 0, 0), some (.getfield 52, 3, 9, 7, 2090), none, none, some (.getfield 299, 3, 1, 3, 1230), none, none, some (.iload_n 3, 1, 0, 0, 0), some (.if_icmp .ne 15, 3, 107, 0, 0), none, none, some (.aload_n 0, 1, 0, 0, 0)],
  [some (.getfield 52, 3, 9, 7, 2090), none, none, some (.getfield 305, 3, 1, 4, 1232), none, none, some (.iload 4, 2, 0, 0, 0), none, some (.if_icmp .eq 12, 3, 116, 0, 0), none, none, some (.iload 5, 2, 0, 0, 0), none, some (.iconst 1, 1, 0, 0, 0), some (.iload 6, 2, 0, 0, 0), none],
  [some (.ishl, 1, 0, 0, 0), some (.ior, 1, 0, 0, 0), some (.istore 5, 2, 0, 0, 0), none, some (.iinc 6 1, 3, 0, 0, 0), none, none, some (.goto (-65), 3, 54, 0, 0), none, none, some (.iload 5, 2, 0, 0, 0), none, some (.ireturn, 1, 0, 0, 0)]]
def q_f108 : List (List (Option q_In)) := [[some (.iload_n 1, 1, 0, 0, 0), some (.iconst 4, 1, 0, 0, 0), some (.invokestatic 92, 3, 119, 0, 2133), none, none, some (.ifCond .ne 10, 3, 15, 0, 0), none, none, some (.aload_n 0, 1, 0, 0, 0), some (.iconst (-1), 1, 0, 0, 0), some (.invokevirtual 88, 3, 117, 0, 2136), none, none, some (.i2l, 1, 0, 0, 0), some (.lreturn, 1, 0, 0, 0), some (.iload_n 3, 1, 0, 0, 0)],
  [some (.iload 4, 2, 0, 0, 0), none, some (.if_icmp .gt 16, 3, 34, 0, 0), none, none, some (.iload 4, 2, 0, 0, 0), none, some (.i2l, 1, 0, 0, 0), some (.iload_n 3, 1, 0, 0, 0), some (.i2l, 1, 0, 0, 0), some (.lsub, 1, 0, 0, 0), some (.ldc2_w 310, 3, 199, 0, 4108), none, none, some (.lcmp, 1, 0, 0, 0), some (.ifCond .le 11, 3, 42, 0, 0)],
  [none, none, some (.aload_n 0, 1, 0, 0, 0), some (.bipush (-6), 2, 0, 0, 0), none, some (.invokevirtual 88, 3, 117, 0, 2136), none, none, some (.i2l, 1, 0, 0, 0), some (.lreturn, 1, 0, 0, 0), some (.aload_n 0, 1, 0, 0, 0), some (.getfield 52, 3, 9, 7, 2090), none, none, some (.iload_n 1, 1, 0, 0, 0), some (.iconst (-1), 1, 0, 0, 0)],
  [some (.invokevirtual 287, 3, 4, 0, 4042), none, none, some (.iload_n 3, 1, 0, 0, 0), some (.i2l, 1, 0, 0, 0), some (.lstore 5, 2, 0, 0, 0), none, some (.lload 5, 2, 0, 0, 0), none, some (.iload 4, 2, 0, 0, 0), none, some (.i2l, 1, 0, 0, 0), some (.lcmp, 1, 0, 0, 0), some (.ifCond .gt 33, 3, 94, 0, 0), none, none],
  [some (.aload_n 0, 1, 0, 0, 0), some (.getfield 52, 3, 9, 7, 2090), none, none, some (.lload 5, 2, 0, 0, 0), none, some (.l2i, 1, 0, 0, 0), some (.iload_n 2, 1, 0, 0, 0), some (.invokevirtual 312, 3, 8, 0, 4109), none, none, some (.ifCond .eq 10, 3, 85, 0, 0), none, none, some (.ldc2_w 308, 3, 10000000000, 0, 4099), none],
  [none, some (.lload 5, 2, 0, 0, 0), none, some (.ladd, 1, 0, 0, 0), some (.lreturn, 1, 0, 0, 0), some (.lload 5, 2, 0, 0, 0), none, some (.lconst 1, 1, 0, 0, 0), some (.ladd, 1, 0, 0, 0), some (.lstore 5, 2, 0, 0, 0), none, some (.goto (-36), 3, 55, 0, 0), none, none, some (.lconst 0, 1, 0, 0, 0), some (.lreturn, 1, 0, 0, 0)]]
def q_f109 : List (List (Option q_In)) := [[some (.iload_n 2, 1, 0, 0, 0), some (.iconst 4, 1, 0, 0, 0), some (.invokestatic 92, 3, 119, 0, 2133), none, none, some (.ifCond .eq 11, 3, 16, 0, 0), none, none, some (.aload_n 0, 1, 0, 0, 0), some (.iload_n 1, 1, 0, 0, 0), some (.invokevirtual 100, 3, 122, 0, 2151), none, none, some (.goto 4, 3, 17, 0, 0), none, none],
  [some (.iconst (-1), 1, 0, 0, 0), some (.istore 4, 2, 0, 0, 0), none, some (.iload 4, 2, 0, 0, 0), none, some (.ifCond .eq 10, 3, 31, 0, 0), none, none, some (.aload_n 0, 1, 0, 0, 0), some (.iload 4, 2, 0, 0, 0), none, some (.invokevirtual 207, 3, 118, 0, 3099), none, none, some (.ireturn, 1, 0, 0, 0), some (.iload_n 3, 1, 0, 0, 0)],
  [some (.ifCond .ge 10, 3, 42, 0, 0), none, none, some (.aload_n 0, 1, 0, 0, 0), some (.bipush (-4), 2, 0, 0, 0), none, some (.invokevirtual 207, 3, 118, 0, 3099), none, none, some (.ireturn, 1, 0, 0, 0), some (.iload_n 3, 1, 0, 0, 0), some (.aload_n 0, 1, 0, 0, 0), some (.getfield 11, 3, 9, 0, 2083), none, none, some (.iload_n 1, 1, 0, 0, 0)],
  [some (.aaload, 1, 0, 0, 0), some (.getfield 315, 3, 6, 2, 2035), none, none, some (.iconst 2, 1, 0, 0, 0), some (.idiv, 1, 0, 0, 0), some (.if_icmp .le 10, 3, 64, 0, 0), none, none, some (.aload_n 0, 1, 0, 0, 0), some (.bipush (-5), 2, 0, 0, 0), none, some (.invokevirtual 207, 3, 118, 0, 3099), none, none, some (.ireturn, 1, 0, 0, 0)],
  [some (.iload_n 3, 1, 0, 0, 0), some (.bipush 80, 2, 0, 0, 0), none, some (.if_icmp .le 10, 3, 77, 0, 0), none, none, some (.aload_n 0, 1, 0, 0, 0), some (.bipush (-6), 2, 0, 0, 0), none, some (.invokevirtual 207, 3, 118, 0, 3099), none, none, some (.ireturn, 1, 0, 0, 0), some (.aload_n 0, 1, 0, 0, 0), some (.getfield 52, 3, 9, 7, 2090), none],
  [none, some (.iload_n 2, 1, 0, 0, 0), some (.iconst (-1), 1, 0, 0, 0), some (.invokevirtual 287, 3, 4, 0, 4042), none, none, some (.iconst 0, 1, 0, 0, 0), some (.istore 5, 2, 0, 0, 0), none, some (.iload 5, 2, 0, 0, 0), none, some (.iload_n 3, 1, 0, 0, 0), some (.if_icmp .ge 50, 3, 142, 0, 0), none, none, some (.aload_n 0, 1, 0, 0, 0)],
  [some (.getfield 52, 3, 9, 7, 2090), none, none, some (.aload_n 0, 1, 0, 0, 0), some (.getfield 11, 3, 9, 0, 2083), none, none, some (.iload_n 1, 1, 0, 0, 0), some (.aaload, 1, 0, 0, 0), some (.iconst 2, 1, 0, 0, 0), some (.iload 5, 2, 0, 0, 0), none, some (.imul, 1, 0, 0, 0), some (.invokevirtual 318, 3, 54, 0, 4118), none, none],
  [some (.aload_n 0, 1, 0, 0, 0), some (.getfield 11, 3, 9, 0, 2083), none, none, some (.iload_n 1, 1, 0, 0, 0), some (.aaload, 1, 0, 0, 0), some (.iconst 2, 1, 0, 0, 0), some (.iload 5, 2, 0, 0, 0), none, some (.imul, 1, 0, 0, 0), some (.iconst 1, 1, 0, 0, 0), some (.iadd, 1, 0, 0, 0), some (.invokevirtual 318, 3, 54, 0, 4118), none, none, some (.invokevirtual 312, 3, 8, 0, 4109)],
  [none, none, some (.ifCond .ne 6, 3, 136, 0, 0), none, none, some (.iload 5, 2, 0, 0, 0), none, some (.ireturn, 1, 0, 0, 0), some (.iinc 5 1, 3, 0, 0, 0), none, none, some (.goto (-50), 3, 89, 0, 0), none, none, some (.iconst (-1), 1, 0, 0, 0), some (.ireturn, 1, 0, 0, 0)]]
def q_f110 : List (List (Option q_In)) := [[some (.iload_n 1, 1, 0, 0, 0), some (.aload_n 0, 1, 0, 0, 0), some (.getfield 48, 3, 9, 6, 2089), none, none, some (.getfield 321, 3, 1, 5, 1234), none, none, some (.bipush 30, 2, 0, 0, 0), none, some (.invokestatic 324, 3, 303, 0, 4126), none, none, some (.invokestatic 92, 3, 119, 0, 2133), none, none],
  [some (.ifCond .eq 15, 3, 31, 0, 0), none, none, some (.aload_n 0, 1, 0, 0, 0), some (.getfield 48, 3, 9, 6, 2089), none, none, some (.getfield 329, 3, 1, 6, 1236), none, none, some (.iload_n 1, 1, 0, 0, 0), some (.iaload, 1, 0, 0, 0), some (.goto 4, 3, 32, 0, 0), none, none, some (.iconst (-1), 1, 0, 0, 0)],
  [some (.ireturn, 1, 0, 0, 0)]]
def q_f111 : List (List (Option q_In)) := [[some (.aload_n 0, 1, 0, 0, 0), some (.getfield 65, 3, 9, 9, 2092), none, none, some (.iload_n 1, 1, 0, 0, 0), some (.invokevirtual 332, 3, 2, 0, 4133), none, none, some (.ireturn, 1, 0, 0, 0)]]
def q_f112 : List (List (Option q_In)) := [[some (.aload_n 0, 1, 0, 0, 0), some (.getfield 18, 3, 9, 1, 2084), none, none, some (.getfield 168, 3, 3, 2, 1146), none, none, some (.ifCond .ne 10, 3, 17, 0, 0), none, none, some (.aload_n 0, 1, 0, 0, 0), some (.bipush (-5), 2, 0, 0, 0), none, some (.invokevirtual 88, 3, 117, 0, 2136), none, none],
  [some (.ireturn, 1, 0, 0, 0), some (.iload_n 1, 1, 0, 0, 0), some (.iconst 1, 1, 0, 0, 0), some (.if_icmp .lt 9, 3, 28, 0, 0), none, none, some (.iload_n 1, 1, 0, 0, 0), some (.bipush 40, 2, 0, 0, 0), none, some (.if_icmp .le 10, 3, 35, 0, 0), none, none, some (.aload_n 0, 1, 0, 0, 0), some (.bipush (-6), 2, 0, 0, 0), none, some (.invokevirtual 88, 3, 117, 0, 2136)],
  [none, none, some (.ireturn, 1, 0, 0, 0), some (.iconst 0, 1, 0, 0, 0), some (.istore_n 2, 1, 0, 0, 0), some (.iload_n 2, 1, 0, 0, 0), some (.iload_n 1, 1, 0, 0, 0), some (.if_icmp .ge 13, 3, 52, 0, 0), none, none, some (.aload_n 0, 1, 0, 0, 0), some (.invokevirtual 334, 3, 131, 0, 4142), none, none, some (.iinc 2 1, 3, 0, 0, 0), none],
  [none, some (.goto (-12), 3, 37, 0, 0), none, none, some (.aload_n 0, 1, 0, 0, 0), some (.getfield 18, 3, 9, 1, 2084), none, none, some (.iconst 1, 1, 0, 0, 0), some (.invokevirtual 337, 3, 23, 0, 4151), none, none, some (.ireturn, 1, 0, 0, 0)]]
def q_f113 : List (List (Option q_In)) := [[some (.aload_n 0, 1, 0, 0, 0), some (.getfield 18, 3, 9, 1, 2084), none, none, some (.getfield 340, 3, 3, 5, 1153), none, none, some (.istore_n 2, 1, 0, 0, 0), some (.aload_n 0, 1, 0, 0, 0), some (.getfield 18, 3, 9, 1, 2084), none, none, some (.iload_n 1, 1, 0, 0, 0), some (.putfield 340, 3, 3, 5, 1153), none, none],
  [some (.iload_n 2, 1, 0, 0, 0), some (.ireturn, 1, 0, 0, 0)]]
def q_f114 : List (List (Option q_In)) := [[some (.aload_n 0, 1, 0, 0, 0), some (.getfield 22, 3, 9, 2, 2085), none, none, some (.aload_n 0, 1, 0, 0, 0), some (.getfield 18, 3, 9, 1, 2084), none, none, some (.invokevirtual 343, 3, 19, 0, 4163), none, none, some (.aload_n 0, 1, 0, 0, 0), some (.iconst 1, 1, 0, 0, 0), some (.putfield 25, 3, 9, 3, 2086), none, none],
  [some (.aload_n 0, 1, 0, 0, 0), some (.getfield 18, 3, 9, 1, 2084), none, none, some (.getfield 168, 3, 3, 2, 1146), none, none, some (.ireturn, 1, 0, 0, 0)]]
def q_f115 : List (List (Option q_In)) := [[some (.aload_n 0, 1, 0, 0, 0), some (.getfield 25, 3, 9, 3, 2086), none, none, some (.ifCond .ne 10, 3, 14, 0, 0), none, none, some (.aload_n 0, 1, 0, 0, 0), some (.bipush (-6), 2, 0, 0, 0), none, some (.invokevirtual 88, 3, 117, 0, 2136), none, none, some (.ireturn, 1, 0, 0, 0), some (.aload_n 0, 1, 0, 0, 0), some (.getfield 18, 3, 9, 1, 2084)],
  [none, none, some (.aload_n 0, 1, 0, 0, 0), some (.getfield 22, 3, 9, 2, 2085), none, none, some (.invokevirtual 343, 3, 19, 0, 4163), none, none, some (.iconst 0, 1, 0, 0, 0), some (.istore_n 1, 1, 0, 0, 0), some (.iload_n 1, 1, 0, 0, 0), some (.bipush 8, 2, 0, 0, 0), none, some (.if_icmp .ge 37, 3, 67, 0, 0), none],
  [none, some (.aload_n 0, 1, 0, 0, 0), some (.getfield 11, 3, 9, 0, 2083), none, none, some (.iload_n 1, 1, 0, 0, 0), some (.aaload, 1, 0, 0, 0), some (.getfield 144, 3, 6, 3, 2037), none, none, some (.aload_n 0, 1, 0, 0, 0), some (.getfield 18, 3, 9, 1, 2084), none, none, some (.getfield 168, 3, 3, 2, 1146), none],
  [none, some (.if_icmp .lt 12, 3, 61, 0, 0), none, none, some (.aload_n 0, 1, 0, 0, 0), some (.getfield 11, 3, 9, 0, 2083), none, none, some (.iload_n 1, 1, 0, 0, 0), some (.aaload, 1, 0, 0, 0), some (.invokevirtual 130, 3, 49, 0, 2203), none, none, some (.iinc 1 1, 3, 0, 0, 0), none, none],
  [some (.goto (-37), 3, 27, 0, 0), none, none, some (.aload_n 0, 1, 0, 0, 0), some (.getfield 18, 3, 9, 1, 2084), none, none, some (.getfield 168, 3, 3, 2, 1146), none, none, some (.ireturn, 1, 0, 0, 0)]]
def q_f116 : List (List (Option q_In)) := [[some (.iload_n 1, 1, 0, 0, 0), some (.bipush 10, 2, 0, 0, 0), none, some (.if_icmp .le 19, 3, 22, 0, 0), none, none, some (.iload_n 1, 1, 0, 0, 0), some (.bipush 17, 2, 0, 0, 0), none, some (.if_icmp .gt 13, 3, 22, 0, 0), none, none, some (.aload_n 0, 1, 0, 0, 0), some (.getfield 80, 3, 9, 13, 2096), none, none],
  [some (.iload_n 1, 1, 0, 0, 0), some (.bipush 10, 2, 0, 0, 0), none, some (.isub, 1, 0, 0, 0), some (.iaload, 1, 0, 0, 0), some (.ireturn, 1, 0, 0, 0), some (.iload_n 1, 1, 0, 0, 0), some (.tableswitch 133 0 9 #[53, 61, 70, 79, 88, 96, 104, 112, 117, 125], 53, 0, 0, 0), none, none, none, none, none, none, none, none],
  [none, none, none, none, none, none, none, none, none, none, none, none, none, none, none, none],
  [none, none, none, none, none, none, none, none, none, none, none, none, none, none, none, none],
  [none, none, none, none, none, none, none, none, none, none, none, none, some (.aload_n 0, 1, 0, 0, 0), some (.getfield 18, 3, 9, 1, 2084), none, none],
  [some (.getfield 168, 3, 3, 2, 1146), none, none, some (.ireturn, 1, 0, 0, 0), some (.aload_n 0, 1, 0, 0, 0), some (.getfield 18, 3, 9, 1, 2084), none, none, some (.iconst 1, 1, 0, 0, 0), some (.invokevirtual 337, 3, 23, 0, 4151), none, none, some (.ireturn, 1, 0, 0, 0), some (.aload_n 0, 1, 0, 0, 0), some (.getfield 18, 3, 9, 1, 2084), none],
  [none, some (.iconst 2, 1, 0, 0, 0), some (.invokevirtual 337, 3, 23, 0, 4151), none, none, some (.ireturn, 1, 0, 0, 0), some (.aload_n 0, 1, 0, 0, 0), some (.getfield 18, 3, 9, 1, 2084), none, none, some (.iconst 3, 1, 0, 0, 0), some (.invokevirtual 337, 3, 23, 0, 4151), none, none, some (.ireturn, 1, 0, 0, 0), some (.aload_n 0, 1, 0, 0, 0)],
  [some (.getfield 18, 3, 9, 1, 2084), none, none, some (.getfield 262, 3, 3, 3, 1149), none, none, some (.ireturn, 1, 0, 0, 0), some (.aload_n 0, 1, 0, 0, 0), some (.getfield 18, 3, 9, 1, 2084), none, none, some (.getfield 346, 3, 3, 4, 1151), none, none, some (.ireturn, 1, 0, 0, 0), some (.aload_n 0, 1, 0, 0, 0)],
  [some (.getfield 18, 3, 9, 1, 2084), none, none, some (.getfield 340, 3, 3, 5, 1153), none, none, some (.ireturn, 1, 0, 0, 0), some (.aload_n 0, 1, 0, 0, 0), some (.getfield 73, 3, 9, 11, 2094), none, none, some (.ireturn, 1, 0, 0, 0), some (.aload_n 0, 1, 0, 0, 0), some (.getfield 48, 3, 9, 6, 2089), none, none],
  [some (.getfield 321, 3, 1, 5, 1234), none, none, some (.ireturn, 1, 0, 0, 0), some (.aload_n 0, 1, 0, 0, 0), some (.getfield 65, 3, 9, 9, 2092), none, none, some (.getfield 349, 3, 0, 1, 2076), none, none, some (.ireturn, 1, 0, 0, 0), some (.iconst (-1), 1, 0, 0, 0), some (.ireturn, 1, 0, 0, 0)]]
def q_f117 : List (List (Option q_In)) := [[some (.iload_n 1, 1, 0, 0, 0), some (.ineg, 1, 0, 0, 0), some (.istore_n 2, 1, 0, 0, 0), some (.iload_n 2, 1, 0, 0, 0), some (.iconst 1, 1, 0, 0, 0), some (.if_icmp .lt 19, 3, 24, 0, 0), none, none, some (.iload_n 2, 1, 0, 0, 0), some (.bipush 7, 2, 0, 0, 0), none, some (.if_icmp .gt 13, 3, 24, 0, 0), none, none, some (.aload_n 0, 1, 0, 0, 0), some (.getfield 80, 3, 9, 13, 2096)],
  [none, none, some (.iload_n 2, 1, 0, 0, 0), some (.dup2, 1, 0, 0, 0), some (.iaload, 1, 0, 0, 0), some (.iconst 1, 1, 0, 0, 0), some (.iadd, 1, 0, 0, 0), some (.iastore, 1, 0, 0, 0), some (.iload_n 1, 1, 0, 0, 0), some (.ireturn, 1, 0, 0, 0)]]
def q_f118 : List (List (Option q_In)) := [[some (.aload_n 0, 1, 0, 0, 0), some (.iload_n 1, 1, 0, 0, 0), some (.invokevirtual 88, 3, 117, 0, 2136), none, none, some (.bipush 10, 2, 0, 0, 0), none, some (.isub, 1, 0, 0, 0), some (.ireturn, 1, 0, 0, 0)]]
def q_f119 : List (List (Option q_In)) := [[some (.iload_n 0, 1, 0, 0, 0), some (.ifCond .lt 12, 3, 13, 0, 0), none, none, some (.iload_n 0, 1, 0, 0, 0), some (.iload_n 1, 1, 0, 0, 0), some (.if_icmp .ge 7, 3, 13, 0, 0), none, none, some (.iconst 1, 1, 0, 0, 0), some (.goto 4, 3, 14, 0, 0), none, none, some (.iconst 0, 1, 0, 0, 0), some (.ireturn, 1, 0, 0, 0)]]
def q_f120 : List (List (Option q_In)) := [[some (.iload_n 0, 1, 0, 0, 0), some (.ifCond .lt 12, 3, 13, 0, 0), none, none, some (.iload_n 0, 1, 0, 0, 0), some (.iload_n 1, 1, 0, 0, 0), some (.if_icmp .gt 7, 3, 13, 0, 0), none, none, some (.iconst 1, 1, 0, 0, 0), some (.goto 4, 3, 14, 0, 0), none, none, some (.iconst 0, 1, 0, 0, 0), some (.ireturn, 1, 0, 0, 0)]]
def q_f121 : List (List (Option q_In)) := [[some (.iload_n 0, 1, 0, 0, 0), some (.bipush 8, 2, 0, 0, 0), none, some (.invokestatic 92, 3, 119, 0, 2133), none, none, some (.ireturn, 1, 0, 0, 0)]]
def q_f122 : List (List (Option q_In)) := [[some (.iload_n 1, 1, 0, 0, 0), some (.invokestatic 84, 3, 121, 0, 2130), none, none, some (.ifCond .ne 5, 3, 9, 0, 0), none, none, some (.iconst (-1), 1, 0, 0, 0), some (.ireturn, 1, 0, 0, 0), some (.aload_n 0, 1, 0, 0, 0), some (.getfield 11, 3, 9, 0, 2083), none, none, some (.iload_n 1, 1, 0, 0, 0), some (.aaload, 1, 0, 0, 0), some (.invokevirtual 352, 3, 51, 0, 2155)],
  [none, none, some (.ifCond .eq 6, 3, 24, 0, 0), none, none, some (.bipush (-2), 2, 0, 0, 0), none, some (.ireturn, 1, 0, 0, 0), some (.aload_n 0, 1, 0, 0, 0), some (.getfield 11, 3, 9, 0, 2083), none, none, some (.iload_n 1, 1, 0, 0, 0), some (.aaload, 1, 0, 0, 0), some (.invokevirtual 137, 3, 50, 0, 2159), none],
  [none, some (.ifCond .eq 7, 3, 40, 0, 0), none, none, some (.iconst 0, 1, 0, 0, 0), some (.goto 5, 3, 42, 0, 0), none, none, some (.bipush (-3), 2, 0, 0, 0), none, some (.ireturn, 1, 0, 0, 0)]]
def q_f123 : List (List (Option q_In)) := [[some (.aload_n 0, 1, 0, 0, 0), some (.iload_n 1, 1, 0, 0, 0), some (.invokevirtual 100, 3, 122, 0, 2151), none, none, some (.istore_n 3, 1, 0, 0, 0), some (.aload_n 0, 1, 0, 0, 0), some (.iload_n 2, 1, 0, 0, 0), some (.invokevirtual 100, 3, 122, 0, 2151), none, none, some (.istore 4, 2, 0, 0, 0), none, some (.iload_n 3, 1, 0, 0, 0), some (.iconst (-1), 1, 0, 0, 0), some (.if_icmp .eq 9, 3, 24, 0, 0)],
  [none, none, some (.iload 4, 2, 0, 0, 0), none, some (.iconst (-1), 1, 0, 0, 0), some (.if_icmp .ne 5, 3, 26, 0, 0), none, none, some (.iconst (-1), 1, 0, 0, 0), some (.ireturn, 1, 0, 0, 0), some (.iload_n 3, 1, 0, 0, 0), some (.bipush (-2), 2, 0, 0, 0), none, some (.if_icmp .eq 10, 3, 39, 0, 0), none, none],
  [some (.iload 4, 2, 0, 0, 0), none, some (.bipush (-2), 2, 0, 0, 0), none, some (.if_icmp .ne 6, 3, 42, 0, 0), none, none, some (.bipush (-2), 2, 0, 0, 0), none, some (.ireturn, 1, 0, 0, 0), some (.iload_n 3, 1, 0, 0, 0), some (.bipush (-3), 2, 0, 0, 0), none, some (.if_icmp .eq 10, 3, 55, 0, 0), none, none],
  [some (.iload 4, 2, 0, 0, 0), none, some (.bipush (-3), 2, 0, 0, 0), none, some (.if_icmp .ne 6, 3, 58, 0, 0), none, none, some (.bipush (-3), 2, 0, 0, 0), none, some (.ireturn, 1, 0, 0, 0), some (.aload_n 0, 1, 0, 0, 0), some (.getfield 11, 3, 9, 0, 2083), none, none, some (.iload_n 1, 1, 0, 0, 0), some (.aaload, 1, 0, 0, 0)],
  [some (.getfield 141, 3, 6, 1, 2032), none, none, some (.aload_n 0, 1, 0, 0, 0), some (.getfield 11, 3, 9, 0, 2083), none, none, some (.iload_n 2, 1, 0, 0, 0), some (.aaload, 1, 0, 0, 0), some (.getfield 141, 3, 6, 1, 2032), none, none, some (.if_icmp .ne 7, 3, 83, 0, 0), none, none, some (.iconst 0, 1, 0, 0, 0)],
  [some (.goto 5, 3, 85, 0, 0), none, none, some (.bipush (-2), 2, 0, 0, 0), none, some (.ireturn, 1, 0, 0, 0)]]
def q_f124 : List (List (Option q_In)) := [[some (.iload_n 0, 1, 0, 0, 0), some (.iconst 1, 1, 0, 0, 0), some (.if_icmp .lt 10, 3, 12, 0, 0), none, none, some (.iload_n 0, 1, 0, 0, 0), some (.ldc_w 354, 3, 531440, 0, 3004), none, none, some (.if_icmp .le 5, 3, 14, 0, 0), none, none, some (.iconst 0, 1, 0, 0, 0), some (.ireturn, 1, 0, 0, 0), some (.iload_n 0, 1, 0, 0, 0), some (.istore_n 1, 1, 0, 0, 0)],
  [some (.iconst 0, 1, 0, 0, 0), some (.istore_n 2, 1, 0, 0, 0), some (.iload_n 2, 1, 0, 0, 0), some (.iconst 4, 1, 0, 0, 0), some (.if_icmp .ge 27, 3, 47, 0, 0), none, none, some (.iload_n 1, 1, 0, 0, 0), some (.ifCond .le 23, 3, 47, 0, 0), none, none, some (.iload_n 1, 1, 0, 0, 0), some (.bipush 27, 2, 0, 0, 0), none, some (.irem, 1, 0, 0, 0), some (.ifCond .ne 5, 3, 36, 0, 0)],
  [none, none, some (.iconst 0, 1, 0, 0, 0), some (.ireturn, 1, 0, 0, 0), some (.iload_n 1, 1, 0, 0, 0), some (.bipush 27, 2, 0, 0, 0), none, some (.idiv, 1, 0, 0, 0), some (.istore_n 1, 1, 0, 0, 0), some (.iinc 2 1, 3, 0, 0, 0), none, none, some (.goto (-26), 3, 18, 0, 0), none, none, some (.iconst 1, 1, 0, 0, 0)],
  [some (.ireturn, 1, 0, 0, 0)]]
def q_f125 : List (List (Option q_In)) := [[some (.aload_n 0, 1, 0, 0, 0), some (.getfield 34, 3, 9, 4, 2087), none, none, some (.iload_n 1, 1, 0, 0, 0), some (.invokevirtual 242, 3, 31, 0, 3147), none, none, some (.istore_n 2, 1, 0, 0, 0), some (.iconst 0, 1, 0, 0, 0), some (.istore_n 3, 1, 0, 0, 0), some (.iload_n 3, 1, 0, 0, 0), some (.aload_n 0, 1, 0, 0, 0), some (.getfield 34, 3, 9, 4, 2087), none, none],
  [some (.getfield 230, 3, 4, 2, 1177), none, none, some (.if_icmp .ge 22, 3, 41, 0, 0), none, none, some (.aload_n 0, 1, 0, 0, 0), some (.aload_n 0, 1, 0, 0, 0), some (.getfield 34, 3, 9, 4, 2087), none, none, some (.getfield 245, 3, 4, 1, 1175), none, none, some (.iload_n 3, 1, 0, 0, 0), some (.iaload, 1, 0, 0, 0)],
  [some (.invokevirtual 355, 3, 127, 0, 3179), none, none, some (.iinc 3 1, 3, 0, 0, 0), none, none, some (.goto (-27), 3, 11, 0, 0), none, none, some (.iload_n 2, 1, 0, 0, 0), some (.ifCond .ne 18, 3, 60, 0, 0), none, none, some (.aload_n 0, 1, 0, 0, 0), some (.aload_n 0, 1, 0, 0, 0), some (.getfield 34, 3, 9, 4, 2087)],
  [none, none, some (.getfield 356, 3, 4, 3, 1179), none, none, some (.invokevirtual 359, 3, 129, 0, 3187), none, none, some (.aload_n 0, 1, 0, 0, 0), some (.invokevirtual 362, 3, 126, 0, 3191), none, none, some (.iload_n 2, 1, 0, 0, 0), some (.ireturn, 1, 0, 0, 0)]]
def q_f126 : List (List (Option q_In)) := [[some (.aload_n 0, 1, 0, 0, 0), some (.getfield 34, 3, 9, 4, 2087), none, none, some (.getfield 230, 3, 4, 2, 1177), none, none, some (.iconst 1, 1, 0, 0, 0), some (.isub, 1, 0, 0, 0), some (.istore_n 1, 1, 0, 0, 0), some (.iload_n 1, 1, 0, 0, 0), some (.ifCond .lt 22, 3, 33, 0, 0), none, none, some (.aload_n 0, 1, 0, 0, 0), some (.aload_n 0, 1, 0, 0, 0)],
  [some (.getfield 34, 3, 9, 4, 2087), none, none, some (.getfield 245, 3, 4, 1, 1175), none, none, some (.iload_n 1, 1, 0, 0, 0), some (.iaload, 1, 0, 0, 0), some (.invokevirtual 365, 3, 128, 0, 3195), none, none, some (.iinc 1 (-1), 3, 0, 0, 0), none, none, some (.goto (-20), 3, 10, 0, 0), none],
  [none, some (.return_, 1, 0, 0, 0)]]
def q_f127 : List (List (Option q_In)) := [[some (.aload_n 0, 1, 0, 0, 0), some (.getfield 18, 3, 9, 1, 2084), none, none, some (.iload_n 1, 1, 0, 0, 0), some (.invokevirtual 127, 3, 20, 0, 2199), none, none, some (.ifCond .eq 59, 3, 67, 0, 0), none, none, some (.aload_n 0, 1, 0, 0, 0), some (.getfield 18, 3, 9, 1, 2084), none, none, some (.getfield 147, 3, 3, 0, 1137)],
  [none, none, some (.iload_n 1, 1, 0, 0, 0), some (.aaload, 1, 0, 0, 0), some (.iconst 1, 1, 0, 0, 0), some (.putfield 183, 3, 5, 9, 1073), none, none, some (.aload_n 0, 1, 0, 0, 0), some (.getfield 18, 3, 9, 1, 2084), none, none, some (.getfield 147, 3, 3, 0, 1137), none, none, some (.iload_n 1, 1, 0, 0, 0)],
  [some (.aaload, 1, 0, 0, 0), some (.aload_n 0, 1, 0, 0, 0), some (.getfield 18, 3, 9, 1, 2084), none, none, some (.getfield 346, 3, 3, 4, 1151), none, none, some (.putfield 213, 3, 5, 10, 1077), none, none, some (.aload_n 0, 1, 0, 0, 0), some (.getfield 18, 3, 9, 1, 2084), none, none, some (.dup, 1, 0, 0, 0)],
  [some (.getfield 346, 3, 3, 4, 1151), none, none, some (.iconst 1, 1, 0, 0, 0), some (.iadd, 1, 0, 0, 0), some (.putfield 346, 3, 3, 4, 1151), none, none, some (.aload_n 0, 1, 0, 0, 0), some (.getfield 65, 3, 9, 9, 2092), none, none, some (.bipush 100, 2, 0, 0, 0), none, some (.iload_n 1, 1, 0, 0, 0), some (.iadd, 1, 0, 0, 0)],
  [some (.invokevirtual 368, 3, 1, 0, 3183), none, none, some (.return_, 1, 0, 0, 0)]]
def q_f128 : List (List (Option q_In)) := [[some (.aload_n 0, 1, 0, 0, 0), some (.getfield 18, 3, 9, 1, 2084), none, none, some (.iload_n 1, 1, 0, 0, 0), some (.invokevirtual 127, 3, 20, 0, 2199), none, none, some (.ifCond .eq 28, 3, 36, 0, 0), none, none, some (.aload_n 0, 1, 0, 0, 0), some (.getfield 18, 3, 9, 1, 2084), none, none, some (.getfield 147, 3, 3, 0, 1137)],
  [none, none, some (.iload_n 1, 1, 0, 0, 0), some (.aaload, 1, 0, 0, 0), some (.iconst 0, 1, 0, 0, 0), some (.putfield 183, 3, 5, 9, 1073), none, none, some (.aload_n 0, 1, 0, 0, 0), some (.getfield 65, 3, 9, 9, 2092), none, none, some (.sipush 200, 3, 0, 0, 0), none, none, some (.iload_n 1, 1, 0, 0, 0)],
  [some (.iadd, 1, 0, 0, 0), some (.invokevirtual 368, 3, 1, 0, 3183), none, none, some (.return_, 1, 0, 0, 0)]]
def q_f129 : List (List (Option q_In)) := [[some (.aload_n 0, 1, 0, 0, 0), some (.getfield 18, 3, 9, 1, 2084), none, none, some (.iload_n 1, 1, 0, 0, 0), some (.invokevirtual 127, 3, 20, 0, 2199), none, none, some (.ifCond .eq 46, 3, 54, 0, 0), none, none, some (.aload_n 0, 1, 0, 0, 0), some (.getfield 18, 3, 9, 1, 2084), none, none, some (.getfield 147, 3, 3, 0, 1137)],
  [none, none, some (.iload_n 1, 1, 0, 0, 0), some (.aaload, 1, 0, 0, 0), some (.dup, 1, 0, 0, 0), some (.getfield 198, 3, 5, 4, 1056), none, none, some (.iconst 1, 1, 0, 0, 0), some (.isub, 1, 0, 0, 0), some (.putfield 198, 3, 5, 4, 1056), none, none, some (.aload_n 0, 1, 0, 0, 0), some (.getfield 18, 3, 9, 1, 2084), none],
  [none, some (.getfield 147, 3, 3, 0, 1137), none, none, some (.iload_n 1, 1, 0, 0, 0), some (.aaload, 1, 0, 0, 0), some (.iconst 2, 1, 0, 0, 0), some (.putfield 183, 3, 5, 9, 1073), none, none, some (.aload_n 0, 1, 0, 0, 0), some (.getfield 65, 3, 9, 9, 2092), none, none, some (.sipush 300, 3, 0, 0, 0), none],
  [none, some (.iload_n 1, 1, 0, 0, 0), some (.iadd, 1, 0, 0, 0), some (.invokevirtual 368, 3, 1, 0, 3183), none, none, some (.return_, 1, 0, 0, 0)]]
def q_f130 : List (List (Option q_In)) := [[some (.aload_n 0, 1, 0, 0, 0), some (.getfield 41, 3, 9, 5, 2088), none, none, some (.iload_n 1, 1, 0, 0, 0), some (.invokevirtual 236, 3, 72, 0, 3211), none, none, some (.istore_n 2, 1, 0, 0, 0), some (.iconst 0, 1, 0, 0, 0), some (.istore_n 3, 1, 0, 0, 0), some (.iload_n 3, 1, 0, 0, 0), some (.iload_n 2, 1, 0, 0, 0), some (.if_icmp .ge 20, 3, 33, 0, 0), none, none],
  [some (.aload_n 0, 1, 0, 0, 0), some (.aload_n 0, 1, 0, 0, 0), some (.getfield 41, 3, 9, 5, 2088), none, none, some (.invokevirtual 371, 3, 76, 0, 3234), none, none, some (.invokevirtual 365, 3, 128, 0, 3195), none, none, some (.iinc 3 1, 3, 0, 0, 0), none, none, some (.goto (-19), 3, 11, 0, 0), none],
  [none, some (.iload_n 2, 1, 0, 0, 0), some (.ireturn, 1, 0, 0, 0)]]
def q_f131 : List (List (Option q_In)) := [[some (.aload_n 0, 1, 0, 0, 0), some (.getfield 18, 3, 9, 1, 2084), none, none, some (.aload_n 0, 1, 0, 0, 0), some (.getfield 18, 3, 9, 1, 2084), none, none, some (.getfield 168, 3, 3, 2, 1146), none, none, some (.invokevirtual 374, 3, 29, 0, 4146), none, none, some (.istore_n 1, 1, 0, 0, 0), some (.aload_n 0, 1, 0, 0, 0)],
  [some (.getfield 18, 3, 9, 1, 2084), none, none, some (.iconst 3, 1, 0, 0, 0), some (.invokevirtual 374, 3, 29, 0, 4146), none, none, some (.istore_n 2, 1, 0, 0, 0), some (.aload_n 0, 1, 0, 0, 0), some (.getfield 18, 3, 9, 1, 2084), none, none, some (.iload_n 1, 1, 0, 0, 0), some (.invokevirtual 127, 3, 20, 0, 2199), none, none],
  [some (.ifCond .ne 4, 3, 36, 0, 0), none, none, some (.return_, 1, 0, 0, 0), some (.aload_n 0, 1, 0, 0, 0), some (.getfield 18, 3, 9, 1, 2084), none, none, some (.getfield 147, 3, 3, 0, 1137), none, none, some (.iload_n 1, 1, 0, 0, 0), some (.aaload, 1, 0, 0, 0), some (.getfield 183, 3, 5, 9, 1073), none, none],
  [some (.istore_n 3, 1, 0, 0, 0), some (.iload_n 2, 1, 0, 0, 0), some (.ifCond .ne 17, 3, 67, 0, 0), none, none, some (.iload_n 3, 1, 0, 0, 0), some (.iconst 1, 1, 0, 0, 0), some (.if_icmp .eq 12, 3, 67, 0, 0), none, none, some (.aload_n 0, 1, 0, 0, 0), some (.iload_n 1, 1, 0, 0, 0), some (.invokevirtual 225, 3, 125, 0, 3143), none, none, some (.pop, 1, 0, 0, 0)],
  [some (.goto 45, 3, 109, 0, 0), none, none, some (.iload_n 2, 1, 0, 0, 0), some (.iconst 1, 1, 0, 0, 0), some (.if_icmp .ne 17, 3, 86, 0, 0), none, none, some (.iload_n 3, 1, 0, 0, 0), some (.iconst 1, 1, 0, 0, 0), some (.if_icmp .ne 12, 3, 86, 0, 0), none, none, some (.aload_n 0, 1, 0, 0, 0), some (.iload_n 1, 1, 0, 0, 0), some (.invokevirtual 233, 3, 130, 0, 3207)],
  [none, none, some (.pop, 1, 0, 0, 0), some (.goto 26, 3, 109, 0, 0), none, none, some (.iload_n 2, 1, 0, 0, 0), some (.iconst 2, 1, 0, 0, 0), some (.if_icmp .ne 21, 3, 109, 0, 0), none, none, some (.iload_n 3, 1, 0, 0, 0), some (.iconst 2, 1, 0, 0, 0), some (.if_icmp .ne 16, 3, 109, 0, 0), none, none],
  [some (.aload_n 0, 1, 0, 0, 0), some (.getfield 18, 3, 9, 1, 2084), none, none, some (.getfield 147, 3, 3, 0, 1137), none, none, some (.iload_n 1, 1, 0, 0, 0), some (.aaload, 1, 0, 0, 0), some (.iconst 0, 1, 0, 0, 0), some (.putfield 183, 3, 5, 9, 1073), none, none, some (.return_, 1, 0, 0, 0)]]
def q_f132 : List (List (Option q_In)) := [[some (.aload_n 0, 1, 0, 0, 0), some (.invokespecial 1, 3, 300, 0, 4186), none, none, some (.aload_n 0, 1, 0, 0, 0), some (.bipush 108, 2, 0, 0, 0), none, some (.newarray .int, 2, 0, 0, 1203), none, some (.putfield 7, 3, 10, 1, 4188), none, none, some (.aload_n 0, 1, 0, 0, 0), some (.bipush 120, 2, 0, 0, 0), none, some (.newarray .int, 2, 0, 0, 1203)],
  [none, some (.putfield 13, 3, 10, 5, 4192), none, none, some (.aload_n 0, 1, 0, 0, 0), some (.bipush 8, 2, 0, 0, 0), none, some (.newarray .int, 2, 0, 0, 1203), none, some (.putfield 16, 3, 10, 6, 4193), none, none, some (.aload_n 0, 1, 0, 0, 0), some (.bipush 8, 2, 0, 0, 0), none, some (.newarray .int, 2, 0, 0, 1203)],
  [none, some (.putfield 19, 3, 10, 7, 4194), none, none, some (.aload_n 0, 1, 0, 0, 0), some (.sipush 1280, 3, 0, 0, 0), none, none, some (.newarray .long, 2, 0, 0, 2047), none, some (.putfield 22, 3, 10, 8, 4195), none, none, some (.aload_n 0, 1, 0, 0, 0), some (.bipush 36, 2, 0, 0, 0), none],
  [some (.newarray .int, 2, 0, 0, 1203), none, some (.putfield 26, 3, 10, 13, 4200), none, none, some (.aload_n 0, 1, 0, 0, 0), some (.bipush 36, 2, 0, 0, 0), none, some (.newarray .int, 2, 0, 0, 1203), none, some (.putfield 29, 3, 10, 15, 4202), none, none, some (.aload_n 0, 1, 0, 0, 0), some (.bipush 12, 2, 0, 0, 0), none],
  [some (.newarray .int, 2, 0, 0, 1203), none, some (.putfield 32, 3, 10, 18, 4205), none, none, some (.aload_n 0, 1, 0, 0, 0), some (.bipush 40, 2, 0, 0, 0), none, some (.newarray .int, 2, 0, 0, 1203), none, some (.putfield 35, 3, 10, 21, 4208), none, none, some (.aload_n 0, 1, 0, 0, 0), some (.bipush 12, 2, 0, 0, 0), none],
  [some (.newarray .int, 2, 0, 0, 1203), none, some (.putfield 38, 3, 10, 22, 4209), none, none, some (.aload_n 0, 1, 0, 0, 0), some (.bipush 24, 2, 0, 0, 0), none, some (.newarray .int, 2, 0, 0, 1203), none, some (.putfield 41, 3, 10, 24, 4211), none, none, some (.aload_n 0, 1, 0, 0, 0), some (.bipush 30, 2, 0, 0, 0), none],
  [some (.newarray .int, 2, 0, 0, 1203), none, some (.putfield 44, 3, 10, 28, 4215), none, none, some (.aload_n 0, 1, 0, 0, 0), some (.bipush 12, 2, 0, 0, 0), none, some (.newarray .int, 2, 0, 0, 1203), none, some (.putfield 47, 3, 10, 29, 4216), none, none, some (.aload_n 0, 1, 0, 0, 0), some (.bipush 30, 2, 0, 0, 0), none],
  [some (.newarray .int, 2, 0, 0, 1203), none, some (.putfield 50, 3, 10, 31, 4218), none, none, some (.aload_n 0, 1, 0, 0, 0), some (.bipush 8, 2, 0, 0, 0), none, some (.newarray .int, 2, 0, 0, 1203), none, some (.putfield 53, 3, 10, 33, 4220), none, none, some (.aload_n 0, 1, 0, 0, 0), some (.sipush 232, 3, 0, 0, 0), none],
  [none, some (.newarray .int, 2, 0, 0, 1203), none, some (.putfield 56, 3, 10, 35, 4222), none, none, some (.aload_n 0, 1, 0, 0, 0), some (.sipush 232, 3, 0, 0, 0), none, none, some (.newarray .int, 2, 0, 0, 1203), none, some (.putfield 59, 3, 10, 36, 4223), none, none, some (.aload_n 0, 1, 0, 0, 0)],
  [some (.iconst 1, 1, 0, 0, 0), some (.putfield 62, 3, 10, 3, 4190), none, none, some (.aload_n 0, 1, 0, 0, 0), some (.iconst (-1), 1, 0, 0, 0), some (.putfield 66, 3, 10, 9, 4196), none, none, some (.iconst 0, 1, 0, 0, 0), some (.istore_n 1, 1, 0, 0, 0), some (.iload_n 1, 1, 0, 0, 0), some (.bipush 8, 2, 0, 0, 0), none, some (.if_icmp .ge 16, 3, 174, 0, 0), none],
  [none, some (.aload_n 0, 1, 0, 0, 0), some (.getfield 16, 3, 10, 6, 4193), none, none, some (.iload_n 1, 1, 0, 0, 0), some (.iconst (-1), 1, 0, 0, 0), some (.iastore, 1, 0, 0, 0), some (.iinc 1 1, 3, 0, 0, 0), none, none, some (.goto (-16), 3, 155, 0, 0), none, none, some (.return_, 1, 0, 0, 0)]]
def q_f133 : List (List (Option q_In)) := [[some (.aload_n 0, 1, 0, 0, 0), some (.getfield 53, 3, 10, 33, 4220), none, none, some (.iload_n 1, 1, 0, 0, 0), some (.ineg, 1, 0, 0, 0), some (.dup2, 1, 0, 0, 0), some (.iaload, 1, 0, 0, 0), some (.iconst 1, 1, 0, 0, 0), some (.iadd, 1, 0, 0, 0), some (.iastore, 1, 0, 0, 0), some (.iload_n 1, 1, 0, 0, 0), some (.ireturn, 1, 0, 0, 0)]]
def q_f134 : List (List (Option q_In)) := [[some (.aload_n 0, 1, 0, 0, 0), some (.iload_n 1, 1, 0, 0, 0), some (.invokevirtual 69, 3, 133, 0, 5066), none, none, some (.bipush 10, 2, 0, 0, 0), none, some (.isub, 1, 0, 0, 0), some (.ireturn, 1, 0, 0, 0)]]
def q_f135 : List (List (Option q_In)) := [[some (.iload_n 0, 1, 0, 0, 0), some (.iload_n 1, 1, 0, 0, 0), some (.if_icmp .lt 12, 3, 14, 0, 0), none, none, some (.iload_n 0, 1, 0, 0, 0), some (.iload_n 2, 1, 0, 0, 0), some (.if_icmp .gt 7, 3, 14, 0, 0), none, none, some (.iconst 1, 1, 0, 0, 0), some (.goto 4, 3, 15, 0, 0), none, none, some (.iconst 0, 1, 0, 0, 0), some (.ireturn, 1, 0, 0, 0)]]
def q_f136 : List (List (Option q_In)) := [[some (.iload_n 1, 1, 0, 0, 0), some (.iconst 0, 1, 0, 0, 0), some (.aload_n 0, 1, 0, 0, 0), some (.getfield 73, 3, 10, 0, 4187), none, none, some (.iconst 1, 1, 0, 0, 0), some (.isub, 1, 0, 0, 0), some (.invokestatic 76, 3, 135, 0, 5063), none, none, some (.ireturn, 1, 0, 0, 0)]]
def q_f137 : List (List (Option q_In)) := [[some (.iload_n 0, 1, 0, 0, 0), some (.iconst 0, 1, 0, 0, 0), some (.iconst 3, 1, 0, 0, 0), some (.invokestatic 76, 3, 135, 0, 5063), none, none, some (.ireturn, 1, 0, 0, 0)]]
def q_f138 : List (List (Option q_In)) := [[some (.iload_n 0, 1, 0, 0, 0), some (.iconst 0, 1, 0, 0, 0), some (.bipush 7, 2, 0, 0, 0), none, some (.invokestatic 76, 3, 135, 0, 5063), none, none, some (.ireturn, 1, 0, 0, 0)]]
def q_f139 : List (List (Option q_In)) := [[some (.aload_n 0, 1, 0, 0, 0), some (.getfield 16, 3, 10, 6, 4193), none, none, some (.iload_n 1, 1, 0, 0, 0), some (.iaload, 1, 0, 0, 0), some (.bipush 100, 2, 0, 0, 0), none, some (.if_icmp .lt 7, 3, 15, 0, 0), none, none, some (.iconst 1, 1, 0, 0, 0), some (.goto 4, 3, 16, 0, 0), none, none, some (.iconst 0, 1, 0, 0, 0)],
  [some (.ireturn, 1, 0, 0, 0)]]
def q_f140 : List (List (Option q_In)) := [[some (.aload_n 0, 1, 0, 0, 0), some (.getfield 7, 3, 10, 1, 4188), none, none, some (.bipush 12, 2, 0, 0, 0), none, some (.iload_n 1, 1, 0, 0, 0), some (.imul, 1, 0, 0, 0), some (.iload_n 2, 1, 0, 0, 0), some (.iadd, 1, 0, 0, 0), some (.iaload, 1, 0, 0, 0), some (.ireturn, 1, 0, 0, 0)]]
def q_f141 : List (List (Option q_In)) := [[some (.aload_n 0, 1, 0, 0, 0), some (.getfield 7, 3, 10, 1, 4188), none, none, some (.iload_n 1, 1, 0, 0, 0), some (.iaload, 1, 0, 0, 0), some (.ireturn, 1, 0, 0, 0)]]
def q_f142 : List (List (Option q_In)) := [[some (.aload_n 0, 1, 0, 0, 0), some (.iconst 3, 1, 0, 0, 0), some (.iload_n 1, 1, 0, 0, 0), some (.invokevirtual 80, 3, 140, 0, 5106), none, none, some (.iload_n 2, 1, 0, 0, 0), some (.ishr, 1, 0, 0, 0), some (.iconst 1, 1, 0, 0, 0), some (.iand, 1, 0, 0, 0), some (.iconst 1, 1, 0, 0, 0), some (.if_icmp .ne 7, 3, 18, 0, 0), none, none, some (.iconst 1, 1, 0, 0, 0), some (.goto 4, 3, 19, 0, 0)],
  [none, none, some (.iconst 0, 1, 0, 0, 0), some (.ireturn, 1, 0, 0, 0)]]
def q_f143 : List (List (Option q_In)) := [[some (.aload_n 0, 1, 0, 0, 0), some (.iconst 4, 1, 0, 0, 0), some (.iload_n 1, 1, 0, 0, 0), some (.invokevirtual 80, 3, 140, 0, 5106), none, none, some (.iload_n 2, 1, 0, 0, 0), some (.ishr, 1, 0, 0, 0), some (.iconst 1, 1, 0, 0, 0), some (.iand, 1, 0, 0, 0), some (.iconst 1, 1, 0, 0, 0), some (.if_icmp .ne 7, 3, 18, 0, 0), none, none, some (.iconst 1, 1, 0, 0, 0), some (.goto 4, 3, 19, 0, 0)],
  [none, none, some (.iconst 0, 1, 0, 0, 0), some (.ireturn, 1, 0, 0, 0)]]
def q_f144 : List (List (Option q_In)) := [[some (.aload_n 0, 1, 0, 0, 0), some (.bipush 7, 2, 0, 0, 0), none, some (.iload_n 1, 1, 0, 0, 0), some (.invokevirtual 80, 3, 140, 0, 5106), none, none, some (.aload_n 0, 1, 0, 0, 0), some (.bipush 7, 2, 0, 0, 0), none, some (.iload_n 2, 1, 0, 0, 0), some (.invokevirtual 80, 3, 140, 0, 5106), none, none, some (.if_icmp .ge 7, 3, 21, 0, 0), none],
  [none, some (.iconst 1, 1, 0, 0, 0), some (.goto 4, 3, 22, 0, 0), none, none, some (.iconst 0, 1, 0, 0, 0), some (.ireturn, 1, 0, 0, 0)]]
def q_f145 : List (List (Option q_In)) := [[some (.iload_n 1, 1, 0, 0, 0), some (.iconst 0, 1, 0, 0, 0), some (.bipush 7, 2, 0, 0, 0), none, some (.invokestatic 76, 3, 135, 0, 5063), none, none, some (.ifCond .ne 9, 3, 16, 0, 0), none, none, some (.aload_n 0, 1, 0, 0, 0), some (.iconst (-1), 1, 0, 0, 0), some (.invokevirtual 69, 3, 133, 0, 5066), none, none, some (.ireturn, 1, 0, 0, 0)],
  [some (.iload_n 3, 1, 0, 0, 0), some (.ifCond .ge 10, 3, 27, 0, 0), none, none, some (.aload_n 0, 1, 0, 0, 0), some (.bipush (-4), 2, 0, 0, 0), none, some (.invokevirtual 69, 3, 133, 0, 5066), none, none, some (.ireturn, 1, 0, 0, 0), some (.iload_n 2, 1, 0, 0, 0), some (.iconst 0, 1, 0, 0, 0), some (.iconst 3, 1, 0, 0, 0), some (.invokestatic 76, 3, 135, 0, 5063), none],
  [none, some (.ifCond .ne 10, 3, 43, 0, 0), none, none, some (.aload_n 0, 1, 0, 0, 0), some (.bipush (-6), 2, 0, 0, 0), none, some (.invokevirtual 69, 3, 133, 0, 5066), none, none, some (.ireturn, 1, 0, 0, 0), some (.iload_n 3, 1, 0, 0, 0), some (.sipush 160, 3, 0, 0, 0), none, none, some (.if_icmp .le 10, 3, 57, 0, 0)],
  [none, none, some (.aload_n 0, 1, 0, 0, 0), some (.bipush (-7), 2, 0, 0, 0), none, some (.invokevirtual 69, 3, 133, 0, 5066), none, none, some (.ireturn, 1, 0, 0, 0), some (.aload_n 0, 1, 0, 0, 0), some (.getfield 16, 3, 10, 6, 4193), none, none, some (.iload_n 1, 1, 0, 0, 0), some (.bipush 100, 2, 0, 0, 0), none],
  [some (.iload_n 2, 1, 0, 0, 0), some (.iadd, 1, 0, 0, 0), some (.iastore, 1, 0, 0, 0), some (.aload_n 0, 1, 0, 0, 0), some (.getfield 19, 3, 10, 7, 4194), none, none, some (.iload_n 1, 1, 0, 0, 0), some (.iload_n 3, 1, 0, 0, 0), some (.iastore, 1, 0, 0, 0), some (.iconst 0, 1, 0, 0, 0), some (.istore 4, 2, 0, 0, 0), none, some (.iload 4, 2, 0, 0, 0), none, some (.sipush 160, 3, 0, 0, 0)],
  [none, none, some (.if_icmp .ge 23, 3, 105, 0, 0), none, none, some (.aload_n 0, 1, 0, 0, 0), some (.getfield 22, 3, 10, 8, 4195), none, none, some (.sipush 160, 3, 0, 0, 0), none, none, some (.iload_n 1, 1, 0, 0, 0), some (.imul, 1, 0, 0, 0), some (.iload 4, 2, 0, 0, 0), none],
  [some (.iadd, 1, 0, 0, 0), some (.lconst 0, 1, 0, 0, 0), some (.lastore, 1, 0, 0, 0), some (.iinc 4 1, 3, 0, 0, 0), none, none, some (.goto (-25), 3, 77, 0, 0), none, none, some (.iconst 1, 1, 0, 0, 0), some (.ireturn, 1, 0, 0, 0)]]
def q_f146 : List (List (Option q_In)) := [[some (.iload_n 1, 1, 0, 0, 0), some (.iconst 0, 1, 0, 0, 0), some (.bipush 7, 2, 0, 0, 0), none, some (.invokestatic 76, 3, 135, 0, 5063), none, none, some (.ifCond .ne 5, 3, 12, 0, 0), none, none, some (.iconst (-1), 1, 0, 0, 0), some (.ireturn, 1, 0, 0, 0), some (.aload_n 0, 1, 0, 0, 0), some (.getfield 16, 3, 10, 6, 4193), none, none],
  [some (.iload_n 1, 1, 0, 0, 0), some (.iaload, 1, 0, 0, 0), some (.ifCond .lt 14, 3, 32, 0, 0), none, none, some (.aload_n 0, 1, 0, 0, 0), some (.iload_n 1, 1, 0, 0, 0), some (.invokevirtual 84, 3, 139, 0, 5078), none, none, some (.ifCond .ne 6, 3, 32, 0, 0), none, none, some (.bipush (-2), 2, 0, 0, 0), none, some (.ireturn, 1, 0, 0, 0)],
  [some (.aload_n 0, 1, 0, 0, 0), some (.getfield 16, 3, 10, 6, 4193), none, none, some (.iload_n 1, 1, 0, 0, 0), some (.iaload, 1, 0, 0, 0), some (.ifCond .ge 8, 3, 46, 0, 0), none, none, some (.bipush (-3), 2, 0, 0, 0), none, some (.goto 4, 3, 47, 0, 0), none, none, some (.iconst 0, 1, 0, 0, 0), some (.ireturn, 1, 0, 0, 0)]]
def q_f147 : List (List (Option q_In)) := [[some (.aload_n 0, 1, 0, 0, 0), some (.iload_n 1, 1, 0, 0, 0), some (.invokevirtual 88, 3, 146, 0, 5074), none, none, some (.istore 5, 2, 0, 0, 0), none, some (.iload 5, 2, 0, 0, 0), none, some (.ifCond .ge 10, 3, 19, 0, 0), none, none, some (.aload_n 0, 1, 0, 0, 0), some (.iload 5, 2, 0, 0, 0), none, some (.invokevirtual 69, 3, 133, 0, 5066)],
  [none, none, some (.ireturn, 1, 0, 0, 0), some (.iload_n 2, 1, 0, 0, 0), some (.iconst 0, 1, 0, 0, 0), some (.aload_n 0, 1, 0, 0, 0), some (.getfield 19, 3, 10, 7, 4194), none, none, some (.iload_n 1, 1, 0, 0, 0), some (.iaload, 1, 0, 0, 0), some (.iconst 1, 1, 0, 0, 0), some (.isub, 1, 0, 0, 0), some (.invokestatic 76, 3, 135, 0, 5063), none, none],
  [some (.ifCond .ne 10, 3, 42, 0, 0), none, none, some (.aload_n 0, 1, 0, 0, 0), some (.bipush (-5), 2, 0, 0, 0), none, some (.invokevirtual 69, 3, 133, 0, 5066), none, none, some (.ireturn, 1, 0, 0, 0), some (.aload_n 0, 1, 0, 0, 0), some (.getfield 16, 3, 10, 6, 4193), none, none, some (.iload_n 1, 1, 0, 0, 0), some (.iaload, 1, 0, 0, 0)],
  [some (.bipush 100, 2, 0, 0, 0), none, some (.isub, 1, 0, 0, 0), some (.istore 6, 2, 0, 0, 0), none, some (.aload_n 0, 1, 0, 0, 0), some (.getfield 22, 3, 10, 8, 4195), none, none, some (.sipush 160, 3, 0, 0, 0), none, none, some (.iload_n 1, 1, 0, 0, 0), some (.imul, 1, 0, 0, 0), some (.iload_n 2, 1, 0, 0, 0), some (.iadd, 1, 0, 0, 0)],
  [some (.iload 6, 2, 0, 0, 0), none, some (.ifCond .ne 10, 3, 76, 0, 0), none, none, some (.lload_n 3, 1, 0, 0, 0), some (.l2i, 1, 0, 0, 0), some (.i2b, 1, 0, 0, 0), some (.i2l, 1, 0, 0, 0), some (.goto 29, 3, 102, 0, 0), none, none, some (.iload 6, 2, 0, 0, 0), none, some (.iconst 1, 1, 0, 0, 0), some (.if_icmp .ne 10, 3, 89, 0, 0)],
  [none, none, some (.lload_n 3, 1, 0, 0, 0), some (.l2i, 1, 0, 0, 0), some (.i2s, 1, 0, 0, 0), some (.i2l, 1, 0, 0, 0), some (.goto 16, 3, 102, 0, 0), none, none, some (.iload 6, 2, 0, 0, 0), none, some (.iconst 2, 1, 0, 0, 0), some (.if_icmp .ne 9, 3, 101, 0, 0), none, none, some (.lload_n 3, 1, 0, 0, 0)],
  [some (.l2i, 1, 0, 0, 0), some (.i2l, 1, 0, 0, 0), some (.goto 4, 3, 102, 0, 0), none, none, some (.lload_n 3, 1, 0, 0, 0), some (.lastore, 1, 0, 0, 0), some (.iconst 1, 1, 0, 0, 0), some (.ireturn, 1, 0, 0, 0)]]
def q_f148 : List (List (Option q_In)) := [[some (.iload_n 1, 1, 0, 0, 0), some (.iconst 0, 1, 0, 0, 0), some (.bipush 7, 2, 0, 0, 0), none, some (.invokestatic 76, 3, 135, 0, 5063), none, none, some (.ifCond .eq 13, 3, 20, 0, 0), none, none, some (.iload_n 2, 1, 0, 0, 0), some (.iconst 0, 1, 0, 0, 0), some (.bipush 7, 2, 0, 0, 0), none, some (.invokestatic 76, 3, 135, 0, 5063), none],
  [none, some (.ifCond .ne 9, 3, 26, 0, 0), none, none, some (.aload_n 0, 1, 0, 0, 0), some (.iconst (-1), 1, 0, 0, 0), some (.invokevirtual 69, 3, 133, 0, 5066), none, none, some (.ireturn, 1, 0, 0, 0), some (.aload_n 0, 1, 0, 0, 0), some (.getfield 16, 3, 10, 6, 4193), none, none, some (.iload_n 1, 1, 0, 0, 0), some (.iaload, 1, 0, 0, 0)],
  [some (.ifCond .lt 11, 3, 43, 0, 0), none, none, some (.aload_n 0, 1, 0, 0, 0), some (.iload_n 1, 1, 0, 0, 0), some (.invokevirtual 84, 3, 139, 0, 5078), none, none, some (.ifCond .eq 51, 3, 91, 0, 0), none, none, some (.aload_n 0, 1, 0, 0, 0), some (.getfield 16, 3, 10, 6, 4193), none, none, some (.iload_n 2, 1, 0, 0, 0)],
  [some (.iaload, 1, 0, 0, 0), some (.ifCond .lt 11, 3, 60, 0, 0), none, none, some (.aload_n 0, 1, 0, 0, 0), some (.iload_n 2, 1, 0, 0, 0), some (.invokevirtual 84, 3, 139, 0, 5078), none, none, some (.ifCond .eq 34, 3, 91, 0, 0), none, none, some (.aload_n 0, 1, 0, 0, 0), some (.iload_n 1, 1, 0, 0, 0), some (.invokevirtual 84, 3, 139, 0, 5078), none],
  [none, some (.ifCond .eq 33, 3, 98, 0, 0), none, none, some (.aload_n 0, 1, 0, 0, 0), some (.iload_n 2, 1, 0, 0, 0), some (.invokevirtual 84, 3, 139, 0, 5078), none, none, some (.ifCond .eq 25, 3, 98, 0, 0), none, none, some (.aload_n 0, 1, 0, 0, 0), some (.getfield 16, 3, 10, 6, 4193), none, none],
  [some (.iload_n 1, 1, 0, 0, 0), some (.iaload, 1, 0, 0, 0), some (.aload_n 0, 1, 0, 0, 0), some (.getfield 16, 3, 10, 6, 4193), none, none, some (.iload_n 2, 1, 0, 0, 0), some (.iaload, 1, 0, 0, 0), some (.if_icmp .eq 10, 3, 98, 0, 0), none, none, some (.aload_n 0, 1, 0, 0, 0), some (.bipush (-2), 2, 0, 0, 0), none, some (.invokevirtual 69, 3, 133, 0, 5066), none],
  [none, some (.ireturn, 1, 0, 0, 0), some (.aload_n 0, 1, 0, 0, 0), some (.getfield 16, 3, 10, 6, 4193), none, none, some (.iload_n 1, 1, 0, 0, 0), some (.iaload, 1, 0, 0, 0), some (.ifCond .lt 12, 3, 116, 0, 0), none, none, some (.aload_n 0, 1, 0, 0, 0), some (.getfield 16, 3, 10, 6, 4193), none, none, some (.iload_n 2, 1, 0, 0, 0)],
  [some (.iaload, 1, 0, 0, 0), some (.ifCond .ge 10, 3, 123, 0, 0), none, none, some (.aload_n 0, 1, 0, 0, 0), some (.bipush (-3), 2, 0, 0, 0), none, some (.invokevirtual 69, 3, 133, 0, 5066), none, none, some (.ireturn, 1, 0, 0, 0), some (.iload 5, 2, 0, 0, 0), none, some (.ifCond .ge 10, 3, 135, 0, 0), none, none],
  [some (.aload_n 0, 1, 0, 0, 0), some (.bipush (-4), 2, 0, 0, 0), none, some (.invokevirtual 69, 3, 133, 0, 5066), none, none, some (.ireturn, 1, 0, 0, 0), some (.iload_n 3, 1, 0, 0, 0), some (.ifCond .lt 43, 3, 179, 0, 0), none, none, some (.iload 4, 2, 0, 0, 0), none, some (.ifCond .lt 38, 3, 179, 0, 0), none, none],
  [some (.iload_n 3, 1, 0, 0, 0), some (.i2l, 1, 0, 0, 0), some (.iload 5, 2, 0, 0, 0), none, some (.i2l, 1, 0, 0, 0), some (.ladd, 1, 0, 0, 0), some (.aload_n 0, 1, 0, 0, 0), some (.getfield 19, 3, 10, 7, 4194), none, none, some (.iload_n 1, 1, 0, 0, 0), some (.iaload, 1, 0, 0, 0), some (.i2l, 1, 0, 0, 0), some (.lcmp, 1, 0, 0, 0), some (.ifCond .gt 21, 3, 179, 0, 0), none],
  [none, some (.iload 4, 2, 0, 0, 0), none, some (.i2l, 1, 0, 0, 0), some (.iload 5, 2, 0, 0, 0), none, some (.i2l, 1, 0, 0, 0), some (.ladd, 1, 0, 0, 0), some (.aload_n 0, 1, 0, 0, 0), some (.getfield 19, 3, 10, 7, 4194), none, none, some (.iload_n 2, 1, 0, 0, 0), some (.iaload, 1, 0, 0, 0), some (.i2l, 1, 0, 0, 0), some (.lcmp, 1, 0, 0, 0)],
  [some (.ifCond .le 10, 3, 186, 0, 0), none, none, some (.aload_n 0, 1, 0, 0, 0), some (.bipush (-5), 2, 0, 0, 0), none, some (.invokevirtual 69, 3, 133, 0, 5066), none, none, some (.ireturn, 1, 0, 0, 0), some (.iload_n 1, 1, 0, 0, 0), some (.iload_n 2, 1, 0, 0, 0), some (.if_icmp .ne 60, 3, 248, 0, 0), none, none, some (.iload_n 3, 1, 0, 0, 0)],
  [some (.iload 4, 2, 0, 0, 0), none, some (.if_icmp .ge 54, 3, 248, 0, 0), none, none, some (.iload 5, 2, 0, 0, 0), none, some (.iconst 1, 1, 0, 0, 0), some (.isub, 1, 0, 0, 0), some (.istore 6, 2, 0, 0, 0), none, some (.iload 6, 2, 0, 0, 0), none, some (.ifCond .lt 40, 3, 245, 0, 0), none, none],
  [some (.aload_n 0, 1, 0, 0, 0), some (.getfield 22, 3, 10, 8, 4195), none, none, some (.sipush 160, 3, 0, 0, 0), none, none, some (.iload_n 2, 1, 0, 0, 0), some (.imul, 1, 0, 0, 0), some (.iload 4, 2, 0, 0, 0), none, some (.iadd, 1, 0, 0, 0), some (.iload 6, 2, 0, 0, 0), none, some (.iadd, 1, 0, 0, 0), some (.aload_n 0, 1, 0, 0, 0)],
  [some (.getfield 22, 3, 10, 8, 4195), none, none, some (.sipush 160, 3, 0, 0, 0), none, none, some (.iload_n 1, 1, 0, 0, 0), some (.imul, 1, 0, 0, 0), some (.iload_n 3, 1, 0, 0, 0), some (.iadd, 1, 0, 0, 0), some (.iload 6, 2, 0, 0, 0), none, some (.iadd, 1, 0, 0, 0), some (.laload, 1, 0, 0, 0), some (.lastore, 1, 0, 0, 0), some (.iinc 6 (-1), 3, 0, 0, 0)],
  [none, none, some (.goto (-39), 3, 203, 0, 0), none, none, some (.goto 50, 3, 295, 0, 0), none, none, some (.iconst 0, 1, 0, 0, 0), some (.istore 6, 2, 0, 0, 0), none, some (.iload 6, 2, 0, 0, 0), none, some (.iload 5, 2, 0, 0, 0), none, some (.if_icmp .ge 40, 3, 295, 0, 0)],
  [none, none, some (.aload_n 0, 1, 0, 0, 0), some (.getfield 22, 3, 10, 8, 4195), none, none, some (.sipush 160, 3, 0, 0, 0), none, none, some (.iload_n 2, 1, 0, 0, 0), some (.imul, 1, 0, 0, 0), some (.iload 4, 2, 0, 0, 0), none, some (.iadd, 1, 0, 0, 0), some (.iload 6, 2, 0, 0, 0), none],
  [some (.iadd, 1, 0, 0, 0), some (.aload_n 0, 1, 0, 0, 0), some (.getfield 22, 3, 10, 8, 4195), none, none, some (.sipush 160, 3, 0, 0, 0), none, none, some (.iload_n 1, 1, 0, 0, 0), some (.imul, 1, 0, 0, 0), some (.iload_n 3, 1, 0, 0, 0), some (.iadd, 1, 0, 0, 0), some (.iload 6, 2, 0, 0, 0), none, some (.iadd, 1, 0, 0, 0), some (.laload, 1, 0, 0, 0)],
  [some (.lastore, 1, 0, 0, 0), some (.iinc 6 1, 3, 0, 0, 0), none, none, some (.goto (-41), 3, 251, 0, 0), none, none, some (.iconst 1, 1, 0, 0, 0), some (.ireturn, 1, 0, 0, 0)]]
def q_f149 : List (List (Option q_In)) := [[some (.iload_n 1, 1, 0, 0, 0), some (.iconst 0, 1, 0, 0, 0), some (.bipush 7, 2, 0, 0, 0), none, some (.invokestatic 76, 3, 135, 0, 5063), none, none, some (.ifCond .eq 42, 3, 49, 0, 0), none, none, some (.aload_n 0, 1, 0, 0, 0), some (.iload_n 1, 1, 0, 0, 0), some (.invokevirtual 84, 3, 139, 0, 5078), none, none, some (.ifCond .eq 34, 3, 49, 0, 0)],
  [none, none, some (.iload_n 2, 1, 0, 0, 0), some (.iconst 0, 1, 0, 0, 0), some (.aload_n 0, 1, 0, 0, 0), some (.getfield 19, 3, 10, 7, 4194), none, none, some (.iload_n 1, 1, 0, 0, 0), some (.iaload, 1, 0, 0, 0), some (.iconst 1, 1, 0, 0, 0), some (.isub, 1, 0, 0, 0), some (.invokestatic 76, 3, 135, 0, 5063), none, none, some (.ifCond .eq 18, 3, 49, 0, 0)],
  [none, none, some (.aload_n 0, 1, 0, 0, 0), some (.getfield 22, 3, 10, 8, 4195), none, none, some (.sipush 160, 3, 0, 0, 0), none, none, some (.iload_n 1, 1, 0, 0, 0), some (.imul, 1, 0, 0, 0), some (.iload_n 2, 1, 0, 0, 0), some (.iadd, 1, 0, 0, 0), some (.laload, 1, 0, 0, 0), some (.goto 4, 3, 50, 0, 0), none],
  [none, some (.lconst 0, 1, 0, 0, 0), some (.lreturn, 1, 0, 0, 0)]]
def q_f150 : List (List (Option q_In)) := [[some (.iload_n 1, 1, 0, 0, 0), some (.iconst 0, 1, 0, 0, 0), some (.bipush 7, 2, 0, 0, 0), none, some (.invokestatic 76, 3, 135, 0, 5063), none, none, some (.ifCond .eq 16, 3, 23, 0, 0), none, none, some (.iload_n 2, 1, 0, 0, 0), some (.iconst (-1), 1, 0, 0, 0), some (.if_icmp .eq 17, 3, 29, 0, 0), none, none, some (.aload_n 0, 1, 0, 0, 0)],
  [some (.iload_n 2, 1, 0, 0, 0), some (.invokevirtual 91, 3, 136, 0, 5094), none, none, some (.ifCond .ne 9, 3, 29, 0, 0), none, none, some (.aload_n 0, 1, 0, 0, 0), some (.iconst (-1), 1, 0, 0, 0), some (.invokevirtual 69, 3, 133, 0, 5066), none, none, some (.ireturn, 1, 0, 0, 0), some (.aload_n 0, 1, 0, 0, 0), some (.getfield 16, 3, 10, 6, 4193), none],
  [none, some (.iload_n 1, 1, 0, 0, 0), some (.iload_n 2, 1, 0, 0, 0), some (.iastore, 1, 0, 0, 0), some (.iload_n 2, 1, 0, 0, 0), some (.iconst (-1), 1, 0, 0, 0), some (.if_icmp .ne 7, 3, 45, 0, 0), none, none, some (.iconst 0, 1, 0, 0, 0), some (.goto 4, 3, 46, 0, 0), none, none, some (.iconst 1, 1, 0, 0, 0), some (.ireturn, 1, 0, 0, 0)]]
def q_f151 : List (List (Option q_In)) := [[some (.iload_n 1, 1, 0, 0, 0), some (.iconst 0, 1, 0, 0, 0), some (.bipush 7, 2, 0, 0, 0), none, some (.invokestatic 76, 3, 135, 0, 5063), none, none, some (.ifCond .eq 12, 3, 19, 0, 0), none, none, some (.aload_n 0, 1, 0, 0, 0), some (.getfield 16, 3, 10, 6, 4193), none, none, some (.iload_n 1, 1, 0, 0, 0), some (.iaload, 1, 0, 0, 0)],
  [some (.goto 4, 3, 20, 0, 0), none, none, some (.iconst (-1), 1, 0, 0, 0), some (.ireturn, 1, 0, 0, 0)]]
def q_f152 : List (List (Option q_In)) := [[some (.iload_n 0, 1, 0, 0, 0), some (.iconst 2, 1, 0, 0, 0), some (.if_icmp .le 9, 3, 11, 0, 0), none, none, some (.iload_n 0, 1, 0, 0, 0), some (.iconst 2, 1, 0, 0, 0), some (.isub, 1, 0, 0, 0), some (.goto 4, 3, 12, 0, 0), none, none, some (.iconst 0, 1, 0, 0, 0), some (.ireturn, 1, 0, 0, 0)]]
def q_f153 : List (List (Option q_In)) := [[some (.iload_n 0, 1, 0, 0, 0), some (.istore_n 2, 1, 0, 0, 0), some (.iload_n 2, 1, 0, 0, 0), some (.iload_n 1, 1, 0, 0, 0), some (.if_icmp .eq 15, 3, 19, 0, 0), none, none, some (.iload_n 2, 1, 0, 0, 0), some (.ifCond .le 11, 3, 19, 0, 0), none, none, some (.iload_n 2, 1, 0, 0, 0), some (.invokestatic 94, 3, 152, 0, 5113), none, none, some (.istore_n 2, 1, 0, 0, 0)],
  [some (.goto (-14), 3, 2, 0, 0), none, none, some (.iload_n 2, 1, 0, 0, 0), some (.iload_n 1, 1, 0, 0, 0), some (.if_icmp .ne 7, 3, 28, 0, 0), none, none, some (.iconst 1, 1, 0, 0, 0), some (.goto 4, 3, 29, 0, 0), none, none, some (.iconst 0, 1, 0, 0, 0), some (.ireturn, 1, 0, 0, 0)]]
def q_f154 : List (List (Option q_In)) := [[some (.aload_n 0, 1, 0, 0, 0), some (.iconst 2, 1, 0, 0, 0), some (.iload_n 1, 1, 0, 0, 0), some (.invokevirtual 80, 3, 140, 0, 5106), none, none, some (.istore_n 2, 1, 0, 0, 0), some (.iload_n 2, 1, 0, 0, 0), some (.aload_n 0, 1, 0, 0, 0), some (.iconst 4, 1, 0, 0, 0), some (.iload_n 1, 1, 0, 0, 0), some (.invokevirtual 80, 3, 140, 0, 5106), none, none, some (.invokestatic 97, 3, 222, 0, 5116), none],
  [none, some (.iadd, 1, 0, 0, 0), some (.istore_n 3, 1, 0, 0, 0), some (.iconst 5, 1, 0, 0, 0), some (.iload_n 2, 1, 0, 0, 0), some (.invokestatic 102, 3, 302, 0, 5121), none, none, some (.istore 4, 2, 0, 0, 0), none, some (.aload_n 0, 1, 0, 0, 0), some (.iconst 1, 1, 0, 0, 0), some (.iload_n 1, 1, 0, 0, 0), some (.invokevirtual 80, 3, 140, 0, 5106), none, none],
  [some (.tableswitch 46 1 4 #[32, 34, 37, 41], 32, 0, 0, 0), none, none, none, none, none, none, none, none, none, none, none, none, none, none, none],
  [none, none, none, none, none, none, none, none, none, none, none, none, none, none, none, none],
  [some (.iload_n 3, 1, 0, 0, 0), some (.ireturn, 1, 0, 0, 0), some (.iload 4, 2, 0, 0, 0), none, some (.ireturn, 1, 0, 0, 0), some (.iconst 2, 1, 0, 0, 0), some (.iload_n 3, 1, 0, 0, 0), some (.imul, 1, 0, 0, 0), some (.ireturn, 1, 0, 0, 0), some (.iload 4, 2, 0, 0, 0), none, some (.iconst 1, 1, 0, 0, 0), some (.iadd, 1, 0, 0, 0), some (.ireturn, 1, 0, 0, 0), some (.iload_n 2, 1, 0, 0, 0), some (.ireturn, 1, 0, 0, 0)]]
def q_f155 : List (List (Option q_In)) := [[some (.iload_n 1, 1, 0, 0, 0), some (.iconst 0, 1, 0, 0, 0), some (.bipush 7, 2, 0, 0, 0), none, some (.invokestatic 76, 3, 135, 0, 5063), none, none, some (.ifCond .eq 12, 3, 19, 0, 0), none, none, some (.iload_n 2, 1, 0, 0, 0), some (.iconst 0, 1, 0, 0, 0), some (.iconst 4, 1, 0, 0, 0), some (.invokestatic 76, 3, 135, 0, 5063), none, none],
  [some (.ifCond .ne 9, 3, 25, 0, 0), none, none, some (.aload_n 0, 1, 0, 0, 0), some (.iconst (-1), 1, 0, 0, 0), some (.invokevirtual 69, 3, 133, 0, 5066), none, none, some (.ireturn, 1, 0, 0, 0), some (.aload_n 0, 1, 0, 0, 0), some (.getfield 16, 3, 10, 6, 4193), none, none, some (.iload_n 1, 1, 0, 0, 0), some (.iaload, 1, 0, 0, 0), some (.istore_n 3, 1, 0, 0, 0)],
  [some (.iload_n 3, 1, 0, 0, 0), some (.ifCond .lt 31, 3, 64, 0, 0), none, none, some (.aload_n 0, 1, 0, 0, 0), some (.iload_n 1, 1, 0, 0, 0), some (.invokevirtual 84, 3, 139, 0, 5078), none, none, some (.ifCond .ne 16, 3, 57, 0, 0), none, none, some (.aload_n 0, 1, 0, 0, 0), some (.iconst 1, 1, 0, 0, 0), some (.iload_n 3, 1, 0, 0, 0), some (.invokevirtual 80, 3, 140, 0, 5106)],
  [none, none, some (.iload_n 2, 1, 0, 0, 0), some (.invokestatic 107, 3, 153, 0, 5110), none, none, some (.ifCond .ne 10, 3, 64, 0, 0), none, none, some (.aload_n 0, 1, 0, 0, 0), some (.bipush (-2), 2, 0, 0, 0), none, some (.invokevirtual 69, 3, 133, 0, 5066), none, none, some (.ireturn, 1, 0, 0, 0)],
  [some (.iload_n 3, 1, 0, 0, 0), some (.ifCond .ge 10, 3, 75, 0, 0), none, none, some (.aload_n 0, 1, 0, 0, 0), some (.bipush (-3), 2, 0, 0, 0), none, some (.invokevirtual 69, 3, 133, 0, 5066), none, none, some (.ireturn, 1, 0, 0, 0), some (.iload_n 2, 1, 0, 0, 0), some (.ifCond .ne 12, 3, 88, 0, 0), none, none, some (.aload_n 0, 1, 0, 0, 0)],
  [some (.iconst 2, 1, 0, 0, 0), some (.iload_n 3, 1, 0, 0, 0), some (.invokevirtual 80, 3, 140, 0, 5106), none, none, some (.goto 27, 3, 112, 0, 0), none, none, some (.iload_n 2, 1, 0, 0, 0), some (.iconst 2, 1, 0, 0, 0), some (.irem, 1, 0, 0, 0), some (.iconst 1, 1, 0, 0, 0), some (.if_icmp .ne 15, 3, 107, 0, 0), none, none, some (.aload_n 0, 1, 0, 0, 0)],
  [some (.iconst 4, 1, 0, 0, 0), some (.iload_n 3, 1, 0, 0, 0), some (.invokevirtual 80, 3, 140, 0, 5106), none, none, some (.invokestatic 97, 3, 222, 0, 5116), none, none, some (.goto 8, 3, 112, 0, 0), none, none, some (.aload_n 0, 1, 0, 0, 0), some (.iload_n 3, 1, 0, 0, 0), some (.invokevirtual 111, 3, 154, 0, 5117), none, none],
  [some (.ireturn, 1, 0, 0, 0)]]
def q_f156 : List (List (Option q_In)) := [[some (.aload_n 0, 1, 0, 0, 0), some (.getfield 7, 3, 10, 1, 4188), none, none, some (.aload_n 0, 1, 0, 0, 0), some (.getfield 73, 3, 10, 0, 4187), none, none, some (.iconst 0, 1, 0, 0, 0), some (.iastore, 1, 0, 0, 0), some (.aload_n 0, 1, 0, 0, 0), some (.getfield 7, 3, 10, 1, 4188), none, none, some (.bipush 12, 2, 0, 0, 0), none],
  [some (.aload_n 0, 1, 0, 0, 0), some (.getfield 73, 3, 10, 0, 4187), none, none, some (.iadd, 1, 0, 0, 0), some (.iload_n 1, 1, 0, 0, 0), some (.iastore, 1, 0, 0, 0), some (.aload_n 0, 1, 0, 0, 0), some (.getfield 7, 3, 10, 1, 4188), none, none, some (.bipush 24, 2, 0, 0, 0), none, some (.aload_n 0, 1, 0, 0, 0), some (.getfield 73, 3, 10, 0, 4187), none],
  [none, some (.iadd, 1, 0, 0, 0), some (.iload_n 2, 1, 0, 0, 0), some (.iastore, 1, 0, 0, 0), some (.aload_n 0, 1, 0, 0, 0), some (.getfield 7, 3, 10, 1, 4188), none, none, some (.bipush 36, 2, 0, 0, 0), none, some (.aload_n 0, 1, 0, 0, 0), some (.getfield 73, 3, 10, 0, 4187), none, none, some (.iadd, 1, 0, 0, 0), some (.iload_n 3, 1, 0, 0, 0)],
  [some (.iastore, 1, 0, 0, 0), some (.aload_n 0, 1, 0, 0, 0), some (.getfield 7, 3, 10, 1, 4188), none, none, some (.bipush 48, 2, 0, 0, 0), none, some (.aload_n 0, 1, 0, 0, 0), some (.getfield 73, 3, 10, 0, 4187), none, none, some (.iadd, 1, 0, 0, 0), some (.iload 4, 2, 0, 0, 0), none, some (.iastore, 1, 0, 0, 0), some (.aload_n 0, 1, 0, 0, 0)],
  [some (.getfield 7, 3, 10, 1, 4188), none, none, some (.bipush 60, 2, 0, 0, 0), none, some (.aload_n 0, 1, 0, 0, 0), some (.getfield 73, 3, 10, 0, 4187), none, none, some (.iadd, 1, 0, 0, 0), some (.iload 5, 2, 0, 0, 0), none, some (.iastore, 1, 0, 0, 0), some (.aload_n 0, 1, 0, 0, 0), some (.getfield 7, 3, 10, 1, 4188), none],
  [none, some (.bipush 72, 2, 0, 0, 0), none, some (.aload_n 0, 1, 0, 0, 0), some (.getfield 73, 3, 10, 0, 4187), none, none, some (.iadd, 1, 0, 0, 0), some (.iload 6, 2, 0, 0, 0), none, some (.iastore, 1, 0, 0, 0), some (.aload_n 0, 1, 0, 0, 0), some (.getfield 7, 3, 10, 1, 4188), none, none, some (.bipush 84, 2, 0, 0, 0)],
  [none, some (.aload_n 0, 1, 0, 0, 0), some (.getfield 73, 3, 10, 0, 4187), none, none, some (.iadd, 1, 0, 0, 0), some (.iconst 0, 1, 0, 0, 0), some (.iastore, 1, 0, 0, 0), some (.aload_n 0, 1, 0, 0, 0), some (.getfield 7, 3, 10, 1, 4188), none, none, some (.bipush 96, 2, 0, 0, 0), none, some (.aload_n 0, 1, 0, 0, 0), some (.getfield 73, 3, 10, 0, 4187)],
  [none, none, some (.iadd, 1, 0, 0, 0), some (.iconst 0, 1, 0, 0, 0), some (.iastore, 1, 0, 0, 0), some (.aload_n 0, 1, 0, 0, 0), some (.dup, 1, 0, 0, 0), some (.getfield 73, 3, 10, 0, 4187), none, none, some (.dup_x1, 1, 0, 0, 0), some (.iconst 1, 1, 0, 0, 0), some (.iadd, 1, 0, 0, 0), some (.putfield 73, 3, 10, 0, 4187), none, none],
  [some (.ireturn, 1, 0, 0, 0)]]
def q_f157 : List (List (Option q_In)) := [[some (.iload_n 0, 1, 0, 0, 0), some (.ifCond .le 9, 3, 10, 0, 0), none, none, some (.iload_n 0, 1, 0, 0, 0), some (.ldc 114, 2, 531441, 0, 5129), none, some (.if_icmp .lt 5, 3, 12, 0, 0), none, none, some (.iconst 0, 1, 0, 0, 0), some (.ireturn, 1, 0, 0, 0), some (.iload_n 0, 1, 0, 0, 0), some (.istore_n 1, 1, 0, 0, 0), some (.iload_n 1, 1, 0, 0, 0), some (.ifCond .le 20, 3, 35, 0, 0)],
  [none, none, some (.iload_n 1, 1, 0, 0, 0), some (.bipush 27, 2, 0, 0, 0), none, some (.irem, 1, 0, 0, 0), some (.ifCond .ne 5, 3, 27, 0, 0), none, none, some (.iconst 0, 1, 0, 0, 0), some (.ireturn, 1, 0, 0, 0), some (.iload_n 1, 1, 0, 0, 0), some (.bipush 27, 2, 0, 0, 0), none, some (.idiv, 1, 0, 0, 0), some (.istore_n 1, 1, 0, 0, 0)],
  [some (.goto (-18), 3, 14, 0, 0), none, none, some (.iconst 1, 1, 0, 0, 0), some (.ireturn, 1, 0, 0, 0)]]
def q_f158 : List (List (Option q_In)) := [[some (.iconst 0, 1, 0, 0, 0), some (.istore_n 2, 1, 0, 0, 0), some (.iload_n 2, 1, 0, 0, 0), some (.aload_n 0, 1, 0, 0, 0), some (.getfield 73, 3, 10, 0, 4187), none, none, some (.if_icmp .ge 31, 3, 38, 0, 0), none, none, some (.aload_n 0, 1, 0, 0, 0), some (.iload_n 2, 1, 0, 0, 0), some (.invokevirtual 115, 3, 141, 0, 5134), none, none, some (.iconst 3, 1, 0, 0, 0)],
  [some (.if_icmp .eq 16, 3, 32, 0, 0), none, none, some (.aload_n 0, 1, 0, 0, 0), some (.bipush 6, 2, 0, 0, 0), none, some (.iload_n 2, 1, 0, 0, 0), some (.invokevirtual 80, 3, 140, 0, 5106), none, none, some (.iload_n 1, 1, 0, 0, 0), some (.if_icmp .ne 5, 3, 32, 0, 0), none, none, some (.iconst 1, 1, 0, 0, 0), some (.ireturn, 1, 0, 0, 0)],
  [some (.iinc 2 1, 3, 0, 0, 0), none, none, some (.goto (-33), 3, 2, 0, 0), none, none, some (.iconst 0, 1, 0, 0, 0), some (.ireturn, 1, 0, 0, 0)]]
def q_f159 : List (List (Option q_In)) := [[some (.iload_n 1, 1, 0, 0, 0), some (.iconst 0, 1, 0, 0, 0), some (.iconst 4, 1, 0, 0, 0), some (.invokestatic 76, 3, 135, 0, 5063), none, none, some (.ifCond .ne 9, 3, 15, 0, 0), none, none, some (.aload_n 0, 1, 0, 0, 0), some (.iconst (-1), 1, 0, 0, 0), some (.invokevirtual 69, 3, 133, 0, 5066), none, none, some (.ireturn, 1, 0, 0, 0), some (.iload_n 2, 1, 0, 0, 0)],
  [some (.iconst 0, 1, 0, 0, 0), some (.bipush 9, 2, 0, 0, 0), none, some (.invokestatic 76, 3, 135, 0, 5063), none, none, some (.ifCond .eq 54, 3, 76, 0, 0), none, none, some (.iload_n 3, 1, 0, 0, 0), some (.iconst 0, 1, 0, 0, 0), some (.sipush 255, 3, 0, 0, 0), none, none, some (.invokestatic 76, 3, 135, 0, 5063), none],
  [none, some (.ifCond .eq 43, 3, 76, 0, 0), none, none, some (.iload 4, 2, 0, 0, 0), none, some (.iconst 0, 1, 0, 0, 0), some (.sipush 255, 3, 0, 0, 0), none, none, some (.invokestatic 76, 3, 135, 0, 5063), none, none, some (.ifCond .eq 31, 3, 76, 0, 0), none, none],
  [some (.iload 5, 2, 0, 0, 0), none, some (.iconst 0, 1, 0, 0, 0), some (.bipush 9, 2, 0, 0, 0), none, some (.invokestatic 76, 3, 135, 0, 5063), none, none, some (.ifCond .eq 20, 3, 76, 0, 0), none, none, some (.iload 6, 2, 0, 0, 0), none, some (.invokestatic 118, 3, 157, 0, 5126), none, none],
  [some (.ifCond .eq 12, 3, 76, 0, 0), none, none, some (.aload_n 0, 1, 0, 0, 0), some (.iload 6, 2, 0, 0, 0), none, some (.invokevirtual 121, 3, 158, 0, 5130), none, none, some (.ifCond .eq 10, 3, 83, 0, 0), none, none, some (.aload_n 0, 1, 0, 0, 0), some (.bipush (-6), 2, 0, 0, 0), none, some (.invokevirtual 69, 3, 133, 0, 5066)],
  [none, none, some (.ireturn, 1, 0, 0, 0), some (.aload_n 0, 1, 0, 0, 0), some (.getfield 73, 3, 10, 0, 4187), none, none, some (.bipush 12, 2, 0, 0, 0), none, some (.if_icmp .ne 12, 3, 101, 0, 0), none, none, some (.aload_n 0, 1, 0, 0, 0), some (.bipush (-7), 2, 0, 0, 0), none, some (.invokevirtual 69, 3, 133, 0, 5066)],
  [none, none, some (.goto 16, 3, 114, 0, 0), none, none, some (.aload_n 0, 1, 0, 0, 0), some (.iload_n 1, 1, 0, 0, 0), some (.iload_n 2, 1, 0, 0, 0), some (.iload_n 3, 1, 0, 0, 0), some (.iload 4, 2, 0, 0, 0), none, some (.iload 5, 2, 0, 0, 0), none, some (.iload 6, 2, 0, 0, 0), none, some (.invokevirtual 124, 3, 156, 0, 5138)],
  [none, none, some (.ireturn, 1, 0, 0, 0)]]
def q_f160 : List (List (Option q_In)) := [[some (.aload_n 0, 1, 0, 0, 0), some (.getfield 128, 3, 10, 11, 4198), none, none, some (.aload_n 0, 1, 0, 0, 0), some (.getfield 19, 3, 10, 7, 4194), none, none, some (.aload_n 0, 1, 0, 0, 0), some (.getfield 131, 3, 10, 10, 4197), none, none, some (.iaload, 1, 0, 0, 0), some (.if_icmp .ge 25, 3, 38, 0, 0), none, none],
  [some (.aload_n 0, 1, 0, 0, 0), some (.getfield 22, 3, 10, 8, 4195), none, none, some (.sipush 160, 3, 0, 0, 0), none, none, some (.aload_n 0, 1, 0, 0, 0), some (.getfield 131, 3, 10, 10, 4197), none, none, some (.imul, 1, 0, 0, 0), some (.aload_n 0, 1, 0, 0, 0), some (.getfield 128, 3, 10, 11, 4198), none, none],
  [some (.iadd, 1, 0, 0, 0), some (.laload, 1, 0, 0, 0), some (.l2i, 1, 0, 0, 0), some (.goto 4, 3, 39, 0, 0), none, none, some (.iconst (-1), 1, 0, 0, 0), some (.ireturn, 1, 0, 0, 0)]]
def q_f161 : List (List (Option q_In)) := [[some (.aload_n 0, 1, 0, 0, 0), some (.invokevirtual 134, 3, 160, 0, 5154), none, none, some (.iload_n 1, 1, 0, 0, 0), some (.if_icmp .eq 5, 3, 10, 0, 0), none, none, some (.iconst 0, 1, 0, 0, 0), some (.ireturn, 1, 0, 0, 0), some (.aload_n 0, 1, 0, 0, 0), some (.dup, 1, 0, 0, 0), some (.getfield 128, 3, 10, 11, 4198), none, none, some (.iconst 1, 1, 0, 0, 0)],
  [some (.iadd, 1, 0, 0, 0), some (.putfield 128, 3, 10, 11, 4198), none, none, some (.iconst 1, 1, 0, 0, 0), some (.ireturn, 1, 0, 0, 0)]]
def q_f162 : List (List (Option q_In)) := [[some (.aload_n 0, 1, 0, 0, 0), some (.invokevirtual 134, 3, 160, 0, 5154), none, none, some (.bipush 48, 2, 0, 0, 0), none, some (.bipush 57, 2, 0, 0, 0), none, some (.invokestatic 76, 3, 135, 0, 5063), none, none, some (.ifCond .eq 13, 3, 24, 0, 0), none, none, some (.aload_n 0, 1, 0, 0, 0), some (.invokevirtual 134, 3, 160, 0, 5154)],
  [none, none, some (.bipush 48, 2, 0, 0, 0), none, some (.isub, 1, 0, 0, 0), some (.goto 4, 3, 25, 0, 0), none, none, some (.iconst (-1), 1, 0, 0, 0), some (.istore_n 2, 1, 0, 0, 0), some (.iload_n 2, 1, 0, 0, 0), some (.iconst (-1), 1, 0, 0, 0), some (.if_icmp .eq 8, 3, 36, 0, 0), none, none, some (.iload_n 2, 1, 0, 0, 0)],
  [some (.iload_n 1, 1, 0, 0, 0), some (.if_icmp .le 5, 3, 38, 0, 0), none, none, some (.iconst (-1), 1, 0, 0, 0), some (.ireturn, 1, 0, 0, 0), some (.aload_n 0, 1, 0, 0, 0), some (.dup, 1, 0, 0, 0), some (.getfield 128, 3, 10, 11, 4198), none, none, some (.iconst 1, 1, 0, 0, 0), some (.iadd, 1, 0, 0, 0), some (.putfield 128, 3, 10, 11, 4198), none, none],
  [some (.iload_n 2, 1, 0, 0, 0), some (.ireturn, 1, 0, 0, 0)]]
def q_f163 : List (List (Option q_In)) := [[some (.aload_n 0, 1, 0, 0, 0), some (.getfield 128, 3, 10, 11, 4198), none, none, some (.istore_n 1, 1, 0, 0, 0), some (.iconst 0, 1, 0, 0, 0), some (.istore_n 2, 1, 0, 0, 0), some (.aload_n 0, 1, 0, 0, 0), some (.getfield 128, 3, 10, 11, 4198), none, none, some (.iload_n 1, 1, 0, 0, 0), some (.isub, 1, 0, 0, 0), some (.iconst 4, 1, 0, 0, 0), some (.if_icmp .ge 45, 3, 59, 0, 0), none],
  [none, some (.aload_n 0, 1, 0, 0, 0), some (.invokevirtual 134, 3, 160, 0, 5154), none, none, some (.bipush 97, 2, 0, 0, 0), none, some (.bipush 122, 2, 0, 0, 0), none, some (.invokestatic 76, 3, 135, 0, 5063), none, none, some (.ifCond .eq 31, 3, 59, 0, 0), none, none, some (.bipush 27, 2, 0, 0, 0)],
  [none, some (.iload_n 2, 1, 0, 0, 0), some (.imul, 1, 0, 0, 0), some (.aload_n 0, 1, 0, 0, 0), some (.invokevirtual 134, 3, 160, 0, 5154), none, none, some (.iadd, 1, 0, 0, 0), some (.bipush 97, 2, 0, 0, 0), none, some (.isub, 1, 0, 0, 0), some (.iconst 1, 1, 0, 0, 0), some (.iadd, 1, 0, 0, 0), some (.istore_n 2, 1, 0, 0, 0), some (.aload_n 0, 1, 0, 0, 0), some (.dup, 1, 0, 0, 0)],
  [some (.getfield 128, 3, 10, 11, 4198), none, none, some (.iconst 1, 1, 0, 0, 0), some (.iadd, 1, 0, 0, 0), some (.putfield 128, 3, 10, 11, 4198), none, none, some (.goto (-49), 3, 7, 0, 0), none, none, some (.aload_n 0, 1, 0, 0, 0), some (.getfield 128, 3, 10, 11, 4198), none, none, some (.iload_n 1, 1, 0, 0, 0)],
  [some (.if_icmp .eq 12, 3, 76, 0, 0), none, none, some (.aload_n 0, 1, 0, 0, 0), some (.bipush 32, 2, 0, 0, 0), none, some (.invokevirtual 138, 3, 161, 0, 5150), none, none, some (.ifCond .ne 5, 3, 78, 0, 0), none, none, some (.iconst 0, 1, 0, 0, 0), some (.ireturn, 1, 0, 0, 0), some (.aload_n 0, 1, 0, 0, 0), some (.iload_n 2, 1, 0, 0, 0)],
  [some (.invokevirtual 121, 3, 158, 0, 5130), none, none, some (.ifCond .ne 5, 3, 88, 0, 0), none, none, some (.iload_n 2, 1, 0, 0, 0), some (.ireturn, 1, 0, 0, 0), some (.aload_n 0, 1, 0, 0, 0), some (.iload_n 1, 1, 0, 0, 0), some (.putfield 128, 3, 10, 11, 4198), none, none, some (.iconst 0, 1, 0, 0, 0), some (.ireturn, 1, 0, 0, 0)]]
def q_f164 : List (List (Option q_In)) := [[some (.aload_n 0, 1, 0, 0, 0), some (.invokevirtual 134, 3, 160, 0, 5154), none, none, some (.istore_n 2, 1, 0, 0, 0), some (.iload_n 2, 1, 0, 0, 0), some (.bipush 33, 2, 0, 0, 0), none, some (.if_icmp .ne 42, 3, 50, 0, 0), none, none, some (.aload_n 0, 1, 0, 0, 0), some (.iconst 5, 1, 0, 0, 0), some (.iload_n 1, 1, 0, 0, 0), some (.invokevirtual 80, 3, 140, 0, 5106), none],
  [none, some (.bipush 9, 2, 0, 0, 0), none, some (.if_icmp .ne 5, 3, 24, 0, 0), none, none, some (.iconst 0, 1, 0, 0, 0), some (.ireturn, 1, 0, 0, 0), some (.aload_n 0, 1, 0, 0, 0), some (.dup, 1, 0, 0, 0), some (.getfield 128, 3, 10, 11, 4198), none, none, some (.iconst 1, 1, 0, 0, 0), some (.iadd, 1, 0, 0, 0), some (.putfield 128, 3, 10, 11, 4198)],
  [none, none, some (.aload_n 0, 1, 0, 0, 0), some (.getfield 7, 3, 10, 1, 4188), none, none, some (.bipush 60, 2, 0, 0, 0), none, some (.iload_n 1, 1, 0, 0, 0), some (.iadd, 1, 0, 0, 0), some (.dup2, 1, 0, 0, 0), some (.iaload, 1, 0, 0, 0), some (.iconst 1, 1, 0, 0, 0), some (.iadd, 1, 0, 0, 0), some (.iastore, 1, 0, 0, 0), some (.goto 70, 3, 117, 0, 0)],
  [none, none, some (.iload_n 2, 1, 0, 0, 0), some (.bipush 45, 2, 0, 0, 0), none, some (.if_icmp .eq 9, 3, 62, 0, 0), none, none, some (.iload_n 2, 1, 0, 0, 0), some (.bipush 43, 2, 0, 0, 0), none, some (.if_icmp .ne 56, 3, 115, 0, 0), none, none, some (.aload_n 0, 1, 0, 0, 0), some (.dup, 1, 0, 0, 0)],
  [some (.getfield 128, 3, 10, 11, 4198), none, none, some (.iconst 1, 1, 0, 0, 0), some (.iadd, 1, 0, 0, 0), some (.putfield 128, 3, 10, 11, 4198), none, none, some (.aload_n 0, 1, 0, 0, 0), some (.bipush 7, 2, 0, 0, 0), none, some (.invokevirtual 141, 3, 162, 0, 5162), none, none, some (.istore_n 3, 1, 0, 0, 0), some (.iload_n 3, 1, 0, 0, 0)],
  [some (.iconst (-1), 1, 0, 0, 0), some (.if_icmp .ne 5, 3, 86, 0, 0), none, none, some (.iconst 0, 1, 0, 0, 0), some (.ireturn, 1, 0, 0, 0), some (.aload_n 0, 1, 0, 0, 0), some (.getfield 7, 3, 10, 1, 4188), none, none, some (.iload_n 2, 1, 0, 0, 0), some (.bipush 45, 2, 0, 0, 0), none, some (.if_icmp .ne 8, 3, 101, 0, 0), none, none],
  [some (.bipush 36, 2, 0, 0, 0), none, some (.goto 5, 3, 103, 0, 0), none, none, some (.bipush 48, 2, 0, 0, 0), none, some (.iload_n 1, 1, 0, 0, 0), some (.iadd, 1, 0, 0, 0), some (.dup2, 1, 0, 0, 0), some (.iaload, 1, 0, 0, 0), some (.iconst 1, 1, 0, 0, 0), some (.iload_n 3, 1, 0, 0, 0), some (.ishl, 1, 0, 0, 0), some (.ior, 1, 0, 0, 0), some (.iastore, 1, 0, 0, 0)],
  [some (.goto 5, 3, 117, 0, 0), none, none, some (.iconst 1, 1, 0, 0, 0), some (.ireturn, 1, 0, 0, 0), some (.goto (-117), 3, 0, 0, 0)]]
def q_f165 : List (List (Option q_In)) := [[some (.aload_n 0, 1, 0, 0, 0), some (.getfield 128, 3, 10, 11, 4198), none, none, some (.istore_n 1, 1, 0, 0, 0), some (.aload_n 0, 1, 0, 0, 0), some (.bipush 112, 2, 0, 0, 0), none, some (.invokevirtual 138, 3, 161, 0, 5150), none, none, some (.ifCond .eq 30, 3, 41, 0, 0), none, none, some (.aload_n 0, 1, 0, 0, 0), some (.bipush 108, 2, 0, 0, 0)],
  [none, some (.invokevirtual 138, 3, 161, 0, 5150), none, none, some (.ifCond .eq 21, 3, 41, 0, 0), none, none, some (.aload_n 0, 1, 0, 0, 0), some (.bipush 117, 2, 0, 0, 0), none, some (.invokevirtual 138, 3, 161, 0, 5150), none, none, some (.ifCond .eq 12, 3, 41, 0, 0), none, none],
  [some (.aload_n 0, 1, 0, 0, 0), some (.bipush 103, 2, 0, 0, 0), none, some (.invokevirtual 138, 3, 161, 0, 5150), none, none, some (.ifCond .ne 5, 3, 43, 0, 0), none, none, some (.iconst 0, 1, 0, 0, 0), some (.ireturn, 1, 0, 0, 0), some (.aload_n 0, 1, 0, 0, 0), some (.getfield 73, 3, 10, 0, 4187), none, none, some (.bipush 12, 2, 0, 0, 0)],
  [none, some (.if_icmp .ne 10, 3, 59, 0, 0), none, none, some (.aload_n 0, 1, 0, 0, 0), some (.iload_n 1, 1, 0, 0, 0), some (.putfield 128, 3, 10, 11, 4198), none, none, some (.iconst 0, 1, 0, 0, 0), some (.ireturn, 1, 0, 0, 0), some (.aload_n 0, 1, 0, 0, 0), some (.bipush 32, 2, 0, 0, 0), none, some (.invokevirtual 138, 3, 161, 0, 5150), none],
  [none, some (.ifCond .ne 5, 3, 70, 0, 0), none, none, some (.iconst 0, 1, 0, 0, 0), some (.ireturn, 1, 0, 0, 0), some (.aload_n 0, 1, 0, 0, 0), some (.invokevirtual 144, 3, 163, 0, 5158), none, none, some (.istore_n 2, 1, 0, 0, 0), some (.iload_n 2, 1, 0, 0, 0), some (.ifCond .ne 5, 3, 81, 0, 0), none, none, some (.iconst 0, 1, 0, 0, 0)],
  [some (.ireturn, 1, 0, 0, 0), some (.aload_n 0, 1, 0, 0, 0), some (.iconst 4, 1, 0, 0, 0), some (.invokevirtual 141, 3, 162, 0, 5162), none, none, some (.istore_n 3, 1, 0, 0, 0), some (.iload_n 3, 1, 0, 0, 0), some (.iconst (-1), 1, 0, 0, 0), some (.if_icmp .eq 12, 3, 101, 0, 0), none, none, some (.aload_n 0, 1, 0, 0, 0), some (.bipush 32, 2, 0, 0, 0), none, some (.invokevirtual 138, 3, 161, 0, 5150)],
  [none, none, some (.ifCond .ne 5, 3, 103, 0, 0), none, none, some (.iconst 0, 1, 0, 0, 0), some (.ireturn, 1, 0, 0, 0), some (.aload_n 0, 1, 0, 0, 0), some (.bipush 9, 2, 0, 0, 0), none, some (.invokevirtual 141, 3, 162, 0, 5162), none, none, some (.istore 4, 2, 0, 0, 0), none, some (.iload 4, 2, 0, 0, 0)],
  [none, some (.iconst (-1), 1, 0, 0, 0), some (.if_icmp .eq 25, 3, 139, 0, 0), none, none, some (.aload_n 0, 1, 0, 0, 0), some (.aload_n 0, 1, 0, 0, 0), some (.iload_n 3, 1, 0, 0, 0), some (.iload 4, 2, 0, 0, 0), none, some (.iconst 0, 1, 0, 0, 0), some (.iconst 0, 1, 0, 0, 0), some (.iconst 0, 1, 0, 0, 0), some (.iload_n 2, 1, 0, 0, 0), some (.invokevirtual 124, 3, 156, 0, 5138), none],
  [none, some (.invokevirtual 147, 3, 164, 0, 5166), none, none, some (.ifCond .eq 7, 3, 139, 0, 0), none, none, some (.iconst 1, 1, 0, 0, 0), some (.goto 4, 3, 140, 0, 0), none, none, some (.iconst 0, 1, 0, 0, 0), some (.ireturn, 1, 0, 0, 0)]]
def q_f166 : List (List (Option q_In)) := [[some (.aload_n 0, 1, 0, 0, 0), some (.iload_n 1, 1, 0, 0, 0), some (.invokevirtual 88, 3, 146, 0, 5074), none, none, some (.istore_n 2, 1, 0, 0, 0), some (.iload_n 2, 1, 0, 0, 0), some (.ifCond .ge 9, 3, 16, 0, 0), none, none, some (.aload_n 0, 1, 0, 0, 0), some (.iload_n 2, 1, 0, 0, 0), some (.invokevirtual 69, 3, 133, 0, 5066), none, none, some (.ireturn, 1, 0, 0, 0)],
  [some (.aload_n 0, 1, 0, 0, 0), some (.getfield 73, 3, 10, 0, 4187), none, none, some (.istore_n 3, 1, 0, 0, 0), some (.aload_n 0, 1, 0, 0, 0), some (.iload_n 1, 1, 0, 0, 0), some (.putfield 131, 3, 10, 10, 4197), none, none, some (.aload_n 0, 1, 0, 0, 0), some (.iconst 0, 1, 0, 0, 0), some (.putfield 128, 3, 10, 11, 4198), none, none, some (.aload_n 0, 1, 0, 0, 0)],
  [some (.invokevirtual 150, 3, 165, 0, 5146), none, none, some (.istore 4, 2, 0, 0, 0), none, some (.iload 4, 2, 0, 0, 0), none, some (.ifCond .eq 21, 3, 60, 0, 0), none, none, some (.aload_n 0, 1, 0, 0, 0), some (.bipush 59, 2, 0, 0, 0), none, some (.invokevirtual 138, 3, 161, 0, 5150), none, none],
  [some (.ifCond .eq 12, 3, 60, 0, 0), none, none, some (.aload_n 0, 1, 0, 0, 0), some (.invokevirtual 150, 3, 165, 0, 5146), none, none, some (.istore 4, 2, 0, 0, 0), none, some (.goto (-20), 3, 37, 0, 0), none, none, some (.iload 4, 2, 0, 0, 0), none, some (.ifCond .eq 20, 3, 82, 0, 0), none],
  [none, some (.aload_n 0, 1, 0, 0, 0), some (.getfield 128, 3, 10, 11, 4198), none, none, some (.aload_n 0, 1, 0, 0, 0), some (.getfield 19, 3, 10, 7, 4194), none, none, some (.iload_n 1, 1, 0, 0, 0), some (.iaload, 1, 0, 0, 0), some (.if_icmp .ne 7, 3, 82, 0, 0), none, none, some (.iconst 1, 1, 0, 0, 0), some (.goto 4, 3, 83, 0, 0)],
  [none, none, some (.iconst 0, 1, 0, 0, 0), some (.istore 4, 2, 0, 0, 0), none, some (.aload_n 0, 1, 0, 0, 0), some (.iload 4, 2, 0, 0, 0), none, some (.ifCond .eq 7, 3, 95, 0, 0), none, none, some (.iconst (-1), 1, 0, 0, 0), some (.goto 7, 3, 99, 0, 0), none, none, some (.aload_n 0, 1, 0, 0, 0)],
  [some (.getfield 128, 3, 10, 11, 4198), none, none, some (.putfield 66, 3, 10, 9, 4196), none, none, some (.iload 4, 2, 0, 0, 0), none, some (.ifCond .eq 10, 3, 114, 0, 0), none, none, some (.aload_n 0, 1, 0, 0, 0), some (.getfield 73, 3, 10, 0, 4187), none, none, some (.iload_n 3, 1, 0, 0, 0)],
  [some (.isub, 1, 0, 0, 0), some (.ireturn, 1, 0, 0, 0), some (.aload_n 0, 1, 0, 0, 0), some (.iload_n 3, 1, 0, 0, 0), some (.putfield 73, 3, 10, 0, 4187), none, none, some (.aload_n 0, 1, 0, 0, 0), some (.bipush (-6), 2, 0, 0, 0), none, some (.invokevirtual 69, 3, 133, 0, 5066), none, none, some (.ireturn, 1, 0, 0, 0)]]
def q_f167 : List (List (Option q_In)) := [[some (.aload_n 0, 1, 0, 0, 0), some (.getfield 66, 3, 10, 9, 4196), none, none, some (.ireturn, 1, 0, 0, 0)]]
def q_f168 : List (List (Option q_In)) := [[some (.aload_n 0, 1, 0, 0, 0), some (.iload_n 1, 1, 0, 0, 0), some (.invokevirtual 91, 3, 136, 0, 5094), none, none, some (.ifCond .eq 13, 3, 18, 0, 0), none, none, some (.iload_n 2, 1, 0, 0, 0), some (.iconst 0, 1, 0, 0, 0), some (.bipush 7, 2, 0, 0, 0), none, some (.invokestatic 76, 3, 135, 0, 5063), none, none, some (.ifCond .ne 10, 3, 25, 0, 0)],
  [none, none, some (.aload_n 0, 1, 0, 0, 0), some (.bipush (-5), 2, 0, 0, 0), none, some (.invokevirtual 69, 3, 133, 0, 5066), none, none, some (.ireturn, 1, 0, 0, 0), some (.iload_n 2, 1, 0, 0, 0), some (.bipush 6, 2, 0, 0, 0), none, some (.if_icmp .ge 12, 3, 40, 0, 0), none, none, some (.aload_n 0, 1, 0, 0, 0)],
  [some (.iload_n 2, 1, 0, 0, 0), some (.iload_n 1, 1, 0, 0, 0), some (.invokevirtual 80, 3, 140, 0, 5106), none, none, some (.goto 24, 3, 61, 0, 0), none, none, some (.iload_n 2, 1, 0, 0, 0), some (.bipush 6, 2, 0, 0, 0), none, some (.if_icmp .ne 11, 3, 54, 0, 0), none, none, some (.aload_n 0, 1, 0, 0, 0), some (.iload_n 1, 1, 0, 0, 0)],
  [some (.invokevirtual 111, 3, 154, 0, 5117), none, none, some (.goto 10, 3, 61, 0, 0), none, none, some (.aload_n 0, 1, 0, 0, 0), some (.bipush 6, 2, 0, 0, 0), none, some (.iload_n 1, 1, 0, 0, 0), some (.invokevirtual 80, 3, 140, 0, 5106), none, none, some (.ireturn, 1, 0, 0, 0)]]
def q_f169 : List (List (Option q_In)) := [[some (.aload_n 0, 1, 0, 0, 0), some (.iload_n 1, 1, 0, 0, 0), some (.invokevirtual 91, 3, 136, 0, 5094), none, none, some (.ifCond .ne 9, 3, 14, 0, 0), none, none, some (.aload_n 0, 1, 0, 0, 0), some (.iconst (-1), 1, 0, 0, 0), some (.invokevirtual 154, 3, 134, 0, 5182), none, none, some (.ireturn, 1, 0, 0, 0), some (.aload_n 0, 1, 0, 0, 0), some (.iload_n 1, 1, 0, 0, 0)],
  [some (.invokevirtual 115, 3, 141, 0, 5134), none, none, some (.iconst 1, 1, 0, 0, 0), some (.if_icmp .ne 13, 3, 33, 0, 0), none, none, some (.aload_n 0, 1, 0, 0, 0), some (.bipush 7, 2, 0, 0, 0), none, some (.iload_n 1, 1, 0, 0, 0), some (.invokevirtual 80, 3, 140, 0, 5106), none, none, some (.goto 4, 3, 34, 0, 0), none],
  [none, some (.iconst (-1), 1, 0, 0, 0), some (.ireturn, 1, 0, 0, 0)]]
def q_f170 : List (List (Option q_In)) := [[some (.aload_n 0, 1, 0, 0, 0), some (.iload_n 1, 1, 0, 0, 0), some (.invokevirtual 91, 3, 136, 0, 5094), none, none, some (.ifCond .eq 13, 3, 18, 0, 0), none, none, some (.aload_n 0, 1, 0, 0, 0), some (.bipush 8, 2, 0, 0, 0), none, some (.iload_n 1, 1, 0, 0, 0), some (.invokevirtual 80, 3, 140, 0, 5106), none, none, some (.goto 4, 3, 19, 0, 0)],
  [none, none, some (.iconst 0, 1, 0, 0, 0), some (.ireturn, 1, 0, 0, 0)]]
def q_f171 : List (List (Option q_In)) := [[some (.iconst (-1), 1, 0, 0, 0), some (.istore_n 3, 1, 0, 0, 0), some (.iconst 0, 1, 0, 0, 0), some (.istore 4, 2, 0, 0, 0), none, some (.iload 4, 2, 0, 0, 0), none, some (.aload_n 0, 1, 0, 0, 0), some (.getfield 73, 3, 10, 0, 4187), none, none, some (.if_icmp .ge 94, 3, 105, 0, 0), none, none, some (.iload 4, 2, 0, 0, 0), none],
  [some (.iload_n 1, 1, 0, 0, 0), some (.if_icmp .eq 82, 3, 99, 0, 0), none, none, some (.aload_n 0, 1, 0, 0, 0), some (.iload 4, 2, 0, 0, 0), none, some (.invokevirtual 115, 3, 141, 0, 5134), none, none, some (.iconst 1, 1, 0, 0, 0), some (.if_icmp .ne 72, 3, 99, 0, 0), none, none, some (.aload_n 0, 1, 0, 0, 0), some (.iload 4, 2, 0, 0, 0)],
  [none, some (.iload_n 2, 1, 0, 0, 0), some (.invokevirtual 157, 3, 143, 0, 5205), none, none, some (.ifCond .eq 62, 3, 99, 0, 0), none, none, some (.aload_n 0, 1, 0, 0, 0), some (.iload 4, 2, 0, 0, 0), none, some (.iload_n 1, 1, 0, 0, 0), some (.invokevirtual 160, 3, 144, 0, 5209), none, none, some (.ifCond .ne 6, 3, 53, 0, 0)],
  [none, none, some (.goto 49, 3, 99, 0, 0), none, none, some (.iload_n 3, 1, 0, 0, 0), some (.iconst (-1), 1, 0, 0, 0), some (.if_icmp .eq 41, 3, 96, 0, 0), none, none, some (.aload_n 0, 1, 0, 0, 0), some (.iload 4, 2, 0, 0, 0), none, some (.invokevirtual 111, 3, 154, 0, 5117), none, none],
  [some (.aload_n 0, 1, 0, 0, 0), some (.iload_n 3, 1, 0, 0, 0), some (.invokevirtual 111, 3, 154, 0, 5117), none, none, some (.if_icmp .gt 27, 3, 96, 0, 0), none, none, some (.aload_n 0, 1, 0, 0, 0), some (.iload 4, 2, 0, 0, 0), none, some (.invokevirtual 111, 3, 154, 0, 5117), none, none, some (.aload_n 0, 1, 0, 0, 0), some (.iload_n 3, 1, 0, 0, 0)],
  [some (.invokevirtual 111, 3, 154, 0, 5117), none, none, some (.if_icmp .ne 16, 3, 99, 0, 0), none, none, some (.aload_n 0, 1, 0, 0, 0), some (.iload 4, 2, 0, 0, 0), none, some (.iload_n 3, 1, 0, 0, 0), some (.invokevirtual 160, 3, 144, 0, 5209), none, none, some (.ifCond .eq 6, 3, 99, 0, 0), none, none],
  [some (.iload 4, 2, 0, 0, 0), none, some (.istore_n 3, 1, 0, 0, 0), some (.iinc 4 1, 3, 0, 0, 0), none, none, some (.goto (-97), 3, 5, 0, 0), none, none, some (.iload_n 3, 1, 0, 0, 0), some (.ireturn, 1, 0, 0, 0)]]
def q_f172 : List (List (Option q_In)) := [[some (.aload_n 0, 1, 0, 0, 0), some (.iload_n 1, 1, 0, 0, 0), some (.invokevirtual 91, 3, 136, 0, 5094), none, none, some (.ifCond .eq 10, 3, 15, 0, 0), none, none, some (.iload_n 2, 1, 0, 0, 0), some (.invokestatic 163, 3, 138, 0, 5194), none, none, some (.ifCond .ne 9, 3, 21, 0, 0), none, none, some (.aload_n 0, 1, 0, 0, 0)],
  [some (.iconst (-1), 1, 0, 0, 0), some (.invokevirtual 154, 3, 134, 0, 5182), none, none, some (.ireturn, 1, 0, 0, 0), some (.aload_n 0, 1, 0, 0, 0), some (.iload_n 1, 1, 0, 0, 0), some (.invokevirtual 115, 3, 141, 0, 5134), none, none, some (.iconst 1, 1, 0, 0, 0), some (.if_icmp .ne 21, 3, 48, 0, 0), none, none, some (.aload_n 0, 1, 0, 0, 0), some (.iload_n 1, 1, 0, 0, 0)],
  [some (.iload_n 2, 1, 0, 0, 0), some (.invokevirtual 166, 3, 142, 0, 5197), none, none, some (.ifCond .eq 12, 3, 48, 0, 0), none, none, some (.aload_n 0, 1, 0, 0, 0), some (.iload_n 1, 1, 0, 0, 0), some (.iload_n 2, 1, 0, 0, 0), some (.invokevirtual 169, 3, 171, 0, 5201), none, none, some (.goto 4, 3, 49, 0, 0), none, none],
  [some (.iconst (-1), 1, 0, 0, 0), some (.ireturn, 1, 0, 0, 0)]]
def q_f173 : List (List (Option q_In)) := [[some (.aload_n 0, 1, 0, 0, 0), some (.getfield 172, 3, 10, 19, 4206), none, none, some (.ifCond .eq 4, 3, 8, 0, 0), none, none, some (.return_, 1, 0, 0, 0), some (.aload_n 0, 1, 0, 0, 0), some (.getfield 35, 3, 10, 21, 4208), none, none, some (.aload_n 0, 1, 0, 0, 0), some (.getfield 176, 3, 10, 20, 4207), none, none],
  [some (.bipush 40, 2, 0, 0, 0), none, some (.irem, 1, 0, 0, 0), some (.iload_n 1, 1, 0, 0, 0), some (.iastore, 1, 0, 0, 0), some (.aload_n 0, 1, 0, 0, 0), some (.dup, 1, 0, 0, 0), some (.getfield 176, 3, 10, 20, 4207), none, none, some (.iconst 1, 1, 0, 0, 0), some (.iadd, 1, 0, 0, 0), some (.putfield 176, 3, 10, 20, 4207), none, none, some (.return_, 1, 0, 0, 0)]]
def q_f174 : List (List (Option q_In)) := [[some (.iconst 0, 1, 0, 0, 0), some (.istore_n 3, 1, 0, 0, 0), some (.iload_n 3, 1, 0, 0, 0), some (.aload_n 0, 1, 0, 0, 0), some (.getfield 73, 3, 10, 0, 4187), none, none, some (.if_icmp .ge 34, 3, 41, 0, 0), none, none, some (.iload_n 3, 1, 0, 0, 0), some (.iload_n 1, 1, 0, 0, 0), some (.if_icmp .eq 23, 3, 35, 0, 0), none, none, some (.aload_n 0, 1, 0, 0, 0)],
  [some (.iload_n 3, 1, 0, 0, 0), some (.invokevirtual 115, 3, 141, 0, 5134), none, none, some (.iconst 1, 1, 0, 0, 0), some (.if_icmp .ne 14, 3, 35, 0, 0), none, none, some (.aload_n 0, 1, 0, 0, 0), some (.iload_n 3, 1, 0, 0, 0), some (.iload_n 2, 1, 0, 0, 0), some (.invokevirtual 157, 3, 143, 0, 5205), none, none, some (.ifCond .eq 5, 3, 35, 0, 0), none],
  [none, some (.iconst 1, 1, 0, 0, 0), some (.ireturn, 1, 0, 0, 0), some (.iinc 3 1, 3, 0, 0, 0), none, none, some (.goto (-36), 3, 2, 0, 0), none, none, some (.iconst 0, 1, 0, 0, 0), some (.ireturn, 1, 0, 0, 0)]]
def q_f175 : List (List (Option q_In)) := [[some (.aload_n 0, 1, 0, 0, 0), some (.bipush 6, 2, 0, 0, 0), none, some (.iload_n 1, 1, 0, 0, 0), some (.invokevirtual 80, 3, 140, 0, 5106), none, none, some (.istore_n 2, 1, 0, 0, 0), some (.iload_n 2, 1, 0, 0, 0), some (.sipush 19683, 3, 0, 0, 0), none, none, some (.if_icmp .ge 11, 3, 23, 0, 0), none, none, some (.iload_n 2, 1, 0, 0, 0)],
  [some (.bipush 27, 2, 0, 0, 0), none, some (.imul, 1, 0, 0, 0), some (.istore_n 2, 1, 0, 0, 0), some (.goto (-12), 3, 8, 0, 0), none, none, some (.iload_n 2, 1, 0, 0, 0), some (.ireturn, 1, 0, 0, 0)]]
def q_f176 : List (List (Option q_In)) := [[some (.iconst (-1), 1, 0, 0, 0), some (.istore_n 3, 1, 0, 0, 0), some (.iconst 0, 1, 0, 0, 0), some (.istore 4, 2, 0, 0, 0), none, some (.iload 4, 2, 0, 0, 0), none, some (.aload_n 0, 1, 0, 0, 0), some (.getfield 73, 3, 10, 0, 4187), none, none, some (.if_icmp .ge 87, 3, 98, 0, 0), none, none, some (.iload 4, 2, 0, 0, 0), none],
  [some (.iload_n 1, 1, 0, 0, 0), some (.if_icmp .eq 75, 3, 92, 0, 0), none, none, some (.aload_n 0, 1, 0, 0, 0), some (.iload 4, 2, 0, 0, 0), none, some (.invokevirtual 115, 3, 141, 0, 5134), none, none, some (.ifCond .ne 66, 3, 92, 0, 0), none, none, some (.aload_n 0, 1, 0, 0, 0), some (.iload 4, 2, 0, 0, 0), none],
  [some (.iload_n 2, 1, 0, 0, 0), some (.invokevirtual 157, 3, 143, 0, 5205), none, none, some (.ifCond .ne 6, 3, 42, 0, 0), none, none, some (.goto 53, 3, 92, 0, 0), none, none, some (.iload_n 3, 1, 0, 0, 0), some (.iconst (-1), 1, 0, 0, 0), some (.if_icmp .eq 45, 3, 89, 0, 0), none, none, some (.aload_n 0, 1, 0, 0, 0)],
  [some (.iload 4, 2, 0, 0, 0), none, some (.invokevirtual 111, 3, 154, 0, 5117), none, none, some (.aload_n 0, 1, 0, 0, 0), some (.iload_n 3, 1, 0, 0, 0), some (.invokevirtual 111, 3, 154, 0, 5117), none, none, some (.if_icmp .gt 31, 3, 89, 0, 0), none, none, some (.aload_n 0, 1, 0, 0, 0), some (.iload 4, 2, 0, 0, 0), none],
  [some (.invokevirtual 111, 3, 154, 0, 5117), none, none, some (.aload_n 0, 1, 0, 0, 0), some (.iload_n 3, 1, 0, 0, 0), some (.invokevirtual 111, 3, 154, 0, 5117), none, none, some (.if_icmp .ne 20, 3, 92, 0, 0), none, none, some (.aload_n 0, 1, 0, 0, 0), some (.iload 4, 2, 0, 0, 0), none, some (.invokevirtual 179, 3, 175, 0, 6001), none],
  [none, some (.aload_n 0, 1, 0, 0, 0), some (.iload_n 3, 1, 0, 0, 0), some (.invokevirtual 179, 3, 175, 0, 6001), none, none, some (.if_icmp .ge 6, 3, 92, 0, 0), none, none, some (.iload 4, 2, 0, 0, 0), none, some (.istore_n 3, 1, 0, 0, 0), some (.iinc 4 1, 3, 0, 0, 0), none, none, some (.goto (-90), 3, 5, 0, 0)],
  [none, none, some (.iload_n 3, 1, 0, 0, 0), some (.ireturn, 1, 0, 0, 0)]]
def q_f177 : List (List (Option q_In)) := [[some (.aload_n 0, 1, 0, 0, 0), some (.getfield 29, 3, 10, 15, 4202), none, none, some (.iconst 3, 1, 0, 0, 0), some (.aload_n 0, 1, 0, 0, 0), some (.getfield 182, 3, 10, 14, 4201), none, none, some (.imul, 1, 0, 0, 0), some (.iload_n 1, 1, 0, 0, 0), some (.iastore, 1, 0, 0, 0), some (.aload_n 0, 1, 0, 0, 0), some (.getfield 29, 3, 10, 15, 4202), none, none],
  [some (.iconst 3, 1, 0, 0, 0), some (.aload_n 0, 1, 0, 0, 0), some (.getfield 182, 3, 10, 14, 4201), none, none, some (.imul, 1, 0, 0, 0), some (.iconst 1, 1, 0, 0, 0), some (.iadd, 1, 0, 0, 0), some (.iload_n 2, 1, 0, 0, 0), some (.iastore, 1, 0, 0, 0), some (.aload_n 0, 1, 0, 0, 0), some (.getfield 29, 3, 10, 15, 4202), none, none, some (.iconst 3, 1, 0, 0, 0), some (.aload_n 0, 1, 0, 0, 0)],
  [some (.getfield 182, 3, 10, 14, 4201), none, none, some (.imul, 1, 0, 0, 0), some (.iconst 2, 1, 0, 0, 0), some (.iadd, 1, 0, 0, 0), some (.iload_n 3, 1, 0, 0, 0), some (.iastore, 1, 0, 0, 0), some (.aload_n 0, 1, 0, 0, 0), some (.dup, 1, 0, 0, 0), some (.getfield 182, 3, 10, 14, 4201), none, none, some (.iconst 1, 1, 0, 0, 0), some (.iadd, 1, 0, 0, 0), some (.putfield 182, 3, 10, 14, 4201)],
  [none, none, some (.iconst 0, 1, 0, 0, 0), some (.ireturn, 1, 0, 0, 0)]]
def q_f178 : List (List (Option q_In)) := [[some (.iconst 0, 1, 0, 0, 0), some (.istore_n 2, 1, 0, 0, 0), some (.iload_n 2, 1, 0, 0, 0), some (.bipush 8, 2, 0, 0, 0), none, some (.if_icmp .ge 86, 3, 91, 0, 0), none, none, some (.aload_n 0, 1, 0, 0, 0), some (.iload_n 1, 1, 0, 0, 0), some (.iload_n 2, 1, 0, 0, 0), some (.invokevirtual 166, 3, 142, 0, 5197), none, none, some (.ifCond .eq 71, 3, 85, 0, 0), none],
  [none, some (.aload_n 0, 1, 0, 0, 0), some (.iload_n 1, 1, 0, 0, 0), some (.iload_n 2, 1, 0, 0, 0), some (.invokevirtual 185, 3, 174, 0, 5233), none, none, some (.ifCond .eq 6, 3, 29, 0, 0), none, none, some (.goto 59, 3, 85, 0, 0), none, none, some (.aload_n 0, 1, 0, 0, 0), some (.iload_n 1, 1, 0, 0, 0), some (.iload_n 2, 1, 0, 0, 0)],
  [some (.invokevirtual 188, 3, 176, 0, 5237), none, none, some (.istore_n 3, 1, 0, 0, 0), some (.iload_n 3, 1, 0, 0, 0), some (.iconst (-1), 1, 0, 0, 0), some (.if_icmp .ne 11, 3, 49, 0, 0), none, none, some (.aload_n 0, 1, 0, 0, 0), some (.iload_n 1, 1, 0, 0, 0), some (.iconst 2, 1, 0, 0, 0), some (.iload_n 2, 1, 0, 0, 0), some (.invokevirtual 191, 3, 177, 0, 5225), none, none],
  [some (.ireturn, 1, 0, 0, 0), some (.aload_n 0, 1, 0, 0, 0), some (.getfield 193, 3, 10, 16, 4203), none, none, some (.iload_n 3, 1, 0, 0, 0), some (.ishr, 1, 0, 0, 0), some (.iconst 1, 1, 0, 0, 0), some (.iand, 1, 0, 0, 0), some (.iconst 1, 1, 0, 0, 0), some (.if_icmp .ne 11, 3, 69, 0, 0), none, none, some (.aload_n 0, 1, 0, 0, 0), some (.iload_n 1, 1, 0, 0, 0), some (.iconst 3, 1, 0, 0, 0)],
  [some (.iload_n 2, 1, 0, 0, 0), some (.invokevirtual 191, 3, 177, 0, 5225), none, none, some (.ireturn, 1, 0, 0, 0), some (.aload_n 0, 1, 0, 0, 0), some (.iload_n 3, 1, 0, 0, 0), some (.invokevirtual 196, 3, 180, 0, 5221), none, none, some (.ifCond .ne 11, 3, 85, 0, 0), none, none, some (.aload_n 0, 1, 0, 0, 0), some (.iload_n 1, 1, 0, 0, 0), some (.iconst 4, 1, 0, 0, 0)],
  [some (.iload_n 2, 1, 0, 0, 0), some (.invokevirtual 191, 3, 177, 0, 5225), none, none, some (.ireturn, 1, 0, 0, 0), some (.iinc 2 1, 3, 0, 0, 0), none, none, some (.goto (-86), 3, 2, 0, 0), none, none, some (.iconst 1, 1, 0, 0, 0), some (.ireturn, 1, 0, 0, 0)]]
def q_f179 : List (List (Option q_In)) := [[some (.aload_n 0, 1, 0, 0, 0), some (.iconst 5, 1, 0, 0, 0), some (.iload_n 1, 1, 0, 0, 0), some (.invokevirtual 80, 3, 140, 0, 5106), none, none, some (.ifCond .le 40, 3, 46, 0, 0), none, none, some (.aload_n 0, 1, 0, 0, 0), some (.getfield 7, 3, 10, 1, 4188), none, none, some (.bipush 60, 2, 0, 0, 0), none, some (.iload_n 1, 1, 0, 0, 0)],
  [some (.iadd, 1, 0, 0, 0), some (.dup2, 1, 0, 0, 0), some (.iaload, 1, 0, 0, 0), some (.iconst 1, 1, 0, 0, 0), some (.isub, 1, 0, 0, 0), some (.iastore, 1, 0, 0, 0), some (.aload_n 0, 1, 0, 0, 0), some (.getfield 7, 3, 10, 1, 4188), none, none, some (.iload_n 1, 1, 0, 0, 0), some (.iconst 2, 1, 0, 0, 0), some (.iastore, 1, 0, 0, 0), some (.aload_n 0, 1, 0, 0, 0), some (.sipush 300, 3, 0, 0, 0), none],
  [none, some (.iload_n 1, 1, 0, 0, 0), some (.iadd, 1, 0, 0, 0), some (.invokevirtual 198, 3, 173, 0, 6009), none, none, some (.aload_n 0, 1, 0, 0, 0), some (.iload_n 1, 1, 0, 0, 0), some (.iconst 5, 1, 0, 0, 0), some (.iconst (-1), 1, 0, 0, 0), some (.invokevirtual 191, 3, 177, 0, 5225), none, none, some (.ireturn, 1, 0, 0, 0), some (.aload_n 0, 1, 0, 0, 0), some (.getfield 7, 3, 10, 1, 4188)],
  [none, none, some (.iload_n 1, 1, 0, 0, 0), some (.iconst 1, 1, 0, 0, 0), some (.iastore, 1, 0, 0, 0), some (.aload_n 0, 1, 0, 0, 0), some (.getfield 7, 3, 10, 1, 4188), none, none, some (.bipush 84, 2, 0, 0, 0), none, some (.iload_n 1, 1, 0, 0, 0), some (.iadd, 1, 0, 0, 0), some (.aload_n 0, 1, 0, 0, 0), some (.getfield 202, 3, 10, 2, 4189), none],
  [none, some (.iastore, 1, 0, 0, 0), some (.aload_n 0, 1, 0, 0, 0), some (.dup, 1, 0, 0, 0), some (.getfield 202, 3, 10, 2, 4189), none, none, some (.iconst 1, 1, 0, 0, 0), some (.iadd, 1, 0, 0, 0), some (.putfield 202, 3, 10, 2, 4189), none, none, some (.aload_n 0, 1, 0, 0, 0), some (.getfield 32, 3, 10, 18, 4205), none, none],
  [some (.aload_n 0, 1, 0, 0, 0), some (.getfield 205, 3, 10, 17, 4204), none, none, some (.iload_n 1, 1, 0, 0, 0), some (.iastore, 1, 0, 0, 0), some (.aload_n 0, 1, 0, 0, 0), some (.dup, 1, 0, 0, 0), some (.getfield 205, 3, 10, 17, 4204), none, none, some (.iconst 1, 1, 0, 0, 0), some (.iadd, 1, 0, 0, 0), some (.putfield 205, 3, 10, 17, 4204), none, none],
  [some (.aload_n 0, 1, 0, 0, 0), some (.bipush 100, 2, 0, 0, 0), none, some (.iload_n 1, 1, 0, 0, 0), some (.iadd, 1, 0, 0, 0), some (.invokevirtual 198, 3, 173, 0, 6009), none, none, some (.iconst 1, 1, 0, 0, 0), some (.ireturn, 1, 0, 0, 0)]]
def q_f180 : List (List (Option q_In)) := [[some (.aload_n 0, 1, 0, 0, 0), some (.iload_n 1, 1, 0, 0, 0), some (.invokevirtual 115, 3, 141, 0, 5134), none, none, some (.ifCond .eq 11, 3, 16, 0, 0), none, none, some (.aload_n 0, 1, 0, 0, 0), some (.iload_n 1, 1, 0, 0, 0), some (.iconst 1, 1, 0, 0, 0), some (.iconst (-1), 1, 0, 0, 0), some (.invokevirtual 191, 3, 177, 0, 5225), none, none, some (.ireturn, 1, 0, 0, 0)],
  [some (.aload_n 0, 1, 0, 0, 0), some (.getfield 205, 3, 10, 17, 4204), none, none, some (.istore_n 2, 1, 0, 0, 0), some (.aload_n 0, 1, 0, 0, 0), some (.dup, 1, 0, 0, 0), some (.getfield 193, 3, 10, 16, 4203), none, none, some (.iconst 1, 1, 0, 0, 0), some (.iload_n 1, 1, 0, 0, 0), some (.ishl, 1, 0, 0, 0), some (.ior, 1, 0, 0, 0), some (.putfield 193, 3, 10, 16, 4203), none],
  [none, some (.aload_n 0, 1, 0, 0, 0), some (.iload_n 1, 1, 0, 0, 0), some (.invokevirtual 208, 3, 178, 0, 5229), none, none, some (.ifCond .eq 15, 3, 53, 0, 0), none, none, some (.aload_n 0, 1, 0, 0, 0), some (.iload_n 1, 1, 0, 0, 0), some (.invokevirtual 211, 3, 179, 0, 6005), none, none, some (.ifCond .eq 7, 3, 53, 0, 0), none],
  [none, some (.iconst 1, 1, 0, 0, 0), some (.goto 4, 3, 54, 0, 0), none, none, some (.iconst 0, 1, 0, 0, 0), some (.istore_n 3, 1, 0, 0, 0), some (.aload_n 0, 1, 0, 0, 0), some (.dup, 1, 0, 0, 0), some (.getfield 193, 3, 10, 16, 4203), none, none, some (.iconst 1, 1, 0, 0, 0), some (.iload_n 1, 1, 0, 0, 0), some (.ishl, 1, 0, 0, 0), some (.iconst (-1), 1, 0, 0, 0)],
  [some (.ixor, 1, 0, 0, 0), some (.iand, 1, 0, 0, 0), some (.putfield 193, 3, 10, 16, 4203), none, none, some (.iload_n 3, 1, 0, 0, 0), some (.ifCond .ne 56, 3, 126, 0, 0), none, none, some (.aload_n 0, 1, 0, 0, 0), some (.getfield 205, 3, 10, 17, 4204), none, none, some (.iload_n 2, 1, 0, 0, 0), some (.if_icmp .le 48, 3, 126, 0, 0), none],
  [none, some (.aload_n 0, 1, 0, 0, 0), some (.dup, 1, 0, 0, 0), some (.getfield 205, 3, 10, 17, 4204), none, none, some (.iconst 1, 1, 0, 0, 0), some (.isub, 1, 0, 0, 0), some (.putfield 205, 3, 10, 17, 4204), none, none, some (.aload_n 0, 1, 0, 0, 0), some (.getfield 7, 3, 10, 1, 4188), none, none, some (.aload_n 0, 1, 0, 0, 0)],
  [some (.getfield 32, 3, 10, 18, 4205), none, none, some (.aload_n 0, 1, 0, 0, 0), some (.getfield 205, 3, 10, 17, 4204), none, none, some (.iaload, 1, 0, 0, 0), some (.iconst 0, 1, 0, 0, 0), some (.iastore, 1, 0, 0, 0), some (.aload_n 0, 1, 0, 0, 0), some (.sipush 200, 3, 0, 0, 0), none, none, some (.aload_n 0, 1, 0, 0, 0), some (.getfield 32, 3, 10, 18, 4205)],
  [none, none, some (.aload_n 0, 1, 0, 0, 0), some (.getfield 205, 3, 10, 17, 4204), none, none, some (.iaload, 1, 0, 0, 0), some (.iadd, 1, 0, 0, 0), some (.invokevirtual 198, 3, 173, 0, 6009), none, none, some (.goto (-54), 3, 69, 0, 0), none, none, some (.iload_n 3, 1, 0, 0, 0), some (.ireturn, 1, 0, 0, 0)]]
def q_f181 : List (List (Option q_In)) := [[some (.aload_n 0, 1, 0, 0, 0), some (.iconst 0, 1, 0, 0, 0), some (.putfield 193, 3, 10, 16, 4203), none, none, some (.aload_n 0, 1, 0, 0, 0), some (.iconst 0, 1, 0, 0, 0), some (.putfield 205, 3, 10, 17, 4204), none, none, some (.aload_n 0, 1, 0, 0, 0), some (.iconst 0, 1, 0, 0, 0), some (.putfield 182, 3, 10, 14, 4201), none, none, some (.aload_n 0, 1, 0, 0, 0)],
  [some (.iload_n 1, 1, 0, 0, 0), some (.invokevirtual 196, 3, 180, 0, 5221), none, none, some (.ireturn, 1, 0, 0, 0)]]
def q_f182 : List (List (Option q_In)) := [[some (.aload_n 0, 1, 0, 0, 0), some (.iload_n 1, 1, 0, 0, 0), some (.invokevirtual 91, 3, 136, 0, 5094), none, none, some (.ifCond .ne 9, 3, 14, 0, 0), none, none, some (.aload_n 0, 1, 0, 0, 0), some (.iconst (-1), 1, 0, 0, 0), some (.invokevirtual 69, 3, 133, 0, 5066), none, none, some (.ireturn, 1, 0, 0, 0), some (.aload_n 0, 1, 0, 0, 0), some (.iload_n 1, 1, 0, 0, 0)],
  [some (.invokevirtual 115, 3, 141, 0, 5134), none, none, some (.iconst 1, 1, 0, 0, 0), some (.if_icmp .ne 10, 3, 30, 0, 0), none, none, some (.aload_n 0, 1, 0, 0, 0), some (.bipush (-6), 2, 0, 0, 0), none, some (.invokevirtual 69, 3, 133, 0, 5066), none, none, some (.ireturn, 1, 0, 0, 0), some (.aload_n 0, 1, 0, 0, 0), some (.iload_n 1, 1, 0, 0, 0)],
  [some (.invokevirtual 214, 3, 181, 0, 5217), none, none, some (.ifCond .eq 8, 3, 43, 0, 0), none, none, some (.aload_n 0, 1, 0, 0, 0), some (.getfield 205, 3, 10, 17, 4204), none, none, some (.ireturn, 1, 0, 0, 0), some (.aload_n 0, 1, 0, 0, 0), some (.aload_n 0, 1, 0, 0, 0), some (.getfield 182, 3, 10, 14, 4201), none, none],
  [some (.putfield 217, 3, 10, 12, 4199), none, none, some (.iconst 0, 1, 0, 0, 0), some (.istore_n 2, 1, 0, 0, 0), some (.iload_n 2, 1, 0, 0, 0), some (.iconst 3, 1, 0, 0, 0), some (.aload_n 0, 1, 0, 0, 0), some (.getfield 182, 3, 10, 14, 4201), none, none, some (.imul, 1, 0, 0, 0), some (.if_icmp .ge 21, 3, 81, 0, 0), none, none, some (.aload_n 0, 1, 0, 0, 0)],
  [some (.getfield 26, 3, 10, 13, 4200), none, none, some (.iload_n 2, 1, 0, 0, 0), some (.aload_n 0, 1, 0, 0, 0), some (.getfield 29, 3, 10, 15, 4202), none, none, some (.iload_n 2, 1, 0, 0, 0), some (.iaload, 1, 0, 0, 0), some (.iastore, 1, 0, 0, 0), some (.iinc 2 1, 3, 0, 0, 0), none, none, some (.goto (-25), 3, 53, 0, 0), none],
  [none, some (.aload_n 0, 1, 0, 0, 0), some (.bipush (-6), 2, 0, 0, 0), none, some (.invokevirtual 69, 3, 133, 0, 5066), none, none, some (.ireturn, 1, 0, 0, 0)]]
def q_f183 : List (List (Option q_In)) := [[some (.iload_n 1, 1, 0, 0, 0), some (.iconst 0, 1, 0, 0, 0), some (.aload_n 0, 1, 0, 0, 0), some (.getfield 217, 3, 10, 12, 4199), none, none, some (.iconst 1, 1, 0, 0, 0), some (.isub, 1, 0, 0, 0), some (.invokestatic 76, 3, 135, 0, 5063), none, none, some (.ifCond .eq 12, 3, 23, 0, 0), none, none, some (.iload_n 2, 1, 0, 0, 0), some (.iconst 0, 1, 0, 0, 0)],
  [some (.iconst 2, 1, 0, 0, 0), some (.invokestatic 76, 3, 135, 0, 5063), none, none, some (.ifCond .ne 10, 3, 30, 0, 0), none, none, some (.aload_n 0, 1, 0, 0, 0), some (.bipush (-5), 2, 0, 0, 0), none, some (.invokevirtual 69, 3, 133, 0, 5066), none, none, some (.ireturn, 1, 0, 0, 0), some (.aload_n 0, 1, 0, 0, 0), some (.getfield 26, 3, 10, 13, 4200)],
  [none, none, some (.iconst 3, 1, 0, 0, 0), some (.aload_n 0, 1, 0, 0, 0), some (.getfield 217, 3, 10, 12, 4199), none, none, some (.iconst 1, 1, 0, 0, 0), some (.isub, 1, 0, 0, 0), some (.iload_n 1, 1, 0, 0, 0), some (.isub, 1, 0, 0, 0), some (.imul, 1, 0, 0, 0), some (.iload_n 2, 1, 0, 0, 0), some (.iadd, 1, 0, 0, 0), some (.iaload, 1, 0, 0, 0), some (.ireturn, 1, 0, 0, 0)]]
def q_f184 : List (List (Option q_In)) := [[some (.iconst 0, 1, 0, 0, 0), some (.istore_n 2, 1, 0, 0, 0), some (.iload_n 2, 1, 0, 0, 0), some (.bipush 8, 2, 0, 0, 0), none, some (.if_icmp .ge 99, 3, 104, 0, 0), none, none, some (.aload_n 0, 1, 0, 0, 0), some (.iload_n 1, 1, 0, 0, 0), some (.iload_n 2, 1, 0, 0, 0), some (.invokevirtual 166, 3, 142, 0, 5197), none, none, some (.ifCond .ne 7, 3, 21, 0, 0), none],
  [none, some (.iconst 1, 1, 0, 0, 0), some (.goto 4, 3, 22, 0, 0), none, none, some (.iconst 0, 1, 0, 0, 0), some (.istore_n 3, 1, 0, 0, 0), some (.iconst 0, 1, 0, 0, 0), some (.istore 4, 2, 0, 0, 0), none, some (.iload 4, 2, 0, 0, 0), none, some (.aload_n 0, 1, 0, 0, 0), some (.getfield 73, 3, 10, 0, 4187), none, none],
  [some (.if_icmp .ge 60, 3, 92, 0, 0), none, none, some (.iload_n 3, 1, 0, 0, 0), some (.ifCond .ne 56, 3, 92, 0, 0), none, none, some (.aload_n 0, 1, 0, 0, 0), some (.iload 4, 2, 0, 0, 0), none, some (.invokevirtual 115, 3, 141, 0, 5134), none, none, some (.iconst 1, 1, 0, 0, 0), some (.if_icmp .ne 38, 3, 84, 0, 0), none],
  [none, some (.aload_n 0, 1, 0, 0, 0), some (.getfield 38, 3, 10, 22, 4209), none, none, some (.iload 4, 2, 0, 0, 0), none, some (.iaload, 1, 0, 0, 0), some (.iconst (-1), 1, 0, 0, 0), some (.if_icmp .ne 27, 3, 84, 0, 0), none, none, some (.aload_n 0, 1, 0, 0, 0), some (.iload 4, 2, 0, 0, 0), none, some (.iload_n 2, 1, 0, 0, 0)],
  [some (.invokevirtual 157, 3, 143, 0, 5205), none, none, some (.ifCond .eq 17, 3, 84, 0, 0), none, none, some (.aload_n 0, 1, 0, 0, 0), some (.iload 4, 2, 0, 0, 0), none, some (.iload_n 1, 1, 0, 0, 0), some (.invokevirtual 160, 3, 144, 0, 5209), none, none, some (.ifCond .eq 7, 3, 84, 0, 0), none, none],
  [some (.iconst 1, 1, 0, 0, 0), some (.goto 4, 3, 85, 0, 0), none, none, some (.iconst 0, 1, 0, 0, 0), some (.istore_n 3, 1, 0, 0, 0), some (.iinc 4 1, 3, 0, 0, 0), none, none, some (.goto (-63), 3, 26, 0, 0), none, none, some (.iload_n 3, 1, 0, 0, 0), some (.ifCond .ne 5, 3, 98, 0, 0), none, none],
  [some (.iconst 0, 1, 0, 0, 0), some (.ireturn, 1, 0, 0, 0), some (.iinc 2 1, 3, 0, 0, 0), none, none, some (.goto (-99), 3, 2, 0, 0), none, none, some (.iconst 1, 1, 0, 0, 0), some (.ireturn, 1, 0, 0, 0)]]
def q_f185 : List (List (Option q_In)) := [[some (.iconst 0, 1, 0, 0, 0), some (.istore_n 2, 1, 0, 0, 0), some (.iload_n 2, 1, 0, 0, 0), some (.bipush 12, 2, 0, 0, 0), none, some (.if_icmp .ge 16, 3, 21, 0, 0), none, none, some (.aload_n 0, 1, 0, 0, 0), some (.getfield 38, 3, 10, 22, 4209), none, none, some (.iload_n 2, 1, 0, 0, 0), some (.iconst (-1), 1, 0, 0, 0), some (.iastore, 1, 0, 0, 0), some (.iinc 2 1, 3, 0, 0, 0)],
  [none, none, some (.goto (-16), 3, 2, 0, 0), none, none, some (.aload_n 0, 1, 0, 0, 0), some (.getfield 38, 3, 10, 22, 4209), none, none, some (.iload_n 1, 1, 0, 0, 0), some (.iconst 0, 1, 0, 0, 0), some (.iastore, 1, 0, 0, 0), some (.iconst 1, 1, 0, 0, 0), some (.istore_n 2, 1, 0, 0, 0), some (.iconst 1, 1, 0, 0, 0), some (.istore_n 3, 1, 0, 0, 0)],
  [some (.iload_n 2, 1, 0, 0, 0), some (.ifCond .eq 117, 3, 150, 0, 0), none, none, some (.iconst 0, 1, 0, 0, 0), some (.istore 4, 2, 0, 0, 0), none, some (.iconst 0, 1, 0, 0, 0), some (.istore 5, 2, 0, 0, 0), none, some (.iload 5, 2, 0, 0, 0), none, some (.aload_n 0, 1, 0, 0, 0), some (.getfield 73, 3, 10, 0, 4187), none, none],
  [some (.if_icmp .ge 48, 3, 96, 0, 0), none, none, some (.aload_n 0, 1, 0, 0, 0), some (.iload 5, 2, 0, 0, 0), none, some (.invokevirtual 115, 3, 141, 0, 5134), none, none, some (.iconst 1, 1, 0, 0, 0), some (.if_icmp .ne 32, 3, 90, 0, 0), none, none, some (.aload_n 0, 1, 0, 0, 0), some (.getfield 38, 3, 10, 22, 4209), none],
  [none, some (.iload 5, 2, 0, 0, 0), none, some (.iaload, 1, 0, 0, 0), some (.iconst (-1), 1, 0, 0, 0), some (.if_icmp .ne 21, 3, 90, 0, 0), none, none, some (.aload_n 0, 1, 0, 0, 0), some (.iload 5, 2, 0, 0, 0), none, some (.invokevirtual 220, 3, 184, 0, 6029), none, none, some (.ifCond .ne 12, 3, 90, 0, 0), none],
  [none, some (.iload 4, 2, 0, 0, 0), none, some (.iconst 1, 1, 0, 0, 0), some (.iload 5, 2, 0, 0, 0), none, some (.ishl, 1, 0, 0, 0), some (.ior, 1, 0, 0, 0), some (.istore 4, 2, 0, 0, 0), none, some (.iinc 5 1, 3, 0, 0, 0), none, none, some (.goto (-51), 3, 42, 0, 0), none, none],
  [some (.iconst 0, 1, 0, 0, 0), some (.istore 5, 2, 0, 0, 0), none, some (.iload 5, 2, 0, 0, 0), none, some (.aload_n 0, 1, 0, 0, 0), some (.getfield 73, 3, 10, 0, 4187), none, none, some (.if_icmp .ge 28, 3, 133, 0, 0), none, none, some (.iload 4, 2, 0, 0, 0), none, some (.iload 5, 2, 0, 0, 0), none],
  [some (.ishr, 1, 0, 0, 0), some (.iconst 1, 1, 0, 0, 0), some (.iand, 1, 0, 0, 0), some (.iconst 1, 1, 0, 0, 0), some (.if_icmp .ne 11, 3, 127, 0, 0), none, none, some (.aload_n 0, 1, 0, 0, 0), some (.getfield 38, 3, 10, 22, 4209), none, none, some (.iload 5, 2, 0, 0, 0), none, some (.iload_n 3, 1, 0, 0, 0), some (.iastore, 1, 0, 0, 0), some (.iinc 5 1, 3, 0, 0, 0)],
  [none, none, some (.goto (-31), 3, 99, 0, 0), none, none, some (.iload 4, 2, 0, 0, 0), none, some (.ifCond .eq 7, 3, 142, 0, 0), none, none, some (.iconst 1, 1, 0, 0, 0), some (.goto 4, 3, 143, 0, 0), none, none, some (.iconst 0, 1, 0, 0, 0), some (.istore_n 2, 1, 0, 0, 0)],
  [some (.iinc 3 1, 3, 0, 0, 0), none, none, some (.goto (-115), 3, 32, 0, 0), none, none, some (.return_, 1, 0, 0, 0)]]
def q_f186 : List (List (Option q_In)) := [[some (.aload_n 0, 1, 0, 0, 0), some (.iload_n 1, 1, 0, 0, 0), some (.invokevirtual 223, 3, 185, 0, 6025), none, none, some (.iconst 0, 1, 0, 0, 0), some (.istore_n 2, 1, 0, 0, 0), some (.iload_n 1, 1, 0, 0, 0), some (.istore_n 3, 1, 0, 0, 0), some (.iload_n 3, 1, 0, 0, 0), some (.iconst (-1), 1, 0, 0, 0), some (.if_icmp .eq 92, 3, 103, 0, 0), none, none, some (.iconst (-1), 1, 0, 0, 0), some (.istore_n 3, 1, 0, 0, 0)],
  [some (.iconst 0, 1, 0, 0, 0), some (.istore 4, 2, 0, 0, 0), none, some (.iload 4, 2, 0, 0, 0), none, some (.aload_n 0, 1, 0, 0, 0), some (.getfield 73, 3, 10, 0, 4187), none, none, some (.if_icmp .ge 48, 3, 73, 0, 0), none, none, some (.aload_n 0, 1, 0, 0, 0), some (.iload 4, 2, 0, 0, 0), none, some (.invokevirtual 115, 3, 141, 0, 5134)],
  [none, none, some (.iconst 1, 1, 0, 0, 0), some (.if_icmp .ne 32, 3, 67, 0, 0), none, none, some (.aload_n 0, 1, 0, 0, 0), some (.getfield 38, 3, 10, 22, 4209), none, none, some (.iload 4, 2, 0, 0, 0), none, some (.iaload, 1, 0, 0, 0), some (.iconst (-1), 1, 0, 0, 0), some (.if_icmp .eq 21, 3, 67, 0, 0), none],
  [none, some (.iload_n 3, 1, 0, 0, 0), some (.iconst (-1), 1, 0, 0, 0), some (.if_icmp .eq 13, 3, 64, 0, 0), none, none, some (.aload_n 0, 1, 0, 0, 0), some (.iload_n 3, 1, 0, 0, 0), some (.iload 4, 2, 0, 0, 0), none, some (.invokevirtual 160, 3, 144, 0, 5209), none, none, some (.ifCond .eq 6, 3, 67, 0, 0), none, none],
  [some (.iload 4, 2, 0, 0, 0), none, some (.istore_n 3, 1, 0, 0, 0), some (.iinc 4 1, 3, 0, 0, 0), none, none, some (.goto (-51), 3, 19, 0, 0), none, none, some (.iload_n 3, 1, 0, 0, 0), some (.iconst (-1), 1, 0, 0, 0), some (.if_icmp .ne 6, 3, 81, 0, 0), none, none, some (.goto (-69), 3, 9, 0, 0), none],
  [none, some (.aload_n 0, 1, 0, 0, 0), some (.getfield 7, 3, 10, 1, 4188), none, none, some (.iload_n 3, 1, 0, 0, 0), some (.iconst 0, 1, 0, 0, 0), some (.iastore, 1, 0, 0, 0), some (.aload_n 0, 1, 0, 0, 0), some (.sipush 200, 3, 0, 0, 0), none, none, some (.iload_n 3, 1, 0, 0, 0), some (.iadd, 1, 0, 0, 0), some (.invokevirtual 198, 3, 173, 0, 6009), none],
  [none, some (.iinc 2 1, 3, 0, 0, 0), none, none, some (.goto (-91), 3, 9, 0, 0), none, none, some (.iload_n 2, 1, 0, 0, 0), some (.ireturn, 1, 0, 0, 0)]]
def q_f187 : List (List (Option q_In)) := [[some (.aload_n 0, 1, 0, 0, 0), some (.iload_n 1, 1, 0, 0, 0), some (.invokevirtual 91, 3, 136, 0, 5094), none, none, some (.ifCond .ne 9, 3, 14, 0, 0), none, none, some (.aload_n 0, 1, 0, 0, 0), some (.iconst (-1), 1, 0, 0, 0), some (.invokevirtual 69, 3, 133, 0, 5066), none, none, some (.ireturn, 1, 0, 0, 0), some (.aload_n 0, 1, 0, 0, 0), some (.iload_n 1, 1, 0, 0, 0)],
  [some (.invokevirtual 115, 3, 141, 0, 5134), none, none, some (.iconst 1, 1, 0, 0, 0), some (.if_icmp .ne 11, 3, 31, 0, 0), none, none, some (.aload_n 0, 1, 0, 0, 0), some (.iload_n 1, 1, 0, 0, 0), some (.invokevirtual 226, 3, 186, 0, 6021), none, none, some (.goto 9, 3, 37, 0, 0), none, none, some (.aload_n 0, 1, 0, 0, 0)],
  [some (.bipush (-6), 2, 0, 0, 0), none, some (.invokevirtual 69, 3, 133, 0, 5066), none, none, some (.ireturn, 1, 0, 0, 0)]]
def q_f188 : List (List (Option q_In)) := [[some (.aload_n 0, 1, 0, 0, 0), some (.iload_n 1, 1, 0, 0, 0), some (.invokevirtual 91, 3, 136, 0, 5094), none, none, some (.ifCond .eq 11, 3, 16, 0, 0), none, none, some (.aload_n 0, 1, 0, 0, 0), some (.iload_n 2, 1, 0, 0, 0), some (.invokevirtual 91, 3, 136, 0, 5094), none, none, some (.ifCond .ne 9, 3, 22, 0, 0), none, none],
  [some (.aload_n 0, 1, 0, 0, 0), some (.iconst (-1), 1, 0, 0, 0), some (.invokevirtual 154, 3, 134, 0, 5182), none, none, some (.ireturn, 1, 0, 0, 0), some (.aload_n 0, 1, 0, 0, 0), some (.iload_n 1, 1, 0, 0, 0), some (.invokevirtual 115, 3, 141, 0, 5134), none, none, some (.iconst 1, 1, 0, 0, 0), some (.if_icmp .eq 10, 3, 38, 0, 0), none, none, some (.aload_n 0, 1, 0, 0, 0)],
  [some (.bipush (-6), 2, 0, 0, 0), none, some (.invokevirtual 154, 3, 134, 0, 5182), none, none, some (.ireturn, 1, 0, 0, 0), some (.aload_n 0, 1, 0, 0, 0), some (.iload_n 1, 1, 0, 0, 0), some (.invokevirtual 223, 3, 185, 0, 6025), none, none, some (.aload_n 0, 1, 0, 0, 0), some (.getfield 38, 3, 10, 22, 4209), none, none, some (.iload_n 2, 1, 0, 0, 0)],
  [some (.iaload, 1, 0, 0, 0), some (.ireturn, 1, 0, 0, 0)]]
def q_f189 : List (List (Option q_In)) := [[some (.aload_n 0, 1, 0, 0, 0), some (.iload_n 1, 1, 0, 0, 0), some (.invokevirtual 91, 3, 136, 0, 5094), none, none, some (.ifCond .ne 9, 3, 14, 0, 0), none, none, some (.aload_n 0, 1, 0, 0, 0), some (.iconst (-1), 1, 0, 0, 0), some (.invokevirtual 69, 3, 133, 0, 5066), none, none, some (.ireturn, 1, 0, 0, 0), some (.aload_n 0, 1, 0, 0, 0), some (.iload_n 1, 1, 0, 0, 0)],
  [some (.invokevirtual 115, 3, 141, 0, 5134), none, none, some (.iconst 2, 1, 0, 0, 0), some (.if_icmp .eq 10, 3, 30, 0, 0), none, none, some (.aload_n 0, 1, 0, 0, 0), some (.bipush (-6), 2, 0, 0, 0), none, some (.invokevirtual 69, 3, 133, 0, 5066), none, none, some (.ireturn, 1, 0, 0, 0), some (.aload_n 0, 1, 0, 0, 0), some (.getfield 7, 3, 10, 1, 4188)],
  [none, none, some (.iload_n 1, 1, 0, 0, 0), some (.iconst 0, 1, 0, 0, 0), some (.iastore, 1, 0, 0, 0), some (.aload_n 0, 1, 0, 0, 0), some (.iconst 5, 1, 0, 0, 0), some (.iload_n 1, 1, 0, 0, 0), some (.invokevirtual 80, 3, 140, 0, 5106), none, none, some (.ireturn, 1, 0, 0, 0)]]
def q_f190 : List (List (Option q_In)) := [[some (.aload_n 0, 1, 0, 0, 0), some (.iload_n 1, 1, 0, 0, 0), some (.invokevirtual 91, 3, 136, 0, 5094), none, none, some (.ifCond .ne 9, 3, 14, 0, 0), none, none, some (.aload_n 0, 1, 0, 0, 0), some (.iconst (-1), 1, 0, 0, 0), some (.invokevirtual 69, 3, 133, 0, 5066), none, none, some (.ireturn, 1, 0, 0, 0), some (.aload_n 0, 1, 0, 0, 0), some (.iload_n 1, 1, 0, 0, 0)],
  [some (.invokevirtual 115, 3, 141, 0, 5134), none, none, some (.iconst 3, 1, 0, 0, 0), some (.if_icmp .ne 10, 3, 30, 0, 0), none, none, some (.aload_n 0, 1, 0, 0, 0), some (.bipush (-6), 2, 0, 0, 0), none, some (.invokevirtual 69, 3, 133, 0, 5066), none, none, some (.ireturn, 1, 0, 0, 0), some (.aload_n 0, 1, 0, 0, 0), some (.iload_n 1, 1, 0, 0, 0)],
  [some (.invokevirtual 115, 3, 141, 0, 5134), none, none, some (.iconst 1, 1, 0, 0, 0), some (.if_icmp .ne 11, 3, 47, 0, 0), none, none, some (.aload_n 0, 1, 0, 0, 0), some (.iload_n 1, 1, 0, 0, 0), some (.invokevirtual 226, 3, 186, 0, 6021), none, none, some (.goto 4, 3, 48, 0, 0), none, none, some (.iconst 0, 1, 0, 0, 0)],
  [some (.istore_n 2, 1, 0, 0, 0), some (.aload_n 0, 1, 0, 0, 0), some (.getfield 7, 3, 10, 1, 4188), none, none, some (.iload_n 1, 1, 0, 0, 0), some (.iconst 3, 1, 0, 0, 0), some (.iastore, 1, 0, 0, 0), some (.iload_n 2, 1, 0, 0, 0), some (.ireturn, 1, 0, 0, 0)]]
def q_f191 : List (List (Option q_In)) := [[some (.aload_n 0, 1, 0, 0, 0), some (.iload_n 1, 1, 0, 0, 0), some (.invokevirtual 91, 3, 136, 0, 5094), none, none, some (.ifCond .ne 9, 3, 14, 0, 0), none, none, some (.aload_n 0, 1, 0, 0, 0), some (.iconst (-1), 1, 0, 0, 0), some (.invokevirtual 154, 3, 134, 0, 5182), none, none, some (.ireturn, 1, 0, 0, 0), some (.aload_n 0, 1, 0, 0, 0), some (.iload_n 1, 1, 0, 0, 0)],
  [some (.invokevirtual 115, 3, 141, 0, 5134), none, none, some (.iconst 1, 1, 0, 0, 0), some (.if_icmp .ne 10, 3, 30, 0, 0), none, none, some (.aload_n 0, 1, 0, 0, 0), some (.bipush (-6), 2, 0, 0, 0), none, some (.invokevirtual 154, 3, 134, 0, 5182), none, none, some (.ireturn, 1, 0, 0, 0), some (.aload_n 0, 1, 0, 0, 0), some (.aload_n 0, 1, 0, 0, 0)],
  [some (.getfield 59, 3, 10, 36, 4223), none, none, some (.invokevirtual 229, 3, 217, 0, 6049), none, none, some (.aload_n 0, 1, 0, 0, 0), some (.iconst 1, 1, 0, 0, 0), some (.putfield 172, 3, 10, 19, 4206), none, none, some (.aload_n 0, 1, 0, 0, 0), some (.iload_n 1, 1, 0, 0, 0), some (.invokevirtual 214, 3, 181, 0, 5217), none, none],
  [some (.istore_n 3, 1, 0, 0, 0), some (.aload_n 0, 1, 0, 0, 0), some (.iconst 0, 1, 0, 0, 0), some (.putfield 172, 3, 10, 19, 4206), none, none, some (.aload_n 0, 1, 0, 0, 0), some (.aload_n 0, 1, 0, 0, 0), some (.getfield 59, 3, 10, 36, 4223), none, none, some (.invokevirtual 233, 3, 218, 0, 6053), none, none, some (.iload_n 3, 1, 0, 0, 0), some (.ifCond .eq 10, 3, 73, 0, 0)],
  [none, none, some (.aload_n 0, 1, 0, 0, 0), some (.getfield 205, 3, 10, 17, 4204), none, none, some (.goto 4, 3, 74, 0, 0), none, none, some (.iconst 0, 1, 0, 0, 0), some (.istore 4, 2, 0, 0, 0), none, some (.iload_n 2, 1, 0, 0, 0), some (.iconst (-1), 1, 0, 0, 0), some (.if_icmp .ne 8, 3, 86, 0, 0), none],
  [none, some (.iload 4, 2, 0, 0, 0), none, some (.goto 25, 3, 108, 0, 0), none, none, some (.iload_n 2, 1, 0, 0, 0), some (.iconst 0, 1, 0, 0, 0), some (.iload 4, 2, 0, 0, 0), none, some (.iconst 1, 1, 0, 0, 0), some (.isub, 1, 0, 0, 0), some (.invokestatic 76, 3, 135, 0, 5063), none, none, some (.ifCond .eq 12, 3, 107, 0, 0)],
  [none, none, some (.aload_n 0, 1, 0, 0, 0), some (.getfield 32, 3, 10, 18, 4205), none, none, some (.iload_n 2, 1, 0, 0, 0), some (.iaload, 1, 0, 0, 0), some (.goto 4, 3, 108, 0, 0), none, none, some (.iconst (-1), 1, 0, 0, 0), some (.ireturn, 1, 0, 0, 0)]]
def q_f192 : List (List (Option q_In)) := [[some (.iconst 0, 1, 0, 0, 0), some (.istore_n 2, 1, 0, 0, 0), some (.iload_n 2, 1, 0, 0, 0), some (.aload_n 0, 1, 0, 0, 0), some (.getfield 73, 3, 10, 0, 4187), none, none, some (.if_icmp .ge 71, 3, 78, 0, 0), none, none, some (.aload_n 0, 1, 0, 0, 0), some (.iload_n 2, 1, 0, 0, 0), some (.invokevirtual 115, 3, 141, 0, 5134), none, none, some (.iconst 1, 1, 0, 0, 0)],
  [some (.if_icmp .eq 6, 3, 22, 0, 0), none, none, some (.goto 53, 3, 72, 0, 0), none, none, some (.iconst 0, 1, 0, 0, 0), some (.istore_n 3, 1, 0, 0, 0), some (.iconst 0, 1, 0, 0, 0), some (.istore 4, 2, 0, 0, 0), none, some (.iload 4, 2, 0, 0, 0), none, some (.aload_n 0, 1, 0, 0, 0), some (.getfield 73, 3, 10, 0, 4187), none],
  [none, some (.if_icmp .ge 32, 3, 65, 0, 0), none, none, some (.aload_n 0, 1, 0, 0, 0), some (.iload 4, 2, 0, 0, 0), none, some (.invokevirtual 115, 3, 141, 0, 5134), none, none, some (.iconst 1, 1, 0, 0, 0), some (.if_icmp .ne 16, 3, 59, 0, 0), none, none, some (.aload_n 0, 1, 0, 0, 0), some (.iload 4, 2, 0, 0, 0)],
  [none, some (.iload_n 2, 1, 0, 0, 0), some (.invokevirtual 160, 3, 144, 0, 5209), none, none, some (.ifCond .eq 6, 3, 59, 0, 0), none, none, some (.iinc 3 1, 3, 0, 0, 0), none, none, some (.iinc 4 1, 3, 0, 0, 0), none, none, some (.goto (-35), 3, 27, 0, 0), none],
  [none, some (.iload_n 3, 1, 0, 0, 0), some (.iload_n 1, 1, 0, 0, 0), some (.if_icmp .ne 5, 3, 72, 0, 0), none, none, some (.iload_n 2, 1, 0, 0, 0), some (.ireturn, 1, 0, 0, 0), some (.iinc 2 1, 3, 0, 0, 0), none, none, some (.goto (-73), 3, 2, 0, 0), none, none, some (.iconst (-1), 1, 0, 0, 0), some (.ireturn, 1, 0, 0, 0)]]
def q_f193 : List (List (Option q_In)) := [[some (.iload_n 1, 1, 0, 0, 0), some (.invokestatic 163, 3, 138, 0, 5194), none, none, some (.ifCond .ne 9, 3, 13, 0, 0), none, none, some (.aload_n 0, 1, 0, 0, 0), some (.iconst (-1), 1, 0, 0, 0), some (.invokevirtual 69, 3, 133, 0, 5066), none, none, some (.ireturn, 1, 0, 0, 0), some (.iconst 0, 1, 0, 0, 0), some (.istore_n 2, 1, 0, 0, 0), some (.iconst 0, 1, 0, 0, 0)],
  [some (.istore_n 3, 1, 0, 0, 0), some (.iload_n 3, 1, 0, 0, 0), some (.aload_n 0, 1, 0, 0, 0), some (.getfield 73, 3, 10, 0, 4187), none, none, some (.if_icmp .ge 33, 3, 55, 0, 0), none, none, some (.aload_n 0, 1, 0, 0, 0), some (.iload_n 3, 1, 0, 0, 0), some (.invokevirtual 115, 3, 141, 0, 5134), none, none, some (.iconst 1, 1, 0, 0, 0), some (.if_icmp .ne 18, 3, 49, 0, 0)],
  [none, none, some (.aload_n 0, 1, 0, 0, 0), some (.iload_n 3, 1, 0, 0, 0), some (.iload_n 1, 1, 0, 0, 0), some (.invokevirtual 157, 3, 143, 0, 5205), none, none, some (.ifCond .eq 9, 3, 49, 0, 0), none, none, some (.iload_n 2, 1, 0, 0, 0), some (.iconst 1, 1, 0, 0, 0), some (.iload_n 3, 1, 0, 0, 0), some (.ishl, 1, 0, 0, 0), some (.ior, 1, 0, 0, 0)],
  [some (.istore_n 2, 1, 0, 0, 0), some (.iinc 3 1, 3, 0, 0, 0), none, none, some (.goto (-35), 3, 17, 0, 0), none, none, some (.iload_n 2, 1, 0, 0, 0), some (.ireturn, 1, 0, 0, 0)]]
def q_f194 : List (List (Option q_In)) := [[some (.aload_n 0, 1, 0, 0, 0), some (.getfield 13, 3, 10, 5, 4192), none, none, some (.bipush 24, 2, 0, 0, 0), none, some (.iload_n 1, 1, 0, 0, 0), some (.imul, 1, 0, 0, 0), some (.iload_n 2, 1, 0, 0, 0), some (.iadd, 1, 0, 0, 0), some (.iaload, 1, 0, 0, 0), some (.ireturn, 1, 0, 0, 0)]]
def q_f195 : List (List (Option q_In)) := [[some (.aload_n 0, 1, 0, 0, 0), some (.iload_n 1, 1, 0, 0, 0), some (.invokevirtual 91, 3, 136, 0, 5094), none, none, some (.ifCond .eq 19, 3, 24, 0, 0), none, none, some (.aload_n 0, 1, 0, 0, 0), some (.iload_n 1, 1, 0, 0, 0), some (.invokevirtual 115, 3, 141, 0, 5134), none, none, some (.iconst 3, 1, 0, 0, 0), some (.if_icmp .eq 10, 3, 24, 0, 0), none],
  [none, some (.iload_n 2, 1, 0, 0, 0), some (.invokestatic 236, 3, 137, 0, 6069), none, none, some (.ifCond .ne 9, 3, 30, 0, 0), none, none, some (.aload_n 0, 1, 0, 0, 0), some (.iconst (-1), 1, 0, 0, 0), some (.invokevirtual 69, 3, 133, 0, 5066), none, none, some (.ireturn, 1, 0, 0, 0), some (.iload_n 3, 1, 0, 0, 0), some (.bipush (-9), 2, 0, 0, 0)],
  [none, some (.bipush 9, 2, 0, 0, 0), none, some (.invokestatic 76, 3, 135, 0, 5063), none, none, some (.ifCond .eq 26, 3, 64, 0, 0), none, none, some (.iload 4, 2, 0, 0, 0), none, some (.iconst 0, 1, 0, 0, 0), some (.bipush 8, 2, 0, 0, 0), none, some (.invokestatic 76, 3, 135, 0, 5063), none],
  [none, some (.ifCond .eq 15, 3, 64, 0, 0), none, none, some (.iload 5, 2, 0, 0, 0), none, some (.bipush (-99), 2, 0, 0, 0), none, some (.bipush 99, 2, 0, 0, 0), none, some (.invokestatic 76, 3, 135, 0, 5063), none, none, some (.ifCond .ne 10, 3, 71, 0, 0), none, none],
  [some (.aload_n 0, 1, 0, 0, 0), some (.bipush (-6), 2, 0, 0, 0), none, some (.invokevirtual 69, 3, 133, 0, 5066), none, none, some (.ireturn, 1, 0, 0, 0), some (.aload_n 0, 1, 0, 0, 0), some (.getfield 239, 3, 10, 4, 4191), none, none, some (.bipush 24, 2, 0, 0, 0), none, some (.if_icmp .ne 10, 3, 87, 0, 0), none, none],
  [some (.aload_n 0, 1, 0, 0, 0), some (.bipush (-7), 2, 0, 0, 0), none, some (.invokevirtual 69, 3, 133, 0, 5066), none, none, some (.ireturn, 1, 0, 0, 0), some (.aload_n 0, 1, 0, 0, 0), some (.getfield 13, 3, 10, 5, 4192), none, none, some (.aload_n 0, 1, 0, 0, 0), some (.getfield 239, 3, 10, 4, 4191), none, none, some (.iload_n 1, 1, 0, 0, 0)],
  [some (.iastore, 1, 0, 0, 0), some (.aload_n 0, 1, 0, 0, 0), some (.getfield 13, 3, 10, 5, 4192), none, none, some (.bipush 24, 2, 0, 0, 0), none, some (.aload_n 0, 1, 0, 0, 0), some (.getfield 239, 3, 10, 4, 4191), none, none, some (.iadd, 1, 0, 0, 0), some (.iload_n 2, 1, 0, 0, 0), some (.iastore, 1, 0, 0, 0), some (.aload_n 0, 1, 0, 0, 0), some (.getfield 13, 3, 10, 5, 4192)],
  [none, none, some (.bipush 48, 2, 0, 0, 0), none, some (.aload_n 0, 1, 0, 0, 0), some (.getfield 239, 3, 10, 4, 4191), none, none, some (.iadd, 1, 0, 0, 0), some (.iload_n 3, 1, 0, 0, 0), some (.iastore, 1, 0, 0, 0), some (.aload_n 0, 1, 0, 0, 0), some (.getfield 13, 3, 10, 5, 4192), none, none, some (.bipush 72, 2, 0, 0, 0)],
  [none, some (.aload_n 0, 1, 0, 0, 0), some (.getfield 239, 3, 10, 4, 4191), none, none, some (.iadd, 1, 0, 0, 0), some (.iload 4, 2, 0, 0, 0), none, some (.iastore, 1, 0, 0, 0), some (.aload_n 0, 1, 0, 0, 0), some (.getfield 13, 3, 10, 5, 4192), none, none, some (.bipush 96, 2, 0, 0, 0), none, some (.aload_n 0, 1, 0, 0, 0)],
  [some (.getfield 239, 3, 10, 4, 4191), none, none, some (.iadd, 1, 0, 0, 0), some (.iload 5, 2, 0, 0, 0), none, some (.iastore, 1, 0, 0, 0), some (.aload_n 0, 1, 0, 0, 0), some (.dup, 1, 0, 0, 0), some (.getfield 239, 3, 10, 4, 4191), none, none, some (.dup_x1, 1, 0, 0, 0), some (.iconst 1, 1, 0, 0, 0), some (.iadd, 1, 0, 0, 0), some (.putfield 239, 3, 10, 4, 4191)],
  [none, none, some (.ireturn, 1, 0, 0, 0)]]
def q_f196 : List (List (Option q_In)) := [[some (.iload_n 1, 1, 0, 0, 0), some (.iconst 0, 1, 0, 0, 0), some (.aload_n 0, 1, 0, 0, 0), some (.getfield 239, 3, 10, 4, 4191), none, none, some (.iconst 1, 1, 0, 0, 0), some (.isub, 1, 0, 0, 0), some (.invokestatic 76, 3, 135, 0, 5063), none, none, some (.ifCond .eq 12, 3, 23, 0, 0), none, none, some (.iload_n 2, 1, 0, 0, 0), some (.iconst 0, 1, 0, 0, 0)],
  [some (.iconst 4, 1, 0, 0, 0), some (.invokestatic 76, 3, 135, 0, 5063), none, none, some (.ifCond .ne 10, 3, 30, 0, 0), none, none, some (.aload_n 0, 1, 0, 0, 0), some (.bipush (-5), 2, 0, 0, 0), none, some (.invokevirtual 69, 3, 133, 0, 5066), none, none, some (.ireturn, 1, 0, 0, 0), some (.aload_n 0, 1, 0, 0, 0), some (.iload_n 2, 1, 0, 0, 0)],
  [some (.iload_n 1, 1, 0, 0, 0), some (.invokevirtual 242, 3, 194, 0, 6076), none, none, some (.iload_n 2, 1, 0, 0, 0), some (.iconst 2, 1, 0, 0, 0), some (.if_icmp .ne 8, 3, 46, 0, 0), none, none, some (.bipush 10, 2, 0, 0, 0), none, some (.goto 14, 3, 57, 0, 0), none, none, some (.iload_n 2, 1, 0, 0, 0), some (.iconst 4, 1, 0, 0, 0)],
  [some (.if_icmp .ne 8, 3, 56, 0, 0), none, none, some (.bipush 100, 2, 0, 0, 0), none, some (.goto 4, 3, 57, 0, 0), none, none, some (.iconst 0, 1, 0, 0, 0), some (.iadd, 1, 0, 0, 0), some (.ireturn, 1, 0, 0, 0)]]
def q_f197 : List (List (Option q_In)) := [[some (.aload_n 0, 1, 0, 0, 0), some (.iconst 2, 1, 0, 0, 0), some (.iload_n 1, 1, 0, 0, 0), some (.invokevirtual 242, 3, 194, 0, 6076), none, none, some (.aload_n 0, 1, 0, 0, 0), some (.iconst 2, 1, 0, 0, 0), some (.iload_n 2, 1, 0, 0, 0), some (.invokevirtual 242, 3, 194, 0, 6076), none, none, some (.if_icmp .eq 24, 3, 36, 0, 0), none, none, some (.aload_n 0, 1, 0, 0, 0)],
  [some (.iconst 2, 1, 0, 0, 0), some (.iload_n 1, 1, 0, 0, 0), some (.invokevirtual 242, 3, 194, 0, 6076), none, none, some (.aload_n 0, 1, 0, 0, 0), some (.iconst 2, 1, 0, 0, 0), some (.iload_n 2, 1, 0, 0, 0), some (.invokevirtual 242, 3, 194, 0, 6076), none, none, some (.if_icmp .le 7, 3, 34, 0, 0), none, none, some (.iconst 1, 1, 0, 0, 0), some (.goto 4, 3, 35, 0, 0)],
  [none, none, some (.iconst 0, 1, 0, 0, 0), some (.ireturn, 1, 0, 0, 0), some (.aload_n 0, 1, 0, 0, 0), some (.iconst 0, 1, 0, 0, 0), some (.iload_n 1, 1, 0, 0, 0), some (.invokevirtual 242, 3, 194, 0, 6076), none, none, some (.aload_n 0, 1, 0, 0, 0), some (.iconst 0, 1, 0, 0, 0), some (.iload_n 2, 1, 0, 0, 0), some (.invokevirtual 242, 3, 194, 0, 6076), none, none],
  [some (.if_icmp .eq 20, 3, 68, 0, 0), none, none, some (.aload_n 0, 1, 0, 0, 0), some (.aload_n 0, 1, 0, 0, 0), some (.iconst 0, 1, 0, 0, 0), some (.iload_n 1, 1, 0, 0, 0), some (.invokevirtual 242, 3, 194, 0, 6076), none, none, some (.aload_n 0, 1, 0, 0, 0), some (.iconst 0, 1, 0, 0, 0), some (.iload_n 2, 1, 0, 0, 0), some (.invokevirtual 242, 3, 194, 0, 6076), none, none],
  [some (.invokevirtual 160, 3, 144, 0, 5209), none, none, some (.ireturn, 1, 0, 0, 0), some (.iload_n 1, 1, 0, 0, 0), some (.iload_n 2, 1, 0, 0, 0), some (.if_icmp .ge 7, 3, 77, 0, 0), none, none, some (.iconst 1, 1, 0, 0, 0), some (.goto 4, 3, 78, 0, 0), none, none, some (.iconst 0, 1, 0, 0, 0), some (.ireturn, 1, 0, 0, 0)]]
def q_f198 : List (List (Option q_In)) := [[some (.aload_n 0, 1, 0, 0, 0), some (.iconst 0, 1, 0, 0, 0), some (.putfield 245, 3, 10, 23, 4210), none, none, some (.iconst 0, 1, 0, 0, 0), some (.istore_n 3, 1, 0, 0, 0), some (.iload_n 3, 1, 0, 0, 0), some (.aload_n 0, 1, 0, 0, 0), some (.getfield 239, 3, 10, 4, 4191), none, none, some (.if_icmp .ge 109, 3, 121, 0, 0), none, none, some (.iload_n 3, 1, 0, 0, 0)],
  [some (.iload_n 2, 1, 0, 0, 0), some (.if_icmp .eq 98, 3, 115, 0, 0), none, none, some (.aload_n 0, 1, 0, 0, 0), some (.iconst 1, 1, 0, 0, 0), some (.iload_n 3, 1, 0, 0, 0), some (.invokevirtual 242, 3, 194, 0, 6076), none, none, some (.iload_n 1, 1, 0, 0, 0), some (.if_icmp .ne 88, 3, 115, 0, 0), none, none, some (.aload_n 0, 1, 0, 0, 0), some (.aload_n 0, 1, 0, 0, 0)],
  [some (.iconst 0, 1, 0, 0, 0), some (.iload_n 3, 1, 0, 0, 0), some (.invokevirtual 242, 3, 194, 0, 6076), none, none, some (.invokevirtual 115, 3, 141, 0, 5134), none, none, some (.iconst 1, 1, 0, 0, 0), some (.if_icmp .eq 6, 3, 47, 0, 0), none, none, some (.goto 71, 3, 115, 0, 0), none, none, some (.aload_n 0, 1, 0, 0, 0)],
  [some (.getfield 245, 3, 10, 23, 4210), none, none, some (.istore 4, 2, 0, 0, 0), none, some (.iload 4, 2, 0, 0, 0), none, some (.ifCond .le 42, 3, 97, 0, 0), none, none, some (.aload_n 0, 1, 0, 0, 0), some (.iload_n 3, 1, 0, 0, 0), some (.aload_n 0, 1, 0, 0, 0), some (.getfield 41, 3, 10, 24, 4211), none, none],
  [some (.iload 4, 2, 0, 0, 0), none, some (.iconst 1, 1, 0, 0, 0), some (.isub, 1, 0, 0, 0), some (.iaload, 1, 0, 0, 0), some (.invokevirtual 248, 3, 197, 0, 6088), none, none, some (.ifCond .eq 25, 3, 97, 0, 0), none, none, some (.aload_n 0, 1, 0, 0, 0), some (.getfield 41, 3, 10, 24, 4211), none, none, some (.iload 4, 2, 0, 0, 0)],
  [none, some (.aload_n 0, 1, 0, 0, 0), some (.getfield 41, 3, 10, 24, 4211), none, none, some (.iload 4, 2, 0, 0, 0), none, some (.iconst 1, 1, 0, 0, 0), some (.isub, 1, 0, 0, 0), some (.iaload, 1, 0, 0, 0), some (.iastore, 1, 0, 0, 0), some (.iinc 4 (-1), 3, 0, 0, 0), none, none, some (.goto (-41), 3, 53, 0, 0), none],
  [none, some (.aload_n 0, 1, 0, 0, 0), some (.getfield 41, 3, 10, 24, 4211), none, none, some (.iload 4, 2, 0, 0, 0), none, some (.iload_n 3, 1, 0, 0, 0), some (.iastore, 1, 0, 0, 0), some (.aload_n 0, 1, 0, 0, 0), some (.dup, 1, 0, 0, 0), some (.getfield 245, 3, 10, 23, 4210), none, none, some (.iconst 1, 1, 0, 0, 0), some (.iadd, 1, 0, 0, 0)],
  [some (.putfield 245, 3, 10, 23, 4210), none, none, some (.iinc 3 1, 3, 0, 0, 0), none, none, some (.goto (-111), 3, 7, 0, 0), none, none, some (.return_, 1, 0, 0, 0)]]
def q_f199 : List (List (Option q_In)) := [[some (.iload_n 1, 1, 0, 0, 0), some (.invokestatic 236, 3, 137, 0, 6069), none, none, some (.ifCond .ne 9, 3, 13, 0, 0), none, none, some (.aload_n 0, 1, 0, 0, 0), some (.iconst (-1), 1, 0, 0, 0), some (.invokevirtual 154, 3, 134, 0, 5182), none, none, some (.ireturn, 1, 0, 0, 0), some (.aload_n 0, 1, 0, 0, 0), some (.iload_n 1, 1, 0, 0, 0), some (.iconst (-1), 1, 0, 0, 0)],
  [some (.invokevirtual 251, 3, 198, 0, 6084), none, none, some (.iload_n 2, 1, 0, 0, 0), some (.iconst 0, 1, 0, 0, 0), some (.aload_n 0, 1, 0, 0, 0), some (.getfield 245, 3, 10, 23, 4210), none, none, some (.iconst 1, 1, 0, 0, 0), some (.isub, 1, 0, 0, 0), some (.invokestatic 76, 3, 135, 0, 5063), none, none, some (.ifCond .eq 12, 3, 42, 0, 0), none],
  [none, some (.aload_n 0, 1, 0, 0, 0), some (.getfield 41, 3, 10, 24, 4211), none, none, some (.iload_n 2, 1, 0, 0, 0), some (.iaload, 1, 0, 0, 0), some (.goto 4, 3, 43, 0, 0), none, none, some (.iconst (-1), 1, 0, 0, 0), some (.ireturn, 1, 0, 0, 0)]]
def q_f200 : List (List (Option q_In)) := [[some (.iload_n 0, 1, 0, 0, 0), some (.bipush 10, 2, 0, 0, 0), none, some (.irem, 1, 0, 0, 0), some (.istore_n 1, 1, 0, 0, 0), some (.iload_n 1, 1, 0, 0, 0), some (.ifCond .ge 10, 3, 16, 0, 0), none, none, some (.iload_n 1, 1, 0, 0, 0), some (.bipush 10, 2, 0, 0, 0), none, some (.iadd, 1, 0, 0, 0), some (.goto 4, 3, 17, 0, 0), none, none],
  [some (.iload_n 1, 1, 0, 0, 0), some (.ireturn, 1, 0, 0, 0)]]
def q_f201 : List (List (Option q_In)) := [[some (.aload_n 0, 1, 0, 0, 0), some (.iconst 1, 1, 0, 0, 0), some (.putfield 255, 3, 10, 25, 4212), none, none, some (.aload_n 0, 1, 0, 0, 0), some (.iload_n 1, 1, 0, 0, 0), some (.putfield 258, 3, 10, 26, 4213), none, none, some (.iconst 0, 1, 0, 0, 0), some (.ireturn, 1, 0, 0, 0)]]
def q_f202 : List (List (Option q_In)) := [[some (.iload_n 1, 1, 0, 0, 0), some (.aload_n 0, 1, 0, 0, 0), some (.getfield 245, 3, 10, 23, 4210), none, none, some (.if_icmp .ne 5, 3, 10, 0, 0), none, none, some (.iload_n 2, 1, 0, 0, 0), some (.ireturn, 1, 0, 0, 0), some (.aload_n 0, 1, 0, 0, 0), some (.getfield 261, 3, 10, 27, 4214), none, none, some (.sipush 200, 3, 0, 0, 0), none],
  [none, some (.if_icmp .ne 10, 3, 27, 0, 0), none, none, some (.aload_n 0, 1, 0, 0, 0), some (.iconst 2, 1, 0, 0, 0), some (.putfield 255, 3, 10, 25, 4212), none, none, some (.iconst 0, 1, 0, 0, 0), some (.ireturn, 1, 0, 0, 0), some (.aload_n 0, 1, 0, 0, 0), some (.getfield 41, 3, 10, 24, 4211), none, none, some (.iload_n 1, 1, 0, 0, 0)],
  [some (.iaload, 1, 0, 0, 0), some (.istore_n 3, 1, 0, 0, 0), some (.aload_n 0, 1, 0, 0, 0), some (.getfield 261, 3, 10, 27, 4214), none, none, some (.bipush 30, 2, 0, 0, 0), none, some (.if_icmp .ge 13, 3, 53, 0, 0), none, none, some (.aload_n 0, 1, 0, 0, 0), some (.getfield 44, 3, 10, 28, 4215), none, none, some (.aload_n 0, 1, 0, 0, 0)],
  [some (.getfield 261, 3, 10, 27, 4214), none, none, some (.iload_n 3, 1, 0, 0, 0), some (.iastore, 1, 0, 0, 0), some (.aload_n 0, 1, 0, 0, 0), some (.dup, 1, 0, 0, 0), some (.getfield 261, 3, 10, 27, 4214), none, none, some (.iconst 1, 1, 0, 0, 0), some (.iadd, 1, 0, 0, 0), some (.putfield 261, 3, 10, 27, 4214), none, none, some (.aload_n 0, 1, 0, 0, 0)],
  [some (.iconst 4, 1, 0, 0, 0), some (.iload_n 3, 1, 0, 0, 0), some (.invokevirtual 242, 3, 194, 0, 6076), none, none, some (.istore 4, 2, 0, 0, 0), none, some (.aload_n 0, 1, 0, 0, 0), some (.iconst 3, 1, 0, 0, 0), some (.iload_n 3, 1, 0, 0, 0), some (.invokevirtual 242, 3, 194, 0, 6076), none, none, some (.tableswitch 207 0 7 #[47, 59, 71, 102, 127, 142, 160, 184], 47, 0, 0, 0), none, none],
  [none, none, none, none, none, none, none, none, none, none, none, none, none, none, none, none],
  [none, none, none, none, none, none, none, none, none, none, none, none, none, none, none, none],
  [none, none, none, none, none, none, none, none, none, none, none, none, some (.aload_n 0, 1, 0, 0, 0), some (.iload_n 1, 1, 0, 0, 0), some (.iconst 1, 1, 0, 0, 0), some (.iadd, 1, 0, 0, 0)],
  [some (.iload_n 2, 1, 0, 0, 0), some (.iload 4, 2, 0, 0, 0), none, some (.iadd, 1, 0, 0, 0), some (.invokevirtual 264, 3, 202, 0, 6100), none, none, some (.ireturn, 1, 0, 0, 0), some (.aload_n 0, 1, 0, 0, 0), some (.iload_n 1, 1, 0, 0, 0), some (.iconst 1, 1, 0, 0, 0), some (.iadd, 1, 0, 0, 0), some (.iload_n 2, 1, 0, 0, 0), some (.invokevirtual 264, 3, 202, 0, 6100), none, none],
  [some (.iload 4, 2, 0, 0, 0), none, some (.imul, 1, 0, 0, 0), some (.ireturn, 1, 0, 0, 0), some (.aload_n 0, 1, 0, 0, 0), some (.iload_n 1, 1, 0, 0, 0), some (.iconst 1, 1, 0, 0, 0), some (.iadd, 1, 0, 0, 0), some (.iload_n 2, 1, 0, 0, 0), some (.invokevirtual 264, 3, 202, 0, 6100), none, none, some (.istore 5, 2, 0, 0, 0), none, some (.aload_n 0, 1, 0, 0, 0), some (.getfield 255, 3, 10, 25, 4212)],
  [none, none, some (.ifCond .ne 15, 3, 177, 0, 0), none, none, some (.aload_n 0, 1, 0, 0, 0), some (.iload_n 1, 1, 0, 0, 0), some (.iconst 1, 1, 0, 0, 0), some (.iadd, 1, 0, 0, 0), some (.iload 5, 2, 0, 0, 0), none, some (.invokevirtual 264, 3, 202, 0, 6100), none, none, some (.goto 4, 3, 178, 0, 0), none],
  [none, some (.iconst 0, 1, 0, 0, 0), some (.ireturn, 1, 0, 0, 0), some (.iload_n 2, 1, 0, 0, 0), some (.invokestatic 267, 3, 200, 0, 6104), none, none, some (.iload 4, 2, 0, 0, 0), none, some (.invokestatic 267, 3, 200, 0, 6104), none, none, some (.if_icmp .ne 7, 3, 195, 0, 0), none, none, some (.iload_n 2, 1, 0, 0, 0)],
  [some (.goto 11, 3, 203, 0, 0), none, none, some (.aload_n 0, 1, 0, 0, 0), some (.iload_n 1, 1, 0, 0, 0), some (.iconst 1, 1, 0, 0, 0), some (.iadd, 1, 0, 0, 0), some (.iload_n 2, 1, 0, 0, 0), some (.invokevirtual 264, 3, 202, 0, 6100), none, none, some (.ireturn, 1, 0, 0, 0), some (.aload_n 0, 1, 0, 0, 0), some (.iload_n 1, 1, 0, 0, 0), some (.iconst 1, 1, 0, 0, 0), some (.iadd, 1, 0, 0, 0)],
  [some (.iload_n 2, 1, 0, 0, 0), some (.iload 4, 2, 0, 0, 0), none, some (.ixor, 1, 0, 0, 0), some (.invokevirtual 264, 3, 202, 0, 6100), none, none, some (.iload 4, 2, 0, 0, 0), none, some (.ixor, 1, 0, 0, 0), some (.ireturn, 1, 0, 0, 0), some (.aload_n 0, 1, 0, 0, 0), some (.iload_n 1, 1, 0, 0, 0), some (.iconst 1, 1, 0, 0, 0), some (.iadd, 1, 0, 0, 0), some (.iload_n 2, 1, 0, 0, 0)],
  [some (.invokevirtual 264, 3, 202, 0, 6100), none, none, some (.istore 5, 2, 0, 0, 0), none, some (.iload 5, 2, 0, 0, 0), none, some (.aload_n 0, 1, 0, 0, 0), some (.getfield 261, 3, 10, 27, 4214), none, none, some (.iadd, 1, 0, 0, 0), some (.ireturn, 1, 0, 0, 0), some (.aload_n 0, 1, 0, 0, 0), some (.getfield 47, 3, 10, 29, 4216), none],
  [none, some (.aload_n 0, 1, 0, 0, 0), some (.iconst 0, 1, 0, 0, 0), some (.iload_n 3, 1, 0, 0, 0), some (.invokevirtual 242, 3, 194, 0, 6076), none, none, some (.dup2, 1, 0, 0, 0), some (.iaload, 1, 0, 0, 0), some (.iload_n 2, 1, 0, 0, 0), some (.iadd, 1, 0, 0, 0), some (.iastore, 1, 0, 0, 0), some (.aload_n 0, 1, 0, 0, 0), some (.iload_n 1, 1, 0, 0, 0), some (.iconst 1, 1, 0, 0, 0), some (.iadd, 1, 0, 0, 0)],
  [some (.iload_n 2, 1, 0, 0, 0), some (.invokevirtual 264, 3, 202, 0, 6100), none, none, some (.ireturn, 1, 0, 0, 0), some (.iload_n 2, 1, 0, 0, 0), some (.iload 4, 2, 0, 0, 0), none, some (.if_icmp .ge 11, 3, 275, 0, 0), none, none, some (.aload_n 0, 1, 0, 0, 0), some (.iload_n 2, 1, 0, 0, 0), some (.invokevirtual 270, 3, 201, 0, 6107), none, none],
  [some (.goto 11, 3, 283, 0, 0), none, none, some (.aload_n 0, 1, 0, 0, 0), some (.iload_n 1, 1, 0, 0, 0), some (.iconst 1, 1, 0, 0, 0), some (.iadd, 1, 0, 0, 0), some (.iload_n 2, 1, 0, 0, 0), some (.invokevirtual 264, 3, 202, 0, 6100), none, none, some (.ireturn, 1, 0, 0, 0), some (.aload_n 0, 1, 0, 0, 0), some (.iload_n 1, 1, 0, 0, 0), some (.iconst 1, 1, 0, 0, 0), some (.iadd, 1, 0, 0, 0)],
  [some (.iload_n 2, 1, 0, 0, 0), some (.invokevirtual 264, 3, 202, 0, 6100), none, none, some (.istore 5, 2, 0, 0, 0), none, some (.aload_n 0, 1, 0, 0, 0), some (.getfield 255, 3, 10, 25, 4212), none, none, some (.iconst 1, 1, 0, 0, 0), some (.if_icmp .eq 6, 3, 305, 0, 0), none, none, some (.iload 5, 2, 0, 0, 0), none],
  [some (.ireturn, 1, 0, 0, 0), some (.aload_n 0, 1, 0, 0, 0), some (.iconst 0, 1, 0, 0, 0), some (.putfield 255, 3, 10, 25, 4212), none, none, some (.aload_n 0, 1, 0, 0, 0), some (.getfield 258, 3, 10, 26, 4213), none, none, some (.iload 4, 2, 0, 0, 0), none, some (.iadd, 1, 0, 0, 0), some (.ireturn, 1, 0, 0, 0)]]
def q_f203 : List (List (Option q_In)) := [[some (.aload_n 0, 1, 0, 0, 0), some (.iconst 0, 1, 0, 0, 0), some (.putfield 255, 3, 10, 25, 4212), none, none, some (.aload_n 0, 1, 0, 0, 0), some (.iconst 0, 1, 0, 0, 0), some (.putfield 258, 3, 10, 26, 4213), none, none, some (.aload_n 0, 1, 0, 0, 0), some (.iconst 0, 1, 0, 0, 0), some (.putfield 261, 3, 10, 27, 4214), none, none, some (.iconst 0, 1, 0, 0, 0)],
  [some (.istore_n 2, 1, 0, 0, 0), some (.iload_n 2, 1, 0, 0, 0), some (.bipush 12, 2, 0, 0, 0), none, some (.if_icmp .ge 16, 3, 36, 0, 0), none, none, some (.aload_n 0, 1, 0, 0, 0), some (.getfield 47, 3, 10, 29, 4216), none, none, some (.iload_n 2, 1, 0, 0, 0), some (.iconst 0, 1, 0, 0, 0), some (.iastore, 1, 0, 0, 0), some (.iinc 2 1, 3, 0, 0, 0), none],
  [none, some (.goto (-16), 3, 17, 0, 0), none, none, some (.aload_n 0, 1, 0, 0, 0), some (.iconst 0, 1, 0, 0, 0), some (.iload_n 1, 1, 0, 0, 0), some (.invokevirtual 264, 3, 202, 0, 6100), none, none, some (.istore_n 2, 1, 0, 0, 0), some (.aload_n 0, 1, 0, 0, 0), some (.getfield 255, 3, 10, 25, 4212), none, none, some (.ifCond .ne 7, 3, 54, 0, 0)],
  [none, none, some (.iload_n 2, 1, 0, 0, 0), some (.goto 19, 3, 70, 0, 0), none, none, some (.aload_n 0, 1, 0, 0, 0), some (.getfield 255, 3, 10, 25, 4212), none, none, some (.iconst 1, 1, 0, 0, 0), some (.if_icmp .ne 10, 3, 69, 0, 0), none, none, some (.aload_n 0, 1, 0, 0, 0), some (.getfield 258, 3, 10, 26, 4213)],
  [none, none, some (.goto 4, 3, 70, 0, 0), none, none, some (.iconst 0, 1, 0, 0, 0), some (.ireturn, 1, 0, 0, 0)]]
def q_f204 : List (List (Option q_In)) := [[some (.iload_n 1, 1, 0, 0, 0), some (.invokestatic 236, 3, 137, 0, 6069), none, none, some (.ifCond .ne 9, 3, 13, 0, 0), none, none, some (.aload_n 0, 1, 0, 0, 0), some (.iconst (-1), 1, 0, 0, 0), some (.invokevirtual 69, 3, 133, 0, 5066), none, none, some (.ireturn, 1, 0, 0, 0), some (.aload_n 0, 1, 0, 0, 0), some (.iload_n 1, 1, 0, 0, 0), some (.iconst (-1), 1, 0, 0, 0)],
  [some (.invokevirtual 251, 3, 198, 0, 6084), none, none, some (.aload_n 0, 1, 0, 0, 0), some (.aload_n 0, 1, 0, 0, 0), some (.iload_n 2, 1, 0, 0, 0), some (.invokevirtual 273, 3, 203, 0, 6096), none, none, some (.putfield 276, 3, 10, 32, 4219), none, none, some (.aload_n 0, 1, 0, 0, 0), some (.aload_n 0, 1, 0, 0, 0), some (.getfield 261, 3, 10, 27, 4214), none],
  [none, some (.putfield 279, 3, 10, 30, 4217), none, none, some (.iconst 0, 1, 0, 0, 0), some (.istore_n 3, 1, 0, 0, 0), some (.iload_n 3, 1, 0, 0, 0), some (.bipush 30, 2, 0, 0, 0), none, some (.if_icmp .ge 29, 3, 70, 0, 0), none, none, some (.iload_n 3, 1, 0, 0, 0), some (.aload_n 0, 1, 0, 0, 0), some (.getfield 261, 3, 10, 27, 4214), none],
  [none, some (.if_icmp .ge 21, 3, 70, 0, 0), none, none, some (.aload_n 0, 1, 0, 0, 0), some (.getfield 50, 3, 10, 31, 4218), none, none, some (.iload_n 3, 1, 0, 0, 0), some (.aload_n 0, 1, 0, 0, 0), some (.getfield 44, 3, 10, 28, 4215), none, none, some (.iload_n 3, 1, 0, 0, 0), some (.iaload, 1, 0, 0, 0), some (.iastore, 1, 0, 0, 0)],
  [some (.iinc 3 1, 3, 0, 0, 0), none, none, some (.goto (-29), 3, 38, 0, 0), none, none, some (.iconst 0, 1, 0, 0, 0), some (.istore_n 3, 1, 0, 0, 0), some (.iload_n 3, 1, 0, 0, 0), some (.aload_n 0, 1, 0, 0, 0), some (.getfield 73, 3, 10, 0, 4187), none, none, some (.if_icmp .ge 34, 3, 111, 0, 0), none, none],
  [some (.aload_n 0, 1, 0, 0, 0), some (.getfield 255, 3, 10, 25, 4212), none, none, some (.ifCond .ne 27, 3, 111, 0, 0), none, none, some (.aload_n 0, 1, 0, 0, 0), some (.getfield 7, 3, 10, 1, 4188), none, none, some (.bipush 96, 2, 0, 0, 0), none, some (.iload_n 3, 1, 0, 0, 0), some (.iadd, 1, 0, 0, 0), some (.dup2, 1, 0, 0, 0)],
  [some (.iaload, 1, 0, 0, 0), some (.aload_n 0, 1, 0, 0, 0), some (.getfield 47, 3, 10, 29, 4216), none, none, some (.iload_n 3, 1, 0, 0, 0), some (.iaload, 1, 0, 0, 0), some (.iadd, 1, 0, 0, 0), some (.iastore, 1, 0, 0, 0), some (.iinc 3 1, 3, 0, 0, 0), none, none, some (.goto (-36), 3, 72, 0, 0), none, none, some (.aload_n 0, 1, 0, 0, 0)],
  [some (.getfield 255, 3, 10, 25, 4212), none, none, some (.ireturn, 1, 0, 0, 0)]]
def q_f205 : List (List (Option q_In)) := [[some (.aload_n 0, 1, 0, 0, 0), some (.getfield 276, 3, 10, 32, 4219), none, none, some (.ireturn, 1, 0, 0, 0)]]
def q_f206 : List (List (Option q_In)) := [[some (.iload_n 1, 1, 0, 0, 0), some (.invokestatic 236, 3, 137, 0, 6069), none, none, some (.ifCond .ne 10, 3, 14, 0, 0), none, none, some (.aload_n 0, 1, 0, 0, 0), some (.iconst (-1), 1, 0, 0, 0), some (.invokevirtual 69, 3, 133, 0, 5066), none, none, some (.i2l, 1, 0, 0, 0), some (.lreturn, 1, 0, 0, 0), some (.iload_n 3, 1, 0, 0, 0), some (.iconst 0, 1, 0, 0, 0)],
  [some (.iconst 1, 1, 0, 0, 0), some (.invokestatic 76, 3, 135, 0, 5063), none, none, some (.ifCond .ne 11, 3, 31, 0, 0), none, none, some (.aload_n 0, 1, 0, 0, 0), some (.bipush (-5), 2, 0, 0, 0), none, some (.invokevirtual 69, 3, 133, 0, 5066), none, none, some (.i2l, 1, 0, 0, 0), some (.lreturn, 1, 0, 0, 0), some (.aload_n 0, 1, 0, 0, 0)],
  [some (.iload_n 1, 1, 0, 0, 0), some (.iconst (-1), 1, 0, 0, 0), some (.invokevirtual 251, 3, 198, 0, 6084), none, none, some (.aload_n 0, 1, 0, 0, 0), some (.iload_n 2, 1, 0, 0, 0), some (.invokevirtual 273, 3, 203, 0, 6096), none, none, some (.istore 4, 2, 0, 0, 0), none, some (.iload_n 3, 1, 0, 0, 0), some (.ifCond .ne 11, 3, 56, 0, 0), none, none],
  [some (.aload_n 0, 1, 0, 0, 0), some (.getfield 255, 3, 10, 25, 4212), none, none, some (.i2l, 1, 0, 0, 0), some (.goto 10, 3, 63, 0, 0), none, none, some (.ldc2_w 282, 3, 10000000000, 0, 6119), none, none, some (.iload 4, 2, 0, 0, 0), none, some (.i2l, 1, 0, 0, 0), some (.ladd, 1, 0, 0, 0), some (.lreturn, 1, 0, 0, 0)]]
def q_f207 : List (List (Option q_In)) := [[some (.iload_n 1, 1, 0, 0, 0), some (.invokestatic 236, 3, 137, 0, 6069), none, none, some (.ifCond .ne 9, 3, 13, 0, 0), none, none, some (.aload_n 0, 1, 0, 0, 0), some (.iconst (-1), 1, 0, 0, 0), some (.invokevirtual 69, 3, 133, 0, 5066), none, none, some (.ireturn, 1, 0, 0, 0), some (.aload_n 0, 1, 0, 0, 0), some (.iload_n 1, 1, 0, 0, 0), some (.iconst (-1), 1, 0, 0, 0)],
  [some (.invokevirtual 251, 3, 198, 0, 6084), none, none, some (.iconst 0, 1, 0, 0, 0), some (.istore_n 3, 1, 0, 0, 0), some (.iconst 0, 1, 0, 0, 0), some (.istore 4, 2, 0, 0, 0), none, some (.iload 4, 2, 0, 0, 0), none, some (.aload_n 0, 1, 0, 0, 0), some (.getfield 245, 3, 10, 23, 4210), none, none, some (.if_icmp .ge 21, 3, 51, 0, 0), none],
  [none, some (.iload_n 3, 1, 0, 0, 0), some (.iconst 1, 1, 0, 0, 0), some (.aload_n 0, 1, 0, 0, 0), some (.getfield 41, 3, 10, 24, 4211), none, none, some (.iload 4, 2, 0, 0, 0), none, some (.iaload, 1, 0, 0, 0), some (.ishl, 1, 0, 0, 0), some (.ior, 1, 0, 0, 0), some (.istore_n 3, 1, 0, 0, 0), some (.iinc 4 1, 3, 0, 0, 0), none, none],
  [some (.goto (-24), 3, 24, 0, 0), none, none, some (.aload_n 0, 1, 0, 0, 0), some (.iload_n 2, 1, 0, 0, 0), some (.invokevirtual 273, 3, 203, 0, 6096), none, none, some (.istore 4, 2, 0, 0, 0), none, some (.aload_n 0, 1, 0, 0, 0), some (.getfield 255, 3, 10, 25, 4212), none, none, some (.istore 5, 2, 0, 0, 0), none],
  [some (.iconst 0, 1, 0, 0, 0), some (.istore 6, 2, 0, 0, 0), none, some (.iconst 0, 1, 0, 0, 0), some (.istore 7, 2, 0, 0, 0), none, some (.iload 7, 2, 0, 0, 0), none, some (.aload_n 0, 1, 0, 0, 0), some (.getfield 239, 3, 10, 4, 4191), none, none, some (.if_icmp .ge 56, 3, 132, 0, 0), none, none, some (.iload_n 3, 1, 0, 0, 0)],
  [some (.iload 7, 2, 0, 0, 0), none, some (.ishr, 1, 0, 0, 0), some (.iconst 1, 1, 0, 0, 0), some (.iand, 1, 0, 0, 0), some (.ifCond .ne 6, 3, 91, 0, 0), none, none, some (.goto 38, 3, 126, 0, 0), none, none, some (.aload_n 0, 1, 0, 0, 0), some (.iload_n 1, 1, 0, 0, 0), some (.iload 7, 2, 0, 0, 0), none, some (.invokevirtual 251, 3, 198, 0, 6084)],
  [none, none, some (.aload_n 0, 1, 0, 0, 0), some (.iload_n 2, 1, 0, 0, 0), some (.invokevirtual 273, 3, 203, 0, 6096), none, none, some (.iload 4, 2, 0, 0, 0), none, some (.if_icmp .ne 12, 3, 117, 0, 0), none, none, some (.aload_n 0, 1, 0, 0, 0), some (.getfield 255, 3, 10, 25, 4212), none, none],
  [some (.iload 5, 2, 0, 0, 0), none, some (.if_icmp .eq 12, 3, 126, 0, 0), none, none, some (.iload 6, 2, 0, 0, 0), none, some (.iconst 1, 1, 0, 0, 0), some (.iload 7, 2, 0, 0, 0), none, some (.ishl, 1, 0, 0, 0), some (.ior, 1, 0, 0, 0), some (.istore 6, 2, 0, 0, 0), none, some (.iinc 7 1, 3, 0, 0, 0), none],
  [none, some (.goto (-59), 3, 70, 0, 0), none, none, some (.iload 6, 2, 0, 0, 0), none, some (.ireturn, 1, 0, 0, 0)]]
def q_f208 : List (List (Option q_In)) := [[some (.iload_n 1, 1, 0, 0, 0), some (.invokestatic 236, 3, 137, 0, 6069), none, none, some (.ifCond .ne 10, 3, 14, 0, 0), none, none, some (.aload_n 0, 1, 0, 0, 0), some (.iconst (-1), 1, 0, 0, 0), some (.invokevirtual 69, 3, 133, 0, 5066), none, none, some (.i2l, 1, 0, 0, 0), some (.lreturn, 1, 0, 0, 0), some (.iload_n 3, 1, 0, 0, 0), some (.iload 4, 2, 0, 0, 0)],
  [none, some (.if_icmp .gt 16, 3, 33, 0, 0), none, none, some (.iload 4, 2, 0, 0, 0), none, some (.i2l, 1, 0, 0, 0), some (.iload_n 3, 1, 0, 0, 0), some (.i2l, 1, 0, 0, 0), some (.lsub, 1, 0, 0, 0), some (.ldc2_w 284, 3, 200, 0, 6128), none, none, some (.lcmp, 1, 0, 0, 0), some (.ifCond .lt 11, 3, 41, 0, 0), none],
  [none, some (.aload_n 0, 1, 0, 0, 0), some (.bipush (-6), 2, 0, 0, 0), none, some (.invokevirtual 69, 3, 133, 0, 5066), none, none, some (.i2l, 1, 0, 0, 0), some (.lreturn, 1, 0, 0, 0), some (.aload_n 0, 1, 0, 0, 0), some (.iload_n 1, 1, 0, 0, 0), some (.iconst (-1), 1, 0, 0, 0), some (.invokevirtual 251, 3, 198, 0, 6084), none, none, some (.iload_n 3, 1, 0, 0, 0)],
  [some (.i2l, 1, 0, 0, 0), some (.lstore 5, 2, 0, 0, 0), none, some (.lload 5, 2, 0, 0, 0), none, some (.iload 4, 2, 0, 0, 0), none, some (.i2l, 1, 0, 0, 0), some (.lcmp, 1, 0, 0, 0), some (.ifCond .gt 37, 3, 94, 0, 0), none, none, some (.aload_n 0, 1, 0, 0, 0), some (.lload 5, 2, 0, 0, 0), none, some (.l2i, 1, 0, 0, 0)],
  [some (.invokevirtual 273, 3, 203, 0, 6096), none, none, some (.iload_n 2, 1, 0, 0, 0), some (.if_icmp .ne 17, 3, 85, 0, 0), none, none, some (.aload_n 0, 1, 0, 0, 0), some (.getfield 255, 3, 10, 25, 4212), none, none, some (.ifCond .ne 10, 3, 85, 0, 0), none, none, some (.ldc2_w 282, 3, 10000000000, 0, 6119), none],
  [none, some (.lload 5, 2, 0, 0, 0), none, some (.ladd, 1, 0, 0, 0), some (.lreturn, 1, 0, 0, 0), some (.lload 5, 2, 0, 0, 0), none, some (.lconst 1, 1, 0, 0, 0), some (.ladd, 1, 0, 0, 0), some (.lstore 5, 2, 0, 0, 0), none, some (.goto (-40), 3, 51, 0, 0), none, none, some (.lconst 0, 1, 0, 0, 0), some (.lreturn, 1, 0, 0, 0)]]
def q_f209 : List (List (Option q_In)) := [[some (.aload_n 0, 1, 0, 0, 0), some (.getfield 22, 3, 10, 8, 4195), none, none, some (.sipush 160, 3, 0, 0, 0), none, none, some (.iload_n 1, 1, 0, 0, 0), some (.imul, 1, 0, 0, 0), some (.iload_n 2, 1, 0, 0, 0), some (.iadd, 1, 0, 0, 0), some (.laload, 1, 0, 0, 0), some (.l2i, 1, 0, 0, 0), some (.ireturn, 1, 0, 0, 0)]]
def q_f210 : List (List (Option q_In)) := [[some (.aload_n 0, 1, 0, 0, 0), some (.iload_n 1, 1, 0, 0, 0), some (.invokevirtual 88, 3, 146, 0, 5074), none, none, some (.istore 4, 2, 0, 0, 0), none, some (.iload 4, 2, 0, 0, 0), none, some (.iconst (-1), 1, 0, 0, 0), some (.if_icmp .eq 10, 3, 20, 0, 0), none, none, some (.iload_n 2, 1, 0, 0, 0), some (.invokestatic 236, 3, 137, 0, 6069), none],
  [none, some (.ifCond .ne 9, 3, 26, 0, 0), none, none, some (.aload_n 0, 1, 0, 0, 0), some (.iconst (-1), 1, 0, 0, 0), some (.invokevirtual 154, 3, 134, 0, 5182), none, none, some (.ireturn, 1, 0, 0, 0), some (.iload 4, 2, 0, 0, 0), none, some (.ifCond .ge 10, 3, 38, 0, 0), none, none, some (.aload_n 0, 1, 0, 0, 0)],
  [some (.iload 4, 2, 0, 0, 0), none, some (.invokevirtual 154, 3, 134, 0, 5182), none, none, some (.ireturn, 1, 0, 0, 0), some (.iload_n 3, 1, 0, 0, 0), some (.ifCond .ge 10, 3, 49, 0, 0), none, none, some (.aload_n 0, 1, 0, 0, 0), some (.bipush (-4), 2, 0, 0, 0), none, some (.invokevirtual 154, 3, 134, 0, 5182), none, none],
  [some (.ireturn, 1, 0, 0, 0), some (.ldc2_w 286, 3, 2, 0, 6133), none, none, some (.iload_n 3, 1, 0, 0, 0), some (.i2l, 1, 0, 0, 0), some (.lmul, 1, 0, 0, 0), some (.aload_n 0, 1, 0, 0, 0), some (.getfield 19, 3, 10, 7, 4194), none, none, some (.iload_n 1, 1, 0, 0, 0), some (.iaload, 1, 0, 0, 0), some (.i2l, 1, 0, 0, 0), some (.lcmp, 1, 0, 0, 0), some (.ifCond .le 10, 3, 73, 0, 0)],
  [none, none, some (.aload_n 0, 1, 0, 0, 0), some (.bipush (-5), 2, 0, 0, 0), none, some (.invokevirtual 154, 3, 134, 0, 5182), none, none, some (.ireturn, 1, 0, 0, 0), some (.aload_n 0, 1, 0, 0, 0), some (.iload_n 2, 1, 0, 0, 0), some (.iconst (-1), 1, 0, 0, 0), some (.invokevirtual 251, 3, 198, 0, 6084), none, none, some (.iconst 0, 1, 0, 0, 0)],
  [some (.istore 5, 2, 0, 0, 0), none, some (.iload 5, 2, 0, 0, 0), none, some (.iload_n 3, 1, 0, 0, 0), some (.if_icmp .ge 46, 3, 131, 0, 0), none, none, some (.aload_n 0, 1, 0, 0, 0), some (.aload_n 0, 1, 0, 0, 0), some (.iload_n 1, 1, 0, 0, 0), some (.iconst 2, 1, 0, 0, 0), some (.iload 5, 2, 0, 0, 0), none, some (.imul, 1, 0, 0, 0), some (.invokevirtual 288, 3, 209, 0, 6134)],
  [none, none, some (.invokevirtual 273, 3, 203, 0, 6096), none, none, some (.aload_n 0, 1, 0, 0, 0), some (.iload_n 1, 1, 0, 0, 0), some (.iconst 2, 1, 0, 0, 0), some (.iload 5, 2, 0, 0, 0), none, some (.imul, 1, 0, 0, 0), some (.iconst 1, 1, 0, 0, 0), some (.iadd, 1, 0, 0, 0), some (.invokevirtual 288, 3, 209, 0, 6134), none, none],
  [some (.if_icmp .ne 10, 3, 122, 0, 0), none, none, some (.aload_n 0, 1, 0, 0, 0), some (.getfield 255, 3, 10, 25, 4212), none, none, some (.ifCond .eq 6, 3, 125, 0, 0), none, none, some (.iload 5, 2, 0, 0, 0), none, some (.ireturn, 1, 0, 0, 0), some (.iinc 5 1, 3, 0, 0, 0), none, none],
  [some (.goto (-46), 3, 82, 0, 0), none, none, some (.iconst (-1), 1, 0, 0, 0), some (.ireturn, 1, 0, 0, 0)]]
def q_f211 : List (List (Option q_In)) := [[some (.iload_n 1, 1, 0, 0, 0), some (.iconst 0, 1, 0, 0, 0), some (.bipush 30, 2, 0, 0, 0), none, some (.aload_n 0, 1, 0, 0, 0), some (.getfield 279, 3, 10, 30, 4217), none, none, some (.invokestatic 291, 3, 303, 0, 6142), none, none, some (.iconst 1, 1, 0, 0, 0), some (.isub, 1, 0, 0, 0), some (.invokestatic 76, 3, 135, 0, 5063), none, none],
  [some (.ifCond .eq 12, 3, 28, 0, 0), none, none, some (.aload_n 0, 1, 0, 0, 0), some (.getfield 50, 3, 10, 31, 4218), none, none, some (.iload_n 1, 1, 0, 0, 0), some (.iaload, 1, 0, 0, 0), some (.goto 4, 3, 29, 0, 0), none, none, some (.iconst (-1), 1, 0, 0, 0), some (.ireturn, 1, 0, 0, 0)]]
def q_f212 : List (List (Option q_In)) := [[some (.iload_n 1, 1, 0, 0, 0), some (.iconst 0, 1, 0, 0, 0), some (.bipush 40, 2, 0, 0, 0), none, some (.aload_n 0, 1, 0, 0, 0), some (.getfield 176, 3, 10, 20, 4207), none, none, some (.invokestatic 291, 3, 303, 0, 6142), none, none, some (.iconst 1, 1, 0, 0, 0), some (.isub, 1, 0, 0, 0), some (.invokestatic 76, 3, 135, 0, 5063), none, none],
  [some (.ifCond .eq 33, 3, 49, 0, 0), none, none, some (.aload_n 0, 1, 0, 0, 0), some (.getfield 35, 3, 10, 21, 4208), none, none, some (.aload_n 0, 1, 0, 0, 0), some (.getfield 176, 3, 10, 20, 4207), none, none, some (.bipush 40, 2, 0, 0, 0), none, some (.if_icmp .le 12, 3, 41, 0, 0), none, none],
  [some (.aload_n 0, 1, 0, 0, 0), some (.getfield 176, 3, 10, 20, 4207), none, none, some (.iload_n 1, 1, 0, 0, 0), some (.iadd, 1, 0, 0, 0), some (.goto 4, 3, 42, 0, 0), none, none, some (.iload_n 1, 1, 0, 0, 0), some (.bipush 40, 2, 0, 0, 0), none, some (.irem, 1, 0, 0, 0), some (.iaload, 1, 0, 0, 0), some (.goto 4, 3, 50, 0, 0), none],
  [none, some (.iconst (-1), 1, 0, 0, 0), some (.ireturn, 1, 0, 0, 0)]]
def q_f213 : List (List (Option q_In)) := [[some (.aload_n 0, 1, 0, 0, 0), some (.aload_n 0, 1, 0, 0, 0), some (.getfield 62, 3, 10, 3, 4190), none, none, some (.ldc_w 294, 3, 1103515245, 0, 6155), none, none, some (.imul, 1, 0, 0, 0), some (.sipush 12345, 3, 0, 0, 0), none, none, some (.iadd, 1, 0, 0, 0), some (.putfield 62, 3, 10, 3, 4190), none, none],
  [some (.aload_n 0, 1, 0, 0, 0), some (.getfield 62, 3, 10, 3, 4190), none, none, some (.bipush 16, 2, 0, 0, 0), none, some (.iushr, 1, 0, 0, 0), some (.iload_n 1, 1, 0, 0, 0), some (.irem, 1, 0, 0, 0), some (.ireturn, 1, 0, 0, 0)]]
def q_f214 : List (List (Option q_In)) := [[some (.iconst 0, 1, 0, 0, 0), some (.istore_n 2, 1, 0, 0, 0), some (.iconst 0, 1, 0, 0, 0), some (.istore_n 3, 1, 0, 0, 0), some (.iload_n 3, 1, 0, 0, 0), some (.aload_n 0, 1, 0, 0, 0), some (.getfield 73, 3, 10, 0, 4187), none, none, some (.if_icmp .ge 21, 3, 30, 0, 0), none, none, some (.aload_n 0, 1, 0, 0, 0), some (.iload_n 3, 1, 0, 0, 0), some (.invokevirtual 115, 3, 141, 0, 5134), none],
  [none, some (.iload_n 1, 1, 0, 0, 0), some (.if_icmp .ne 6, 3, 24, 0, 0), none, none, some (.iinc 2 1, 3, 0, 0, 0), none, none, some (.iinc 3 1, 3, 0, 0, 0), none, none, some (.goto (-23), 3, 4, 0, 0), none, none, some (.iload_n 2, 1, 0, 0, 0), some (.ireturn, 1, 0, 0, 0)]]
def q_f215 : List (List (Option q_In)) := [[some (.aload_n 0, 1, 0, 0, 0), some (.getfield 73, 3, 10, 0, 4187), none, none, some (.ifCond .ne 10, 3, 14, 0, 0), none, none, some (.aload_n 0, 1, 0, 0, 0), some (.bipush (-5), 2, 0, 0, 0), none, some (.invokevirtual 69, 3, 133, 0, 5066), none, none, some (.ireturn, 1, 0, 0, 0), some (.iload_n 1, 1, 0, 0, 0), some (.iconst 1, 1, 0, 0, 0)],
  [some (.bipush 40, 2, 0, 0, 0), none, some (.invokestatic 76, 3, 135, 0, 5063), none, none, some (.ifCond .ne 10, 3, 31, 0, 0), none, none, some (.aload_n 0, 1, 0, 0, 0), some (.bipush (-6), 2, 0, 0, 0), none, some (.invokevirtual 69, 3, 133, 0, 5066), none, none, some (.ireturn, 1, 0, 0, 0), some (.iconst 0, 1, 0, 0, 0)],
  [some (.istore_n 2, 1, 0, 0, 0), some (.iload_n 2, 1, 0, 0, 0), some (.iload_n 1, 1, 0, 0, 0), some (.if_icmp .ge 88, 3, 123, 0, 0), none, none, some (.aload_n 0, 1, 0, 0, 0), some (.aload_n 0, 1, 0, 0, 0), some (.getfield 73, 3, 10, 0, 4187), none, none, some (.invokevirtual 295, 3, 213, 0, 6151), none, none, some (.istore_n 3, 1, 0, 0, 0), some (.aload_n 0, 1, 0, 0, 0)],
  [some (.iconst 3, 1, 0, 0, 0), some (.invokevirtual 295, 3, 213, 0, 6151), none, none, some (.istore 4, 2, 0, 0, 0), none, some (.iload 4, 2, 0, 0, 0), none, some (.ifCond .ne 18, 3, 74, 0, 0), none, none, some (.aload_n 0, 1, 0, 0, 0), some (.iload_n 3, 1, 0, 0, 0), some (.invokevirtual 115, 3, 141, 0, 5134), none, none],
  [some (.iconst 1, 1, 0, 0, 0), some (.if_icmp .eq 9, 3, 74, 0, 0), none, none, some (.aload_n 0, 1, 0, 0, 0), some (.iload_n 3, 1, 0, 0, 0), some (.invokevirtual 214, 3, 181, 0, 5217), none, none, some (.pop, 1, 0, 0, 0), some (.iload 4, 2, 0, 0, 0), none, some (.iconst 1, 1, 0, 0, 0), some (.if_icmp .ne 18, 3, 95, 0, 0), none, none],
  [some (.aload_n 0, 1, 0, 0, 0), some (.iload_n 3, 1, 0, 0, 0), some (.invokevirtual 115, 3, 141, 0, 5134), none, none, some (.iconst 1, 1, 0, 0, 0), some (.if_icmp .ne 9, 3, 95, 0, 0), none, none, some (.aload_n 0, 1, 0, 0, 0), some (.iload_n 3, 1, 0, 0, 0), some (.invokevirtual 226, 3, 186, 0, 6021), none, none, some (.pop, 1, 0, 0, 0), some (.iload 4, 2, 0, 0, 0)],
  [none, some (.iconst 2, 1, 0, 0, 0), some (.if_icmp .ne 19, 3, 117, 0, 0), none, none, some (.aload_n 0, 1, 0, 0, 0), some (.iload_n 3, 1, 0, 0, 0), some (.invokevirtual 115, 3, 141, 0, 5134), none, none, some (.iconst 2, 1, 0, 0, 0), some (.if_icmp .ne 10, 3, 117, 0, 0), none, none, some (.aload_n 0, 1, 0, 0, 0), some (.getfield 7, 3, 10, 1, 4188)],
  [none, none, some (.iload_n 3, 1, 0, 0, 0), some (.iconst 0, 1, 0, 0, 0), some (.iastore, 1, 0, 0, 0), some (.iinc 2 1, 3, 0, 0, 0), none, none, some (.goto (-87), 3, 33, 0, 0), none, none, some (.aload_n 0, 1, 0, 0, 0), some (.iconst 1, 1, 0, 0, 0), some (.invokevirtual 298, 3, 214, 0, 6156), none, none],
  [some (.ireturn, 1, 0, 0, 0)]]
def q_f216 : List (List (Option q_In)) := [[some (.aload_n 0, 1, 0, 0, 0), some (.getfield 62, 3, 10, 3, 4190), none, none, some (.istore_n 2, 1, 0, 0, 0), some (.aload_n 0, 1, 0, 0, 0), some (.iload_n 1, 1, 0, 0, 0), some (.putfield 62, 3, 10, 3, 4190), none, none, some (.iload_n 2, 1, 0, 0, 0), some (.ireturn, 1, 0, 0, 0)]]
def q_f217 : List (List (Option q_In)) := [[some (.iconst 0, 1, 0, 0, 0), some (.istore_n 2, 1, 0, 0, 0), some (.iload_n 2, 1, 0, 0, 0), some (.bipush 108, 2, 0, 0, 0), none, some (.if_icmp .ge 18, 3, 23, 0, 0), none, none, some (.aload_n 1, 1, 0, 0, 0), some (.iload_n 2, 1, 0, 0, 0), some (.aload_n 0, 1, 0, 0, 0), some (.getfield 7, 3, 10, 1, 4188), none, none, some (.iload_n 2, 1, 0, 0, 0), some (.iaload, 1, 0, 0, 0)],
  [some (.iastore, 1, 0, 0, 0), some (.iinc 2 1, 3, 0, 0, 0), none, none, some (.goto (-18), 3, 2, 0, 0), none, none, some (.iconst 0, 1, 0, 0, 0), some (.istore_n 2, 1, 0, 0, 0), some (.iload_n 2, 1, 0, 0, 0), some (.bipush 120, 2, 0, 0, 0), none, some (.if_icmp .ge 21, 3, 49, 0, 0), none, none, some (.aload_n 1, 1, 0, 0, 0)],
  [some (.bipush 108, 2, 0, 0, 0), none, some (.iload_n 2, 1, 0, 0, 0), some (.iadd, 1, 0, 0, 0), some (.aload_n 0, 1, 0, 0, 0), some (.getfield 13, 3, 10, 5, 4192), none, none, some (.iload_n 2, 1, 0, 0, 0), some (.iaload, 1, 0, 0, 0), some (.iastore, 1, 0, 0, 0), some (.iinc 2 1, 3, 0, 0, 0), none, none, some (.goto (-21), 3, 25, 0, 0), none],
  [none, some (.aload_n 1, 1, 0, 0, 0), some (.sipush 228, 3, 0, 0, 0), none, none, some (.aload_n 0, 1, 0, 0, 0), some (.getfield 73, 3, 10, 0, 4187), none, none, some (.iastore, 1, 0, 0, 0), some (.aload_n 1, 1, 0, 0, 0), some (.sipush 229, 3, 0, 0, 0), none, none, some (.aload_n 0, 1, 0, 0, 0), some (.getfield 239, 3, 10, 4, 4191)],
  [none, none, some (.iastore, 1, 0, 0, 0), some (.aload_n 1, 1, 0, 0, 0), some (.sipush 230, 3, 0, 0, 0), none, none, some (.aload_n 0, 1, 0, 0, 0), some (.getfield 202, 3, 10, 2, 4189), none, none, some (.iastore, 1, 0, 0, 0), some (.aload_n 1, 1, 0, 0, 0), some (.sipush 231, 3, 0, 0, 0), none, none],
  [some (.aload_n 0, 1, 0, 0, 0), some (.getfield 62, 3, 10, 3, 4190), none, none, some (.iastore, 1, 0, 0, 0), some (.return_, 1, 0, 0, 0)]]
def q_f218 : List (List (Option q_In)) := [[some (.iconst 0, 1, 0, 0, 0), some (.istore_n 2, 1, 0, 0, 0), some (.iload_n 2, 1, 0, 0, 0), some (.bipush 108, 2, 0, 0, 0), none, some (.if_icmp .ge 18, 3, 23, 0, 0), none, none, some (.aload_n 0, 1, 0, 0, 0), some (.getfield 7, 3, 10, 1, 4188), none, none, some (.iload_n 2, 1, 0, 0, 0), some (.aload_n 1, 1, 0, 0, 0), some (.iload_n 2, 1, 0, 0, 0), some (.iaload, 1, 0, 0, 0)],
  [some (.iastore, 1, 0, 0, 0), some (.iinc 2 1, 3, 0, 0, 0), none, none, some (.goto (-18), 3, 2, 0, 0), none, none, some (.iconst 0, 1, 0, 0, 0), some (.istore_n 2, 1, 0, 0, 0), some (.iload_n 2, 1, 0, 0, 0), some (.bipush 120, 2, 0, 0, 0), none, some (.if_icmp .ge 21, 3, 49, 0, 0), none, none, some (.aload_n 0, 1, 0, 0, 0)],
  [some (.getfield 13, 3, 10, 5, 4192), none, none, some (.iload_n 2, 1, 0, 0, 0), some (.aload_n 1, 1, 0, 0, 0), some (.bipush 108, 2, 0, 0, 0), none, some (.iload_n 2, 1, 0, 0, 0), some (.iadd, 1, 0, 0, 0), some (.iaload, 1, 0, 0, 0), some (.iastore, 1, 0, 0, 0), some (.iinc 2 1, 3, 0, 0, 0), none, none, some (.goto (-21), 3, 25, 0, 0), none],
  [none, some (.aload_n 0, 1, 0, 0, 0), some (.aload_n 1, 1, 0, 0, 0), some (.sipush 228, 3, 0, 0, 0), none, none, some (.iaload, 1, 0, 0, 0), some (.putfield 73, 3, 10, 0, 4187), none, none, some (.aload_n 0, 1, 0, 0, 0), some (.aload_n 1, 1, 0, 0, 0), some (.sipush 229, 3, 0, 0, 0), none, none, some (.iaload, 1, 0, 0, 0)],
  [some (.putfield 239, 3, 10, 4, 4191), none, none, some (.aload_n 0, 1, 0, 0, 0), some (.aload_n 1, 1, 0, 0, 0), some (.sipush 230, 3, 0, 0, 0), none, none, some (.iaload, 1, 0, 0, 0), some (.putfield 202, 3, 10, 2, 4189), none, none, some (.aload_n 0, 1, 0, 0, 0), some (.aload_n 1, 1, 0, 0, 0), some (.sipush 231, 3, 0, 0, 0), none],
  [none, some (.iaload, 1, 0, 0, 0), some (.putfield 62, 3, 10, 3, 4190), none, none, some (.return_, 1, 0, 0, 0)]]
def q_f219 : List (List (Option q_In)) := [[some (.aload_n 0, 1, 0, 0, 0), some (.iconst 1, 1, 0, 0, 0), some (.putfield 301, 3, 10, 34, 4221), none, none, some (.aload_n 0, 1, 0, 0, 0), some (.aload_n 0, 1, 0, 0, 0), some (.getfield 56, 3, 10, 35, 4222), none, none, some (.invokevirtual 229, 3, 217, 0, 6049), none, none, some (.aload_n 0, 1, 0, 0, 0), some (.getfield 73, 3, 10, 0, 4187), none],
  [none, some (.ireturn, 1, 0, 0, 0)]]
def q_f220 : List (List (Option q_In)) := [[some (.aload_n 0, 1, 0, 0, 0), some (.getfield 301, 3, 10, 34, 4221), none, none, some (.ifCond .ne 10, 3, 14, 0, 0), none, none, some (.aload_n 0, 1, 0, 0, 0), some (.bipush (-6), 2, 0, 0, 0), none, some (.invokevirtual 69, 3, 133, 0, 5066), none, none, some (.ireturn, 1, 0, 0, 0), some (.aload_n 0, 1, 0, 0, 0), some (.aload_n 0, 1, 0, 0, 0)],
  [some (.getfield 56, 3, 10, 35, 4222), none, none, some (.invokevirtual 233, 3, 218, 0, 6053), none, none, some (.iconst 0, 1, 0, 0, 0), some (.istore_n 1, 1, 0, 0, 0), some (.iload_n 1, 1, 0, 0, 0), some (.bipush 8, 2, 0, 0, 0), none, some (.if_icmp .ge 37, 3, 64, 0, 0), none, none, some (.aload_n 0, 1, 0, 0, 0), some (.iload_n 1, 1, 0, 0, 0)],
  [some (.invokevirtual 84, 3, 139, 0, 5078), none, none, some (.ifCond .ne 23, 3, 58, 0, 0), none, none, some (.aload_n 0, 1, 0, 0, 0), some (.getfield 16, 3, 10, 6, 4193), none, none, some (.iload_n 1, 1, 0, 0, 0), some (.iaload, 1, 0, 0, 0), some (.aload_n 0, 1, 0, 0, 0), some (.getfield 73, 3, 10, 0, 4187), none, none],
  [some (.if_icmp .lt 10, 3, 58, 0, 0), none, none, some (.aload_n 0, 1, 0, 0, 0), some (.getfield 16, 3, 10, 6, 4193), none, none, some (.iload_n 1, 1, 0, 0, 0), some (.iconst (-1), 1, 0, 0, 0), some (.iastore, 1, 0, 0, 0), some (.iinc 1 1, 3, 0, 0, 0), none, none, some (.goto (-37), 3, 24, 0, 0), none, none],
  [some (.aload_n 0, 1, 0, 0, 0), some (.getfield 73, 3, 10, 0, 4187), none, none, some (.ireturn, 1, 0, 0, 0)]]
def q_f221 : List (List (Option q_In)) := [[some (.iload_n 1, 1, 0, 0, 0), some (.bipush 11, 2, 0, 0, 0), none, some (.bipush 17, 2, 0, 0, 0), none, some (.invokestatic 76, 3, 135, 0, 5063), none, none, some (.ifCond .eq 13, 3, 21, 0, 0), none, none, some (.aload_n 0, 1, 0, 0, 0), some (.getfield 53, 3, 10, 33, 4220), none, none, some (.iload_n 1, 1, 0, 0, 0)],
  [some (.bipush 10, 2, 0, 0, 0), none, some (.isub, 1, 0, 0, 0), some (.iaload, 1, 0, 0, 0), some (.ireturn, 1, 0, 0, 0), some (.iload_n 1, 1, 0, 0, 0), some (.tableswitch 107 0 9 #[54, 59, 65, 71, 77, 82, 87, 92, 97, 102], 54, 0, 0, 0), none, none, none, none, none, none, none, none, none],
  [none, none, none, none, none, none, none, none, none, none, none, none, none, none, none, none],
  [none, none, none, none, none, none, none, none, none, none, none, none, none, none, none, none],
  [none, none, none, none, none, none, none, none, none, none, none, none, some (.aload_n 0, 1, 0, 0, 0), some (.getfield 73, 3, 10, 0, 4187), none, none],
  [some (.ireturn, 1, 0, 0, 0), some (.aload_n 0, 1, 0, 0, 0), some (.iconst 1, 1, 0, 0, 0), some (.invokevirtual 298, 3, 214, 0, 6156), none, none, some (.ireturn, 1, 0, 0, 0), some (.aload_n 0, 1, 0, 0, 0), some (.iconst 2, 1, 0, 0, 0), some (.invokevirtual 298, 3, 214, 0, 6156), none, none, some (.ireturn, 1, 0, 0, 0), some (.aload_n 0, 1, 0, 0, 0), some (.iconst 3, 1, 0, 0, 0), some (.invokevirtual 298, 3, 214, 0, 6156)],
  [none, none, some (.ireturn, 1, 0, 0, 0), some (.aload_n 0, 1, 0, 0, 0), some (.getfield 239, 3, 10, 4, 4191), none, none, some (.ireturn, 1, 0, 0, 0), some (.aload_n 0, 1, 0, 0, 0), some (.getfield 202, 3, 10, 2, 4189), none, none, some (.ireturn, 1, 0, 0, 0), some (.aload_n 0, 1, 0, 0, 0), some (.getfield 62, 3, 10, 3, 4190), none],
  [none, some (.ireturn, 1, 0, 0, 0), some (.aload_n 0, 1, 0, 0, 0), some (.getfield 217, 3, 10, 12, 4199), none, none, some (.ireturn, 1, 0, 0, 0), some (.aload_n 0, 1, 0, 0, 0), some (.getfield 279, 3, 10, 30, 4217), none, none, some (.ireturn, 1, 0, 0, 0), some (.aload_n 0, 1, 0, 0, 0), some (.getfield 176, 3, 10, 20, 4207), none, none],
  [some (.ireturn, 1, 0, 0, 0), some (.iconst (-1), 1, 0, 0, 0), some (.ireturn, 1, 0, 0, 0)]]
def q_f222 : List (List (Option q_In)) := [[some (.iload_n 0, 1, 0, 0, 0), some (.iload_n 0, 1, 0, 0, 0), some (.iconst 1, 1, 0, 0, 0), some (.iushr, 1, 0, 0, 0), some (.ldc_w 265, 3, 1431655765, 0, 2231), none, none, some (.iand, 1, 0, 0, 0), some (.isub, 1, 0, 0, 0), some (.istore_n 0, 1, 0, 0, 0), some (.iload_n 0, 1, 0, 0, 0), some (.ldc_w 266, 3, 858993459, 0, 2232), none, none, some (.iand, 1, 0, 0, 0), some (.iload_n 0, 1, 0, 0, 0)],
  [some (.iconst 2, 1, 0, 0, 0), some (.iushr, 1, 0, 0, 0), some (.ldc_w 266, 3, 858993459, 0, 2232), none, none, some (.iand, 1, 0, 0, 0), some (.iadd, 1, 0, 0, 0), some (.istore_n 0, 1, 0, 0, 0), some (.iload_n 0, 1, 0, 0, 0), some (.iload_n 0, 1, 0, 0, 0), some (.iconst 4, 1, 0, 0, 0), some (.iushr, 1, 0, 0, 0), some (.iadd, 1, 0, 0, 0), some (.ldc_w 267, 3, 252645135, 0, 2233), none, none],
  [some (.iand, 1, 0, 0, 0), some (.istore_n 0, 1, 0, 0, 0), some (.iload_n 0, 1, 0, 0, 0), some (.iload_n 0, 1, 0, 0, 0), some (.bipush 8, 2, 0, 0, 0), none, some (.iushr, 1, 0, 0, 0), some (.iadd, 1, 0, 0, 0), some (.istore_n 0, 1, 0, 0, 0), some (.iload_n 0, 1, 0, 0, 0), some (.iload_n 0, 1, 0, 0, 0), some (.bipush 16, 2, 0, 0, 0), none, some (.iushr, 1, 0, 0, 0), some (.iadd, 1, 0, 0, 0), some (.istore_n 0, 1, 0, 0, 0)],
  [some (.iload_n 0, 1, 0, 0, 0), some (.bipush 63, 2, 0, 0, 0), none, some (.iand, 1, 0, 0, 0), some (.ireturn, 1, 0, 0, 0)]]
def q_f223 : List (List (Option q_In)) := [[some (.iload_n 0, 1, 0, 0, 0), some (.iload_n 1, 1, 0, 0, 0), some (.irem, 1, 0, 0, 0), some (.istore_n 2, 1, 0, 0, 0), some (.iload_n 0, 1, 0, 0, 0), some (.iload_n 1, 1, 0, 0, 0), some (.ixor, 1, 0, 0, 0), some (.ifCond .ge 11, 3, 18, 0, 0), none, none, some (.iload_n 2, 1, 0, 0, 0), some (.ifCond .eq 7, 3, 18, 0, 0), none, none, some (.iload_n 2, 1, 0, 0, 0), some (.iload_n 1, 1, 0, 0, 0)],
  [some (.iadd, 1, 0, 0, 0), some (.ireturn, 1, 0, 0, 0), some (.iload_n 2, 1, 0, 0, 0), some (.ireturn, 1, 0, 0, 0)]]
def q_f224 : List (List (Option q_In)) := [[some (.iconst 0, 1, 0, 0, 0), some (.istore_n 3, 1, 0, 0, 0), some (.aload_n 0, 1, 0, 0, 0), some (.arraylength, 1, 0, 0, 0), some (.istore 4, 2, 0, 0, 0), none, some (.iload_n 3, 1, 0, 0, 0), some (.iload 4, 2, 0, 0, 0), none, some (.if_icmp .ge 13, 3, 22, 0, 0), none, none, some (.aload_n 0, 1, 0, 0, 0), some (.iload_n 3, 1, 0, 0, 0), some (.lload_n 1, 1, 0, 0, 0), some (.lastore, 1, 0, 0, 0)],
  [some (.iinc 3 1, 3, 0, 0, 0), none, none, some (.goto (-13), 3, 6, 0, 0), none, none, some (.return_, 1, 0, 0, 0)]]
def q_f225 : List (List (Option q_In)) := [[some (.iconst 0, 1, 0, 0, 0), some (.istore_n 2, 1, 0, 0, 0), some (.aload_n 0, 1, 0, 0, 0), some (.arraylength, 1, 0, 0, 0), some (.istore_n 3, 1, 0, 0, 0), some (.iload_n 2, 1, 0, 0, 0), some (.iload_n 3, 1, 0, 0, 0), some (.if_icmp .ge 13, 3, 20, 0, 0), none, none, some (.aload_n 0, 1, 0, 0, 0), some (.iload_n 2, 1, 0, 0, 0), some (.iload_n 1, 1, 0, 0, 0), some (.iastore, 1, 0, 0, 0), some (.iinc 2 1, 3, 0, 0, 0), none],
  [none, some (.goto (-12), 3, 5, 0, 0), none, none, some (.return_, 1, 0, 0, 0)]]
def q_f226 : List (List (Option q_In)) := [[some (.new 7, 3, 9, 0, 1016), none, none, some (.dup, 1, 0, 0, 0), some (.invokespecial 9, 3, 77, 0, 1018), none, none, some (.astore_n 1, 1, 0, 0, 0), some (.new 10, 3, 10, 0, 4181), none, none, some (.dup, 1, 0, 0, 0), some (.invokespecial 12, 3, 132, 0, 4183), none, none, some (.astore_n 2, 1, 0, 0, 0)],
  [some (.iconst 0, 1, 0, 0, 0), some (.istore_n 3, 1, 0, 0, 0), some (.iload_n 3, 1, 0, 0, 0), some (.aload_n 0, 1, 0, 0, 0), some (.arraylength, 1, 0, 0, 0), some (.bipush 7, 2, 0, 0, 0), none, some (.isub, 1, 0, 0, 0), some (.if_icmp .gt 1438, 3, 1462, 0, 0), none, none, some (.aload_n 0, 1, 0, 0, 0), some (.iload_n 3, 1, 0, 0, 0), some (.iaload, 1, 0, 0, 0), some (.bipush 63, 2, 0, 0, 0), none],
  [some (.iand, 1, 0, 0, 0), some (.tableswitch 1423 0 38 #[171, 214, 287, 350, 384, 417, 440, 473, 548, 571, 584, 617, 640, 663, 696, 719, 752, 775, 808, 831, 854, 887, 910, 933, 996, 1029, 1062, 1095, 1108, 1152, 1185, 1239, 1282, 1305, 1328, 1351, 1374, 1387, 1400], 171, 0, 0, 0), none, none, none, none, none, none, none, none, none, none, none, none, none, none],
  [none, none, none, none, none, none, none, none, none, none, none, none, none, none, none, none],
  [none, none, none, none, none, none, none, none, none, none, none, none, none, none, none, none],
  [none, none, none, none, none, none, none, none, none, none, none, none, none, none, none, none],
  [none, none, none, none, none, none, none, none, none, none, none, none, none, none, none, none],
  [none, none, none, none, none, none, none, none, none, none, none, none, none, none, none, none],
  [none, none, none, none, none, none, none, none, none, none, none, none, none, none, none, none],
  [none, none, none, none, none, none, none, none, none, none, none, none, none, none, none, none],
  [none, none, none, none, none, none, none, none, none, none, none, none, none, none, none, none],
  [none, none, none, none, none, none, none, none, none, none, none, none, none, none, none, none],
  [none, none, none, none, none, none, none, none, none, none, none, none, some (.aload_n 1, 1, 0, 0, 0), some (.aload_n 0, 1, 0, 0, 0), some (.iload_n 3, 1, 0, 0, 0), some (.iconst 1, 1, 0, 0, 0)],
  [some (.iadd, 1, 0, 0, 0), some (.iaload, 1, 0, 0, 0), some (.aload_n 0, 1, 0, 0, 0), some (.iload_n 3, 1, 0, 0, 0), some (.iconst 2, 1, 0, 0, 0), some (.iadd, 1, 0, 0, 0), some (.iaload, 1, 0, 0, 0), some (.aload_n 0, 1, 0, 0, 0), some (.iload_n 3, 1, 0, 0, 0), some (.iconst 3, 1, 0, 0, 0), some (.iadd, 1, 0, 0, 0), some (.iaload, 1, 0, 0, 0), some (.invokevirtual 13, 3, 78, 0, 2126), none, none, some (.aload_n 2, 1, 0, 0, 0)],
  [some (.aload_n 0, 1, 0, 0, 0), some (.iload_n 3, 1, 0, 0, 0), some (.iconst 1, 1, 0, 0, 0), some (.iadd, 1, 0, 0, 0), some (.iaload, 1, 0, 0, 0), some (.aload_n 0, 1, 0, 0, 0), some (.iload_n 3, 1, 0, 0, 0), some (.iconst 2, 1, 0, 0, 0), some (.iadd, 1, 0, 0, 0), some (.iaload, 1, 0, 0, 0), some (.aload_n 0, 1, 0, 0, 0), some (.iload_n 3, 1, 0, 0, 0), some (.iconst 3, 1, 0, 0, 0), some (.iadd, 1, 0, 0, 0), some (.iaload, 1, 0, 0, 0), some (.invokevirtual 17, 3, 145, 0, 5059)],
  [none, none, some (.if_icmp .eq 1214, 3, 1456, 0, 0), none, none, some (.iconst 0, 1, 0, 0, 0), some (.ireturn, 1, 0, 0, 0), some (.aload_n 1, 1, 0, 0, 0), some (.aload_n 0, 1, 0, 0, 0), some (.iload_n 3, 1, 0, 0, 0), some (.iconst 1, 1, 0, 0, 0), some (.iadd, 1, 0, 0, 0), some (.iaload, 1, 0, 0, 0), some (.aload_n 0, 1, 0, 0, 0), some (.iload_n 3, 1, 0, 0, 0), some (.iconst 2, 1, 0, 0, 0)],
  [some (.iadd, 1, 0, 0, 0), some (.iaload, 1, 0, 0, 0), some (.aload_n 0, 1, 0, 0, 0), some (.iload_n 3, 1, 0, 0, 0), some (.iconst 3, 1, 0, 0, 0), some (.iadd, 1, 0, 0, 0), some (.iaload, 1, 0, 0, 0), some (.i2l, 1, 0, 0, 0), some (.bipush 32, 2, 0, 0, 0), none, some (.lshl, 1, 0, 0, 0), some (.aload_n 0, 1, 0, 0, 0), some (.iload_n 3, 1, 0, 0, 0), some (.iconst 4, 1, 0, 0, 0), some (.iadd, 1, 0, 0, 0), some (.iaload, 1, 0, 0, 0)],
  [some (.i2l, 1, 0, 0, 0), some (.ldc2_w 18, 3, 4294967295, 0, 6176), none, none, some (.land, 1, 0, 0, 0), some (.lor, 1, 0, 0, 0), some (.invokevirtual 20, 3, 79, 0, 2147), none, none, some (.aload_n 2, 1, 0, 0, 0), some (.aload_n 0, 1, 0, 0, 0), some (.iload_n 3, 1, 0, 0, 0), some (.iconst 1, 1, 0, 0, 0), some (.iadd, 1, 0, 0, 0), some (.iaload, 1, 0, 0, 0), some (.aload_n 0, 1, 0, 0, 0)],
  [some (.iload_n 3, 1, 0, 0, 0), some (.iconst 2, 1, 0, 0, 0), some (.iadd, 1, 0, 0, 0), some (.iaload, 1, 0, 0, 0), some (.aload_n 0, 1, 0, 0, 0), some (.iload_n 3, 1, 0, 0, 0), some (.iconst 3, 1, 0, 0, 0), some (.iadd, 1, 0, 0, 0), some (.iaload, 1, 0, 0, 0), some (.i2l, 1, 0, 0, 0), some (.bipush 32, 2, 0, 0, 0), none, some (.lshl, 1, 0, 0, 0), some (.aload_n 0, 1, 0, 0, 0), some (.iload_n 3, 1, 0, 0, 0), some (.iconst 4, 1, 0, 0, 0)],
  [some (.iadd, 1, 0, 0, 0), some (.iaload, 1, 0, 0, 0), some (.i2l, 1, 0, 0, 0), some (.ldc2_w 18, 3, 4294967295, 0, 6176), none, none, some (.land, 1, 0, 0, 0), some (.lor, 1, 0, 0, 0), some (.invokevirtual 24, 3, 147, 0, 5070), none, none, some (.if_icmp .eq 1141, 3, 1456, 0, 0), none, none, some (.iconst 0, 1, 0, 0, 0), some (.ireturn, 1, 0, 0, 0)],
  [some (.aload_n 1, 1, 0, 0, 0), some (.aload_n 0, 1, 0, 0, 0), some (.iload_n 3, 1, 0, 0, 0), some (.iconst 1, 1, 0, 0, 0), some (.iadd, 1, 0, 0, 0), some (.iaload, 1, 0, 0, 0), some (.aload_n 0, 1, 0, 0, 0), some (.iload_n 3, 1, 0, 0, 0), some (.iconst 2, 1, 0, 0, 0), some (.iadd, 1, 0, 0, 0), some (.iaload, 1, 0, 0, 0), some (.aload_n 0, 1, 0, 0, 0), some (.iload_n 3, 1, 0, 0, 0), some (.iconst 3, 1, 0, 0, 0), some (.iadd, 1, 0, 0, 0), some (.iaload, 1, 0, 0, 0)],
  [some (.aload_n 0, 1, 0, 0, 0), some (.iload_n 3, 1, 0, 0, 0), some (.iconst 4, 1, 0, 0, 0), some (.iadd, 1, 0, 0, 0), some (.iaload, 1, 0, 0, 0), some (.aload_n 0, 1, 0, 0, 0), some (.iload_n 3, 1, 0, 0, 0), some (.iconst 5, 1, 0, 0, 0), some (.iadd, 1, 0, 0, 0), some (.iaload, 1, 0, 0, 0), some (.invokevirtual 25, 3, 80, 0, 2176), none, none, some (.aload_n 2, 1, 0, 0, 0), some (.aload_n 0, 1, 0, 0, 0), some (.iload_n 3, 1, 0, 0, 0)],
  [some (.iconst 1, 1, 0, 0, 0), some (.iadd, 1, 0, 0, 0), some (.iaload, 1, 0, 0, 0), some (.aload_n 0, 1, 0, 0, 0), some (.iload_n 3, 1, 0, 0, 0), some (.iconst 2, 1, 0, 0, 0), some (.iadd, 1, 0, 0, 0), some (.iaload, 1, 0, 0, 0), some (.aload_n 0, 1, 0, 0, 0), some (.iload_n 3, 1, 0, 0, 0), some (.iconst 3, 1, 0, 0, 0), some (.iadd, 1, 0, 0, 0), some (.iaload, 1, 0, 0, 0), some (.aload_n 0, 1, 0, 0, 0), some (.iload_n 3, 1, 0, 0, 0), some (.iconst 4, 1, 0, 0, 0)],
  [some (.iadd, 1, 0, 0, 0), some (.iaload, 1, 0, 0, 0), some (.aload_n 0, 1, 0, 0, 0), some (.iload_n 3, 1, 0, 0, 0), some (.iconst 5, 1, 0, 0, 0), some (.iadd, 1, 0, 0, 0), some (.iaload, 1, 0, 0, 0), some (.invokevirtual 29, 3, 148, 0, 5082), none, none, some (.if_icmp .eq 1078, 3, 1456, 0, 0), none, none, some (.iconst 0, 1, 0, 0, 0), some (.ireturn, 1, 0, 0, 0), some (.aload_n 1, 1, 0, 0, 0)],
  [some (.aload_n 0, 1, 0, 0, 0), some (.iload_n 3, 1, 0, 0, 0), some (.iconst 1, 1, 0, 0, 0), some (.iadd, 1, 0, 0, 0), some (.iaload, 1, 0, 0, 0), some (.aload_n 0, 1, 0, 0, 0), some (.iload_n 3, 1, 0, 0, 0), some (.iconst 2, 1, 0, 0, 0), some (.iadd, 1, 0, 0, 0), some (.iaload, 1, 0, 0, 0), some (.invokevirtual 30, 3, 81, 0, 2191), none, none, some (.aload_n 2, 1, 0, 0, 0), some (.aload_n 0, 1, 0, 0, 0), some (.iload_n 3, 1, 0, 0, 0)],
  [some (.iconst 1, 1, 0, 0, 0), some (.iadd, 1, 0, 0, 0), some (.iaload, 1, 0, 0, 0), some (.aload_n 0, 1, 0, 0, 0), some (.iload_n 3, 1, 0, 0, 0), some (.iconst 2, 1, 0, 0, 0), some (.iadd, 1, 0, 0, 0), some (.iaload, 1, 0, 0, 0), some (.invokevirtual 34, 3, 149, 0, 5086), none, none, some (.lcmp, 1, 0, 0, 0), some (.ifCond .eq 1044, 3, 1456, 0, 0), none, none, some (.iconst 0, 1, 0, 0, 0)],
  [some (.ireturn, 1, 0, 0, 0), some (.aload_n 1, 1, 0, 0, 0), some (.aload_n 0, 1, 0, 0, 0), some (.iload_n 3, 1, 0, 0, 0), some (.iconst 1, 1, 0, 0, 0), some (.iadd, 1, 0, 0, 0), some (.iaload, 1, 0, 0, 0), some (.aload_n 0, 1, 0, 0, 0), some (.iload_n 3, 1, 0, 0, 0), some (.iconst 2, 1, 0, 0, 0), some (.iadd, 1, 0, 0, 0), some (.iaload, 1, 0, 0, 0), some (.invokevirtual 35, 3, 82, 0, 2195), none, none, some (.aload_n 2, 1, 0, 0, 0)],
  [some (.aload_n 0, 1, 0, 0, 0), some (.iload_n 3, 1, 0, 0, 0), some (.iconst 1, 1, 0, 0, 0), some (.iadd, 1, 0, 0, 0), some (.iaload, 1, 0, 0, 0), some (.aload_n 0, 1, 0, 0, 0), some (.iload_n 3, 1, 0, 0, 0), some (.iconst 2, 1, 0, 0, 0), some (.iadd, 1, 0, 0, 0), some (.iaload, 1, 0, 0, 0), some (.invokevirtual 39, 3, 150, 0, 5090), none, none, some (.if_icmp .eq 1011, 3, 1456, 0, 0), none, none],
  [some (.iconst 0, 1, 0, 0, 0), some (.ireturn, 1, 0, 0, 0), some (.aload_n 1, 1, 0, 0, 0), some (.aload_n 0, 1, 0, 0, 0), some (.iload_n 3, 1, 0, 0, 0), some (.iconst 1, 1, 0, 0, 0), some (.iadd, 1, 0, 0, 0), some (.iaload, 1, 0, 0, 0), some (.invokevirtual 40, 3, 83, 0, 2212), none, none, some (.aload_n 2, 1, 0, 0, 0), some (.aload_n 0, 1, 0, 0, 0), some (.iload_n 3, 1, 0, 0, 0), some (.iconst 1, 1, 0, 0, 0), some (.iadd, 1, 0, 0, 0)],
  [some (.iaload, 1, 0, 0, 0), some (.invokevirtual 44, 3, 151, 0, 5098), none, none, some (.if_icmp .eq 988, 3, 1456, 0, 0), none, none, some (.iconst 0, 1, 0, 0, 0), some (.ireturn, 1, 0, 0, 0), some (.aload_n 1, 1, 0, 0, 0), some (.aload_n 0, 1, 0, 0, 0), some (.iload_n 3, 1, 0, 0, 0), some (.iconst 1, 1, 0, 0, 0), some (.iadd, 1, 0, 0, 0), some (.iaload, 1, 0, 0, 0), some (.aload_n 0, 1, 0, 0, 0)],
  [some (.iload_n 3, 1, 0, 0, 0), some (.iconst 2, 1, 0, 0, 0), some (.iadd, 1, 0, 0, 0), some (.iaload, 1, 0, 0, 0), some (.invokevirtual 45, 3, 84, 0, 2216), none, none, some (.aload_n 2, 1, 0, 0, 0), some (.aload_n 0, 1, 0, 0, 0), some (.iload_n 3, 1, 0, 0, 0), some (.iconst 1, 1, 0, 0, 0), some (.iadd, 1, 0, 0, 0), some (.iaload, 1, 0, 0, 0), some (.aload_n 0, 1, 0, 0, 0), some (.iload_n 3, 1, 0, 0, 0), some (.iconst 2, 1, 0, 0, 0)],
  [some (.iadd, 1, 0, 0, 0), some (.iaload, 1, 0, 0, 0), some (.invokevirtual 48, 3, 155, 0, 5102), none, none, some (.if_icmp .eq 955, 3, 1456, 0, 0), none, none, some (.iconst 0, 1, 0, 0, 0), some (.ireturn, 1, 0, 0, 0), some (.aload_n 1, 1, 0, 0, 0), some (.aload_n 0, 1, 0, 0, 0), some (.iload_n 3, 1, 0, 0, 0), some (.iconst 1, 1, 0, 0, 0), some (.iadd, 1, 0, 0, 0), some (.iaload, 1, 0, 0, 0)],
  [some (.aload_n 0, 1, 0, 0, 0), some (.iload_n 3, 1, 0, 0, 0), some (.iconst 2, 1, 0, 0, 0), some (.iadd, 1, 0, 0, 0), some (.iaload, 1, 0, 0, 0), some (.aload_n 0, 1, 0, 0, 0), some (.iload_n 3, 1, 0, 0, 0), some (.iconst 3, 1, 0, 0, 0), some (.iadd, 1, 0, 0, 0), some (.iaload, 1, 0, 0, 0), some (.aload_n 0, 1, 0, 0, 0), some (.iload_n 3, 1, 0, 0, 0), some (.iconst 4, 1, 0, 0, 0), some (.iadd, 1, 0, 0, 0), some (.iaload, 1, 0, 0, 0), some (.aload_n 0, 1, 0, 0, 0)],
  [some (.iload_n 3, 1, 0, 0, 0), some (.iconst 5, 1, 0, 0, 0), some (.iadd, 1, 0, 0, 0), some (.iaload, 1, 0, 0, 0), some (.aload_n 0, 1, 0, 0, 0), some (.iload_n 3, 1, 0, 0, 0), some (.bipush 6, 2, 0, 0, 0), none, some (.iadd, 1, 0, 0, 0), some (.iaload, 1, 0, 0, 0), some (.invokevirtual 49, 3, 85, 0, 2234), none, none, some (.aload_n 2, 1, 0, 0, 0), some (.aload_n 0, 1, 0, 0, 0), some (.iload_n 3, 1, 0, 0, 0)],
  [some (.iconst 1, 1, 0, 0, 0), some (.iadd, 1, 0, 0, 0), some (.iaload, 1, 0, 0, 0), some (.aload_n 0, 1, 0, 0, 0), some (.iload_n 3, 1, 0, 0, 0), some (.iconst 2, 1, 0, 0, 0), some (.iadd, 1, 0, 0, 0), some (.iaload, 1, 0, 0, 0), some (.aload_n 0, 1, 0, 0, 0), some (.iload_n 3, 1, 0, 0, 0), some (.iconst 3, 1, 0, 0, 0), some (.iadd, 1, 0, 0, 0), some (.iaload, 1, 0, 0, 0), some (.aload_n 0, 1, 0, 0, 0), some (.iload_n 3, 1, 0, 0, 0), some (.iconst 4, 1, 0, 0, 0)],
  [some (.iadd, 1, 0, 0, 0), some (.iaload, 1, 0, 0, 0), some (.aload_n 0, 1, 0, 0, 0), some (.iload_n 3, 1, 0, 0, 0), some (.iconst 5, 1, 0, 0, 0), some (.iadd, 1, 0, 0, 0), some (.iaload, 1, 0, 0, 0), some (.aload_n 0, 1, 0, 0, 0), some (.iload_n 3, 1, 0, 0, 0), some (.bipush 6, 2, 0, 0, 0), none, some (.iadd, 1, 0, 0, 0), some (.iaload, 1, 0, 0, 0), some (.invokevirtual 53, 3, 159, 0, 5122), none, none],
  [some (.if_icmp .eq 880, 3, 1456, 0, 0), none, none, some (.iconst 0, 1, 0, 0, 0), some (.ireturn, 1, 0, 0, 0), some (.aload_n 1, 1, 0, 0, 0), some (.aload_n 0, 1, 0, 0, 0), some (.iload_n 3, 1, 0, 0, 0), some (.iconst 1, 1, 0, 0, 0), some (.iadd, 1, 0, 0, 0), some (.iaload, 1, 0, 0, 0), some (.invokevirtual 54, 3, 86, 0, 3024), none, none, some (.aload_n 2, 1, 0, 0, 0), some (.aload_n 0, 1, 0, 0, 0)],
  [some (.iload_n 3, 1, 0, 0, 0), some (.iconst 1, 1, 0, 0, 0), some (.iadd, 1, 0, 0, 0), some (.iaload, 1, 0, 0, 0), some (.invokevirtual 57, 3, 166, 0, 5142), none, none, some (.if_icmp .eq 857, 3, 1456, 0, 0), none, none, some (.iconst 0, 1, 0, 0, 0), some (.ireturn, 1, 0, 0, 0), some (.aload_n 1, 1, 0, 0, 0), some (.invokevirtual 58, 3, 87, 0, 3087), none, none],
  [some (.aload_n 2, 1, 0, 0, 0), some (.invokevirtual 62, 3, 167, 0, 5170), none, none, some (.if_icmp .eq 844, 3, 1456, 0, 0), none, none, some (.iconst 0, 1, 0, 0, 0), some (.ireturn, 1, 0, 0, 0), some (.aload_n 1, 1, 0, 0, 0), some (.aload_n 0, 1, 0, 0, 0), some (.iload_n 3, 1, 0, 0, 0), some (.iconst 1, 1, 0, 0, 0), some (.iadd, 1, 0, 0, 0), some (.iaload, 1, 0, 0, 0), some (.aload_n 0, 1, 0, 0, 0)],
  [some (.iload_n 3, 1, 0, 0, 0), some (.iconst 2, 1, 0, 0, 0), some (.iadd, 1, 0, 0, 0), some (.iaload, 1, 0, 0, 0), some (.invokevirtual 63, 3, 88, 0, 3091), none, none, some (.aload_n 2, 1, 0, 0, 0), some (.aload_n 0, 1, 0, 0, 0), some (.iload_n 3, 1, 0, 0, 0), some (.iconst 1, 1, 0, 0, 0), some (.iadd, 1, 0, 0, 0), some (.iaload, 1, 0, 0, 0), some (.aload_n 0, 1, 0, 0, 0), some (.iload_n 3, 1, 0, 0, 0), some (.iconst 2, 1, 0, 0, 0)],
  [some (.iadd, 1, 0, 0, 0), some (.iaload, 1, 0, 0, 0), some (.invokevirtual 66, 3, 168, 0, 5174), none, none, some (.if_icmp .eq 811, 3, 1456, 0, 0), none, none, some (.iconst 0, 1, 0, 0, 0), some (.ireturn, 1, 0, 0, 0), some (.aload_n 1, 1, 0, 0, 0), some (.aload_n 0, 1, 0, 0, 0), some (.iload_n 3, 1, 0, 0, 0), some (.iconst 1, 1, 0, 0, 0), some (.iadd, 1, 0, 0, 0), some (.iaload, 1, 0, 0, 0)],
  [some (.invokevirtual 67, 3, 89, 0, 3095), none, none, some (.aload_n 2, 1, 0, 0, 0), some (.aload_n 0, 1, 0, 0, 0), some (.iload_n 3, 1, 0, 0, 0), some (.iconst 1, 1, 0, 0, 0), some (.iadd, 1, 0, 0, 0), some (.iaload, 1, 0, 0, 0), some (.invokevirtual 70, 3, 169, 0, 5178), none, none, some (.if_icmp .eq 788, 3, 1456, 0, 0), none, none, some (.iconst 0, 1, 0, 0, 0)],
  [some (.ireturn, 1, 0, 0, 0), some (.aload_n 1, 1, 0, 0, 0), some (.aload_n 0, 1, 0, 0, 0), some (.iload_n 3, 1, 0, 0, 0), some (.iconst 1, 1, 0, 0, 0), some (.iadd, 1, 0, 0, 0), some (.iaload, 1, 0, 0, 0), some (.invokevirtual 71, 3, 90, 0, 3108), none, none, some (.aload_n 2, 1, 0, 0, 0), some (.aload_n 0, 1, 0, 0, 0), some (.iload_n 3, 1, 0, 0, 0), some (.iconst 1, 1, 0, 0, 0), some (.iadd, 1, 0, 0, 0), some (.iaload, 1, 0, 0, 0)],
  [some (.invokevirtual 74, 3, 170, 0, 5186), none, none, some (.if_icmp .eq 765, 3, 1456, 0, 0), none, none, some (.iconst 0, 1, 0, 0, 0), some (.ireturn, 1, 0, 0, 0), some (.aload_n 1, 1, 0, 0, 0), some (.aload_n 0, 1, 0, 0, 0), some (.iload_n 3, 1, 0, 0, 0), some (.iconst 1, 1, 0, 0, 0), some (.iadd, 1, 0, 0, 0), some (.iaload, 1, 0, 0, 0), some (.aload_n 0, 1, 0, 0, 0), some (.iload_n 3, 1, 0, 0, 0)],
  [some (.iconst 2, 1, 0, 0, 0), some (.iadd, 1, 0, 0, 0), some (.iaload, 1, 0, 0, 0), some (.invokevirtual 75, 3, 91, 0, 3112), none, none, some (.aload_n 2, 1, 0, 0, 0), some (.aload_n 0, 1, 0, 0, 0), some (.iload_n 3, 1, 0, 0, 0), some (.iconst 1, 1, 0, 0, 0), some (.iadd, 1, 0, 0, 0), some (.iaload, 1, 0, 0, 0), some (.aload_n 0, 1, 0, 0, 0), some (.iload_n 3, 1, 0, 0, 0), some (.iconst 2, 1, 0, 0, 0), some (.iadd, 1, 0, 0, 0)],
  [some (.iaload, 1, 0, 0, 0), some (.invokevirtual 78, 3, 172, 0, 5190), none, none, some (.if_icmp .eq 732, 3, 1456, 0, 0), none, none, some (.iconst 0, 1, 0, 0, 0), some (.ireturn, 1, 0, 0, 0), some (.aload_n 1, 1, 0, 0, 0), some (.aload_n 0, 1, 0, 0, 0), some (.iload_n 3, 1, 0, 0, 0), some (.iconst 1, 1, 0, 0, 0), some (.iadd, 1, 0, 0, 0), some (.iaload, 1, 0, 0, 0), some (.invokevirtual 79, 3, 92, 0, 3139)],
  [none, none, some (.aload_n 2, 1, 0, 0, 0), some (.aload_n 0, 1, 0, 0, 0), some (.iload_n 3, 1, 0, 0, 0), some (.iconst 1, 1, 0, 0, 0), some (.iadd, 1, 0, 0, 0), some (.iaload, 1, 0, 0, 0), some (.invokevirtual 82, 3, 182, 0, 5213), none, none, some (.if_icmp .eq 709, 3, 1456, 0, 0), none, none, some (.iconst 0, 1, 0, 0, 0), some (.ireturn, 1, 0, 0, 0)],
  [some (.aload_n 1, 1, 0, 0, 0), some (.aload_n 0, 1, 0, 0, 0), some (.iload_n 3, 1, 0, 0, 0), some (.iconst 1, 1, 0, 0, 0), some (.iadd, 1, 0, 0, 0), some (.iaload, 1, 0, 0, 0), some (.aload_n 0, 1, 0, 0, 0), some (.iload_n 3, 1, 0, 0, 0), some (.iconst 2, 1, 0, 0, 0), some (.iadd, 1, 0, 0, 0), some (.iaload, 1, 0, 0, 0), some (.invokevirtual 83, 3, 93, 0, 3199), none, none, some (.aload_n 2, 1, 0, 0, 0), some (.aload_n 0, 1, 0, 0, 0)],
  [some (.iload_n 3, 1, 0, 0, 0), some (.iconst 1, 1, 0, 0, 0), some (.iadd, 1, 0, 0, 0), some (.iaload, 1, 0, 0, 0), some (.aload_n 0, 1, 0, 0, 0), some (.iload_n 3, 1, 0, 0, 0), some (.iconst 2, 1, 0, 0, 0), some (.iadd, 1, 0, 0, 0), some (.iaload, 1, 0, 0, 0), some (.invokevirtual 86, 3, 183, 0, 6013), none, none, some (.if_icmp .eq 676, 3, 1456, 0, 0), none, none, some (.iconst 0, 1, 0, 0, 0)],
  [some (.ireturn, 1, 0, 0, 0), some (.aload_n 1, 1, 0, 0, 0), some (.aload_n 0, 1, 0, 0, 0), some (.iload_n 3, 1, 0, 0, 0), some (.iconst 1, 1, 0, 0, 0), some (.iadd, 1, 0, 0, 0), some (.iaload, 1, 0, 0, 0), some (.invokevirtual 87, 3, 94, 0, 3203), none, none, some (.aload_n 2, 1, 0, 0, 0), some (.aload_n 0, 1, 0, 0, 0), some (.iload_n 3, 1, 0, 0, 0), some (.iconst 1, 1, 0, 0, 0), some (.iadd, 1, 0, 0, 0), some (.iaload, 1, 0, 0, 0)],
  [some (.invokevirtual 90, 3, 187, 0, 6017), none, none, some (.if_icmp .eq 653, 3, 1456, 0, 0), none, none, some (.iconst 0, 1, 0, 0, 0), some (.ireturn, 1, 0, 0, 0), some (.aload_n 1, 1, 0, 0, 0), some (.aload_n 0, 1, 0, 0, 0), some (.iload_n 3, 1, 0, 0, 0), some (.iconst 1, 1, 0, 0, 0), some (.iadd, 1, 0, 0, 0), some (.iaload, 1, 0, 0, 0), some (.aload_n 0, 1, 0, 0, 0), some (.iload_n 3, 1, 0, 0, 0)],
  [some (.iconst 2, 1, 0, 0, 0), some (.iadd, 1, 0, 0, 0), some (.iaload, 1, 0, 0, 0), some (.invokevirtual 91, 3, 95, 0, 3238), none, none, some (.aload_n 2, 1, 0, 0, 0), some (.aload_n 0, 1, 0, 0, 0), some (.iload_n 3, 1, 0, 0, 0), some (.iconst 1, 1, 0, 0, 0), some (.iadd, 1, 0, 0, 0), some (.iaload, 1, 0, 0, 0), some (.aload_n 0, 1, 0, 0, 0), some (.iload_n 3, 1, 0, 0, 0), some (.iconst 2, 1, 0, 0, 0), some (.iadd, 1, 0, 0, 0)],
  [some (.iaload, 1, 0, 0, 0), some (.invokevirtual 94, 3, 188, 0, 6033), none, none, some (.if_icmp .eq 620, 3, 1456, 0, 0), none, none, some (.iconst 0, 1, 0, 0, 0), some (.ireturn, 1, 0, 0, 0), some (.aload_n 1, 1, 0, 0, 0), some (.aload_n 0, 1, 0, 0, 0), some (.iload_n 3, 1, 0, 0, 0), some (.iconst 1, 1, 0, 0, 0), some (.iadd, 1, 0, 0, 0), some (.iaload, 1, 0, 0, 0), some (.invokevirtual 95, 3, 96, 0, 4002)],
  [none, none, some (.aload_n 2, 1, 0, 0, 0), some (.aload_n 0, 1, 0, 0, 0), some (.iload_n 3, 1, 0, 0, 0), some (.iconst 1, 1, 0, 0, 0), some (.iadd, 1, 0, 0, 0), some (.iaload, 1, 0, 0, 0), some (.invokevirtual 98, 3, 189, 0, 6037), none, none, some (.if_icmp .eq 597, 3, 1456, 0, 0), none, none, some (.iconst 0, 1, 0, 0, 0), some (.ireturn, 1, 0, 0, 0)],
  [some (.aload_n 1, 1, 0, 0, 0), some (.aload_n 0, 1, 0, 0, 0), some (.iload_n 3, 1, 0, 0, 0), some (.iconst 1, 1, 0, 0, 0), some (.iadd, 1, 0, 0, 0), some (.iaload, 1, 0, 0, 0), some (.invokevirtual 99, 3, 97, 0, 4006), none, none, some (.aload_n 2, 1, 0, 0, 0), some (.aload_n 0, 1, 0, 0, 0), some (.iload_n 3, 1, 0, 0, 0), some (.iconst 1, 1, 0, 0, 0), some (.iadd, 1, 0, 0, 0), some (.iaload, 1, 0, 0, 0), some (.invokevirtual 102, 3, 190, 0, 6041)],
  [none, none, some (.if_icmp .eq 574, 3, 1456, 0, 0), none, none, some (.iconst 0, 1, 0, 0, 0), some (.ireturn, 1, 0, 0, 0), some (.aload_n 1, 1, 0, 0, 0), some (.aload_n 0, 1, 0, 0, 0), some (.iload_n 3, 1, 0, 0, 0), some (.iconst 1, 1, 0, 0, 0), some (.iadd, 1, 0, 0, 0), some (.iaload, 1, 0, 0, 0), some (.aload_n 0, 1, 0, 0, 0), some (.iload_n 3, 1, 0, 0, 0), some (.iconst 2, 1, 0, 0, 0)],
  [some (.iadd, 1, 0, 0, 0), some (.iaload, 1, 0, 0, 0), some (.invokevirtual 103, 3, 98, 0, 4010), none, none, some (.aload_n 2, 1, 0, 0, 0), some (.aload_n 0, 1, 0, 0, 0), some (.iload_n 3, 1, 0, 0, 0), some (.iconst 1, 1, 0, 0, 0), some (.iadd, 1, 0, 0, 0), some (.iaload, 1, 0, 0, 0), some (.aload_n 0, 1, 0, 0, 0), some (.iload_n 3, 1, 0, 0, 0), some (.iconst 2, 1, 0, 0, 0), some (.iadd, 1, 0, 0, 0), some (.iaload, 1, 0, 0, 0)],
  [some (.invokevirtual 106, 3, 191, 0, 6045), none, none, some (.if_icmp .eq 541, 3, 1456, 0, 0), none, none, some (.iconst 0, 1, 0, 0, 0), some (.ireturn, 1, 0, 0, 0), some (.aload_n 1, 1, 0, 0, 0), some (.aload_n 0, 1, 0, 0, 0), some (.iload_n 3, 1, 0, 0, 0), some (.iconst 1, 1, 0, 0, 0), some (.iadd, 1, 0, 0, 0), some (.iaload, 1, 0, 0, 0), some (.invokevirtual 107, 3, 99, 0, 4014), none],
  [none, some (.aload_n 2, 1, 0, 0, 0), some (.aload_n 0, 1, 0, 0, 0), some (.iload_n 3, 1, 0, 0, 0), some (.iconst 1, 1, 0, 0, 0), some (.iadd, 1, 0, 0, 0), some (.iaload, 1, 0, 0, 0), some (.invokevirtual 110, 3, 192, 0, 6057), none, none, some (.if_icmp .eq 518, 3, 1456, 0, 0), none, none, some (.iconst 0, 1, 0, 0, 0), some (.ireturn, 1, 0, 0, 0), some (.aload_n 1, 1, 0, 0, 0)],
  [some (.aload_n 0, 1, 0, 0, 0), some (.iload_n 3, 1, 0, 0, 0), some (.iconst 1, 1, 0, 0, 0), some (.iadd, 1, 0, 0, 0), some (.iaload, 1, 0, 0, 0), some (.invokevirtual 111, 3, 100, 0, 4020), none, none, some (.aload_n 2, 1, 0, 0, 0), some (.aload_n 0, 1, 0, 0, 0), some (.iload_n 3, 1, 0, 0, 0), some (.iconst 1, 1, 0, 0, 0), some (.iadd, 1, 0, 0, 0), some (.iaload, 1, 0, 0, 0), some (.invokevirtual 114, 3, 193, 0, 6061), none],
  [none, some (.if_icmp .eq 495, 3, 1456, 0, 0), none, none, some (.iconst 0, 1, 0, 0, 0), some (.ireturn, 1, 0, 0, 0), some (.aload_n 1, 1, 0, 0, 0), some (.aload_n 0, 1, 0, 0, 0), some (.iload_n 3, 1, 0, 0, 0), some (.iconst 1, 1, 0, 0, 0), some (.iadd, 1, 0, 0, 0), some (.iaload, 1, 0, 0, 0), some (.aload_n 0, 1, 0, 0, 0), some (.iload_n 3, 1, 0, 0, 0), some (.iconst 2, 1, 0, 0, 0), some (.iadd, 1, 0, 0, 0)],
  [some (.iaload, 1, 0, 0, 0), some (.aload_n 0, 1, 0, 0, 0), some (.iload_n 3, 1, 0, 0, 0), some (.iconst 3, 1, 0, 0, 0), some (.iadd, 1, 0, 0, 0), some (.iaload, 1, 0, 0, 0), some (.aload_n 0, 1, 0, 0, 0), some (.iload_n 3, 1, 0, 0, 0), some (.iconst 4, 1, 0, 0, 0), some (.iadd, 1, 0, 0, 0), some (.iaload, 1, 0, 0, 0), some (.aload_n 0, 1, 0, 0, 0), some (.iload_n 3, 1, 0, 0, 0), some (.iconst 5, 1, 0, 0, 0), some (.iadd, 1, 0, 0, 0), some (.iaload, 1, 0, 0, 0)],
  [some (.invokevirtual 115, 3, 101, 0, 4026), none, none, some (.aload_n 2, 1, 0, 0, 0), some (.aload_n 0, 1, 0, 0, 0), some (.iload_n 3, 1, 0, 0, 0), some (.iconst 1, 1, 0, 0, 0), some (.iadd, 1, 0, 0, 0), some (.iaload, 1, 0, 0, 0), some (.aload_n 0, 1, 0, 0, 0), some (.iload_n 3, 1, 0, 0, 0), some (.iconst 2, 1, 0, 0, 0), some (.iadd, 1, 0, 0, 0), some (.iaload, 1, 0, 0, 0), some (.aload_n 0, 1, 0, 0, 0), some (.iload_n 3, 1, 0, 0, 0)],
  [some (.iconst 3, 1, 0, 0, 0), some (.iadd, 1, 0, 0, 0), some (.iaload, 1, 0, 0, 0), some (.aload_n 0, 1, 0, 0, 0), some (.iload_n 3, 1, 0, 0, 0), some (.iconst 4, 1, 0, 0, 0), some (.iadd, 1, 0, 0, 0), some (.iaload, 1, 0, 0, 0), some (.aload_n 0, 1, 0, 0, 0), some (.iload_n 3, 1, 0, 0, 0), some (.iconst 5, 1, 0, 0, 0), some (.iadd, 1, 0, 0, 0), some (.iaload, 1, 0, 0, 0), some (.invokevirtual 118, 3, 195, 0, 6065), none, none],
  [some (.if_icmp .eq 432, 3, 1456, 0, 0), none, none, some (.iconst 0, 1, 0, 0, 0), some (.ireturn, 1, 0, 0, 0), some (.aload_n 1, 1, 0, 0, 0), some (.aload_n 0, 1, 0, 0, 0), some (.iload_n 3, 1, 0, 0, 0), some (.iconst 1, 1, 0, 0, 0), some (.iadd, 1, 0, 0, 0), some (.iaload, 1, 0, 0, 0), some (.aload_n 0, 1, 0, 0, 0), some (.iload_n 3, 1, 0, 0, 0), some (.iconst 2, 1, 0, 0, 0), some (.iadd, 1, 0, 0, 0), some (.iaload, 1, 0, 0, 0)],
  [some (.invokevirtual 119, 3, 102, 0, 4034), none, none, some (.aload_n 2, 1, 0, 0, 0), some (.aload_n 0, 1, 0, 0, 0), some (.iload_n 3, 1, 0, 0, 0), some (.iconst 1, 1, 0, 0, 0), some (.iadd, 1, 0, 0, 0), some (.iaload, 1, 0, 0, 0), some (.aload_n 0, 1, 0, 0, 0), some (.iload_n 3, 1, 0, 0, 0), some (.iconst 2, 1, 0, 0, 0), some (.iadd, 1, 0, 0, 0), some (.iaload, 1, 0, 0, 0), some (.invokevirtual 122, 3, 196, 0, 6072), none],
  [none, some (.if_icmp .eq 399, 3, 1456, 0, 0), none, none, some (.iconst 0, 1, 0, 0, 0), some (.ireturn, 1, 0, 0, 0), some (.aload_n 1, 1, 0, 0, 0), some (.aload_n 0, 1, 0, 0, 0), some (.iload_n 3, 1, 0, 0, 0), some (.iconst 1, 1, 0, 0, 0), some (.iadd, 1, 0, 0, 0), some (.iaload, 1, 0, 0, 0), some (.aload_n 0, 1, 0, 0, 0), some (.iload_n 3, 1, 0, 0, 0), some (.iconst 2, 1, 0, 0, 0), some (.iadd, 1, 0, 0, 0)],
  [some (.iaload, 1, 0, 0, 0), some (.invokevirtual 123, 3, 103, 0, 4038), none, none, some (.aload_n 2, 1, 0, 0, 0), some (.aload_n 0, 1, 0, 0, 0), some (.iload_n 3, 1, 0, 0, 0), some (.iconst 1, 1, 0, 0, 0), some (.iadd, 1, 0, 0, 0), some (.iaload, 1, 0, 0, 0), some (.aload_n 0, 1, 0, 0, 0), some (.iload_n 3, 1, 0, 0, 0), some (.iconst 2, 1, 0, 0, 0), some (.iadd, 1, 0, 0, 0), some (.iaload, 1, 0, 0, 0), some (.invokevirtual 126, 3, 199, 0, 6080)],
  [none, none, some (.if_icmp .eq 366, 3, 1456, 0, 0), none, none, some (.iconst 0, 1, 0, 0, 0), some (.ireturn, 1, 0, 0, 0), some (.aload_n 1, 1, 0, 0, 0), some (.aload_n 0, 1, 0, 0, 0), some (.iload_n 3, 1, 0, 0, 0), some (.iconst 1, 1, 0, 0, 0), some (.iadd, 1, 0, 0, 0), some (.iaload, 1, 0, 0, 0), some (.aload_n 0, 1, 0, 0, 0), some (.iload_n 3, 1, 0, 0, 0), some (.iconst 2, 1, 0, 0, 0)],
  [some (.iadd, 1, 0, 0, 0), some (.iaload, 1, 0, 0, 0), some (.invokevirtual 127, 3, 104, 0, 4056), none, none, some (.aload_n 2, 1, 0, 0, 0), some (.aload_n 0, 1, 0, 0, 0), some (.iload_n 3, 1, 0, 0, 0), some (.iconst 1, 1, 0, 0, 0), some (.iadd, 1, 0, 0, 0), some (.iaload, 1, 0, 0, 0), some (.aload_n 0, 1, 0, 0, 0), some (.iload_n 3, 1, 0, 0, 0), some (.iconst 2, 1, 0, 0, 0), some (.iadd, 1, 0, 0, 0), some (.iaload, 1, 0, 0, 0)],
  [some (.invokevirtual 130, 3, 204, 0, 6092), none, none, some (.if_icmp .eq 333, 3, 1456, 0, 0), none, none, some (.iconst 0, 1, 0, 0, 0), some (.ireturn, 1, 0, 0, 0), some (.aload_n 1, 1, 0, 0, 0), some (.invokevirtual 131, 3, 105, 0, 4091), none, none, some (.aload_n 2, 1, 0, 0, 0), some (.invokevirtual 134, 3, 205, 0, 6111), none, none],
  [some (.if_icmp .eq 320, 3, 1456, 0, 0), none, none, some (.iconst 0, 1, 0, 0, 0), some (.ireturn, 1, 0, 0, 0), some (.aload_n 1, 1, 0, 0, 0), some (.aload_n 0, 1, 0, 0, 0), some (.iload_n 3, 1, 0, 0, 0), some (.iconst 1, 1, 0, 0, 0), some (.iadd, 1, 0, 0, 0), some (.iaload, 1, 0, 0, 0), some (.aload_n 0, 1, 0, 0, 0), some (.iload_n 3, 1, 0, 0, 0), some (.iconst 2, 1, 0, 0, 0), some (.iadd, 1, 0, 0, 0), some (.iaload, 1, 0, 0, 0)],
  [some (.aload_n 0, 1, 0, 0, 0), some (.iload_n 3, 1, 0, 0, 0), some (.iconst 3, 1, 0, 0, 0), some (.iadd, 1, 0, 0, 0), some (.iaload, 1, 0, 0, 0), some (.invokevirtual 135, 3, 106, 0, 4095), none, none, some (.aload_n 2, 1, 0, 0, 0), some (.aload_n 0, 1, 0, 0, 0), some (.iload_n 3, 1, 0, 0, 0), some (.iconst 1, 1, 0, 0, 0), some (.iadd, 1, 0, 0, 0), some (.iaload, 1, 0, 0, 0), some (.aload_n 0, 1, 0, 0, 0), some (.iload_n 3, 1, 0, 0, 0)],
  [some (.iconst 2, 1, 0, 0, 0), some (.iadd, 1, 0, 0, 0), some (.iaload, 1, 0, 0, 0), some (.aload_n 0, 1, 0, 0, 0), some (.iload_n 3, 1, 0, 0, 0), some (.iconst 3, 1, 0, 0, 0), some (.iadd, 1, 0, 0, 0), some (.iaload, 1, 0, 0, 0), some (.invokevirtual 139, 3, 206, 0, 6115), none, none, some (.lcmp, 1, 0, 0, 0), some (.ifCond .eq 276, 3, 1456, 0, 0), none, none, some (.iconst 0, 1, 0, 0, 0)],
  [some (.ireturn, 1, 0, 0, 0), some (.aload_n 1, 1, 0, 0, 0), some (.aload_n 0, 1, 0, 0, 0), some (.iload_n 3, 1, 0, 0, 0), some (.iconst 1, 1, 0, 0, 0), some (.iadd, 1, 0, 0, 0), some (.iaload, 1, 0, 0, 0), some (.aload_n 0, 1, 0, 0, 0), some (.iload_n 3, 1, 0, 0, 0), some (.iconst 2, 1, 0, 0, 0), some (.iadd, 1, 0, 0, 0), some (.iaload, 1, 0, 0, 0), some (.invokevirtual 140, 3, 107, 0, 4100), none, none, some (.aload_n 2, 1, 0, 0, 0)],
  [some (.aload_n 0, 1, 0, 0, 0), some (.iload_n 3, 1, 0, 0, 0), some (.iconst 1, 1, 0, 0, 0), some (.iadd, 1, 0, 0, 0), some (.iaload, 1, 0, 0, 0), some (.aload_n 0, 1, 0, 0, 0), some (.iload_n 3, 1, 0, 0, 0), some (.iconst 2, 1, 0, 0, 0), some (.iadd, 1, 0, 0, 0), some (.iaload, 1, 0, 0, 0), some (.invokevirtual 143, 3, 207, 0, 6120), none, none, some (.if_icmp .eq 243, 3, 1456, 0, 0), none, none],
  [some (.iconst 0, 1, 0, 0, 0), some (.ireturn, 1, 0, 0, 0), some (.aload_n 1, 1, 0, 0, 0), some (.aload_n 0, 1, 0, 0, 0), some (.iload_n 3, 1, 0, 0, 0), some (.iconst 1, 1, 0, 0, 0), some (.iadd, 1, 0, 0, 0), some (.iaload, 1, 0, 0, 0), some (.aload_n 0, 1, 0, 0, 0), some (.iload_n 3, 1, 0, 0, 0), some (.iconst 2, 1, 0, 0, 0), some (.iadd, 1, 0, 0, 0), some (.iaload, 1, 0, 0, 0), some (.aload_n 0, 1, 0, 0, 0), some (.iload_n 3, 1, 0, 0, 0), some (.iconst 3, 1, 0, 0, 0)],
  [some (.iadd, 1, 0, 0, 0), some (.iaload, 1, 0, 0, 0), some (.aload_n 0, 1, 0, 0, 0), some (.iload_n 3, 1, 0, 0, 0), some (.iconst 4, 1, 0, 0, 0), some (.iadd, 1, 0, 0, 0), some (.iaload, 1, 0, 0, 0), some (.invokevirtual 144, 3, 108, 0, 4104), none, none, some (.aload_n 2, 1, 0, 0, 0), some (.aload_n 0, 1, 0, 0, 0), some (.iload_n 3, 1, 0, 0, 0), some (.iconst 1, 1, 0, 0, 0), some (.iadd, 1, 0, 0, 0), some (.iaload, 1, 0, 0, 0)],
  [some (.aload_n 0, 1, 0, 0, 0), some (.iload_n 3, 1, 0, 0, 0), some (.iconst 2, 1, 0, 0, 0), some (.iadd, 1, 0, 0, 0), some (.iaload, 1, 0, 0, 0), some (.aload_n 0, 1, 0, 0, 0), some (.iload_n 3, 1, 0, 0, 0), some (.iconst 3, 1, 0, 0, 0), some (.iadd, 1, 0, 0, 0), some (.iaload, 1, 0, 0, 0), some (.aload_n 0, 1, 0, 0, 0), some (.iload_n 3, 1, 0, 0, 0), some (.iconst 4, 1, 0, 0, 0), some (.iadd, 1, 0, 0, 0), some (.iaload, 1, 0, 0, 0), some (.invokevirtual 148, 3, 208, 0, 6124)],
  [none, none, some (.lcmp, 1, 0, 0, 0), some (.ifCond .eq 189, 3, 1456, 0, 0), none, none, some (.iconst 0, 1, 0, 0, 0), some (.ireturn, 1, 0, 0, 0), some (.aload_n 1, 1, 0, 0, 0), some (.aload_n 0, 1, 0, 0, 0), some (.iload_n 3, 1, 0, 0, 0), some (.iconst 1, 1, 0, 0, 0), some (.iadd, 1, 0, 0, 0), some (.iaload, 1, 0, 0, 0), some (.aload_n 0, 1, 0, 0, 0), some (.iload_n 3, 1, 0, 0, 0)],
  [some (.iconst 2, 1, 0, 0, 0), some (.iadd, 1, 0, 0, 0), some (.iaload, 1, 0, 0, 0), some (.aload_n 0, 1, 0, 0, 0), some (.iload_n 3, 1, 0, 0, 0), some (.iconst 3, 1, 0, 0, 0), some (.iadd, 1, 0, 0, 0), some (.iaload, 1, 0, 0, 0), some (.invokevirtual 149, 3, 109, 0, 4114), none, none, some (.aload_n 2, 1, 0, 0, 0), some (.aload_n 0, 1, 0, 0, 0), some (.iload_n 3, 1, 0, 0, 0), some (.iconst 1, 1, 0, 0, 0), some (.iadd, 1, 0, 0, 0)],
  [some (.iaload, 1, 0, 0, 0), some (.aload_n 0, 1, 0, 0, 0), some (.iload_n 3, 1, 0, 0, 0), some (.iconst 2, 1, 0, 0, 0), some (.iadd, 1, 0, 0, 0), some (.iaload, 1, 0, 0, 0), some (.aload_n 0, 1, 0, 0, 0), some (.iload_n 3, 1, 0, 0, 0), some (.iconst 3, 1, 0, 0, 0), some (.iadd, 1, 0, 0, 0), some (.iaload, 1, 0, 0, 0), some (.invokevirtual 152, 3, 210, 0, 6129), none, none, some (.if_icmp .eq 146, 3, 1456, 0, 0), none],
  [none, some (.iconst 0, 1, 0, 0, 0), some (.ireturn, 1, 0, 0, 0), some (.aload_n 1, 1, 0, 0, 0), some (.aload_n 0, 1, 0, 0, 0), some (.iload_n 3, 1, 0, 0, 0), some (.iconst 1, 1, 0, 0, 0), some (.iadd, 1, 0, 0, 0), some (.iaload, 1, 0, 0, 0), some (.invokevirtual 153, 3, 110, 0, 4122), none, none, some (.aload_n 2, 1, 0, 0, 0), some (.aload_n 0, 1, 0, 0, 0), some (.iload_n 3, 1, 0, 0, 0), some (.iconst 1, 1, 0, 0, 0)],
  [some (.iadd, 1, 0, 0, 0), some (.iaload, 1, 0, 0, 0), some (.invokevirtual 156, 3, 211, 0, 6138), none, none, some (.if_icmp .eq 123, 3, 1456, 0, 0), none, none, some (.iconst 0, 1, 0, 0, 0), some (.ireturn, 1, 0, 0, 0), some (.aload_n 1, 1, 0, 0, 0), some (.aload_n 0, 1, 0, 0, 0), some (.iload_n 3, 1, 0, 0, 0), some (.iconst 1, 1, 0, 0, 0), some (.iadd, 1, 0, 0, 0), some (.iaload, 1, 0, 0, 0)],
  [some (.invokevirtual 157, 3, 111, 0, 4129), none, none, some (.aload_n 2, 1, 0, 0, 0), some (.aload_n 0, 1, 0, 0, 0), some (.iload_n 3, 1, 0, 0, 0), some (.iconst 1, 1, 0, 0, 0), some (.iadd, 1, 0, 0, 0), some (.iaload, 1, 0, 0, 0), some (.invokevirtual 160, 3, 212, 0, 6143), none, none, some (.if_icmp .eq 100, 3, 1456, 0, 0), none, none, some (.iconst 0, 1, 0, 0, 0)],
  [some (.ireturn, 1, 0, 0, 0), some (.aload_n 1, 1, 0, 0, 0), some (.aload_n 0, 1, 0, 0, 0), some (.iload_n 3, 1, 0, 0, 0), some (.iconst 1, 1, 0, 0, 0), some (.iadd, 1, 0, 0, 0), some (.iaload, 1, 0, 0, 0), some (.invokevirtual 161, 3, 112, 0, 4138), none, none, some (.aload_n 2, 1, 0, 0, 0), some (.aload_n 0, 1, 0, 0, 0), some (.iload_n 3, 1, 0, 0, 0), some (.iconst 1, 1, 0, 0, 0), some (.iadd, 1, 0, 0, 0), some (.iaload, 1, 0, 0, 0)],
  [some (.invokevirtual 164, 3, 215, 0, 6147), none, none, some (.if_icmp .eq 77, 3, 1456, 0, 0), none, none, some (.iconst 0, 1, 0, 0, 0), some (.ireturn, 1, 0, 0, 0), some (.aload_n 1, 1, 0, 0, 0), some (.aload_n 0, 1, 0, 0, 0), some (.iload_n 3, 1, 0, 0, 0), some (.iconst 1, 1, 0, 0, 0), some (.iadd, 1, 0, 0, 0), some (.iaload, 1, 0, 0, 0), some (.invokevirtual 165, 3, 113, 0, 4155), none],
  [none, some (.aload_n 2, 1, 0, 0, 0), some (.aload_n 0, 1, 0, 0, 0), some (.iload_n 3, 1, 0, 0, 0), some (.iconst 1, 1, 0, 0, 0), some (.iadd, 1, 0, 0, 0), some (.iaload, 1, 0, 0, 0), some (.invokevirtual 168, 3, 216, 0, 6160), none, none, some (.if_icmp .eq 54, 3, 1456, 0, 0), none, none, some (.iconst 0, 1, 0, 0, 0), some (.ireturn, 1, 0, 0, 0), some (.aload_n 1, 1, 0, 0, 0)],
  [some (.invokevirtual 169, 3, 114, 0, 4159), none, none, some (.aload_n 2, 1, 0, 0, 0), some (.invokevirtual 172, 3, 219, 0, 6164), none, none, some (.if_icmp .eq 41, 3, 1456, 0, 0), none, none, some (.iconst 0, 1, 0, 0, 0), some (.ireturn, 1, 0, 0, 0), some (.aload_n 1, 1, 0, 0, 0), some (.invokevirtual 173, 3, 115, 0, 4173), none, none],
  [some (.aload_n 2, 1, 0, 0, 0), some (.invokevirtual 176, 3, 220, 0, 6168), none, none, some (.if_icmp .eq 28, 3, 1456, 0, 0), none, none, some (.iconst 0, 1, 0, 0, 0), some (.ireturn, 1, 0, 0, 0), some (.aload_n 1, 1, 0, 0, 0), some (.aload_n 0, 1, 0, 0, 0), some (.iload_n 3, 1, 0, 0, 0), some (.iconst 1, 1, 0, 0, 0), some (.iadd, 1, 0, 0, 0), some (.iaload, 1, 0, 0, 0), some (.invokevirtual 177, 3, 116, 0, 4177)],
  [none, none, some (.aload_n 2, 1, 0, 0, 0), some (.aload_n 0, 1, 0, 0, 0), some (.iload_n 3, 1, 0, 0, 0), some (.iconst 1, 1, 0, 0, 0), some (.iadd, 1, 0, 0, 0), some (.iaload, 1, 0, 0, 0), some (.invokevirtual 180, 3, 221, 0, 6172), none, none, some (.if_icmp .eq 5, 3, 1456, 0, 0), none, none, some (.iconst 0, 1, 0, 0, 0), some (.ireturn, 1, 0, 0, 0)],
  [some (.iinc 3 7, 3, 0, 0, 0), none, none, some (.goto (-1441), 3, 18, 0, 0), none, none, some (.iconst 1, 1, 0, 0, 0), some (.ireturn, 1, 0, 0, 0)]]
def q_fs0 : List (List (List (Option q_In))) := [q_f0, q_f1, q_f2, q_f3, q_f4, q_f5, q_f6, q_f7, q_f8, q_f9, q_f10, q_f11, q_f12, q_f13, q_f14, q_f15]
def q_fs1 : List (List (List (Option q_In))) := [q_f16, q_f17, q_f18, q_f19, q_f20, q_f21, q_f22, q_f23, q_f24, q_f25, q_f26, q_f27, q_f28, q_f29, q_f30, q_f31]
def q_fs2 : List (List (List (Option q_In))) := [q_f32, q_f33, q_f34, q_f35, q_f36, q_f37, q_f38, q_f39, q_f40, q_f41, q_f42, q_f43, q_f44, q_f45, q_f46, q_f47]
def q_fs3 : List (List (List (Option q_In))) := [q_f48, q_f49, q_f50, q_f51, q_f52, q_f53, q_f54, q_f55, q_f56, q_f57, q_f58, q_f59, q_f60, q_f61, q_f62, q_f63]
def q_fs4 : List (List (List (Option q_In))) := [q_f64, q_f65, q_f66, q_f67, q_f68, q_f69, q_f70, q_f71, q_f72, q_f73, q_f74, q_f75, q_f76, q_f77, q_f78, q_f79]
def q_fs5 : List (List (List (Option q_In))) := [q_f80, q_f81, q_f82, q_f83, q_f84, q_f85, q_f86, q_f87, q_f88, q_f89, q_f90, q_f91, q_f92, q_f93, q_f94, q_f95]
def q_fs6 : List (List (List (Option q_In))) := [q_f96, q_f97, q_f98, q_f99, q_f100, q_f101, q_f102, q_f103, q_f104, q_f105, q_f106, q_f107, q_f108, q_f109, q_f110, q_f111]
def q_fs7 : List (List (List (Option q_In))) := [q_f112, q_f113, q_f114, q_f115, q_f116, q_f117, q_f118, q_f119, q_f120, q_f121, q_f122, q_f123, q_f124, q_f125, q_f126, q_f127]
def q_fs8 : List (List (List (Option q_In))) := [q_f128, q_f129, q_f130, q_f131, q_f132, q_f133, q_f134, q_f135, q_f136, q_f137, q_f138, q_f139, q_f140, q_f141, q_f142, q_f143]
def q_fs9 : List (List (List (Option q_In))) := [q_f144, q_f145, q_f146, q_f147, q_f148, q_f149, q_f150, q_f151, q_f152, q_f153, q_f154, q_f155, q_f156, q_f157, q_f158, q_f159]
def q_fs10 : List (List (List (Option q_In))) := [q_f160, q_f161, q_f162, q_f163, q_f164, q_f165, q_f166, q_f167, q_f168, q_f169, q_f170, q_f171, q_f172, q_f173, q_f174, q_f175]
def q_fs11 : List (List (List (Option q_In))) := [q_f176, q_f177, q_f178, q_f179, q_f180, q_f181, q_f182, q_f183, q_f184, q_f185, q_f186, q_f187, q_f188, q_f189, q_f190, q_f191]
def q_fs12 : List (List (List (Option q_In))) := [q_f192, q_f193, q_f194, q_f195, q_f196, q_f197, q_f198, q_f199, q_f200, q_f201, q_f202, q_f203, q_f204, q_f205, q_f206, q_f207]
def q_fs13 : List (List (List (Option q_In))) := [q_f208, q_f209, q_f210, q_f211, q_f212, q_f213, q_f214, q_f215, q_f216, q_f217, q_f218, q_f219, q_f220, q_f221, q_f222, q_f223]
def q_fs14 : List (List (List (Option q_In))) := [q_f224, q_f225, q_f226]
def q_fs : List (List (List (List (Option q_In)))) := [q_fs0, q_fs1, q_fs2, q_fs3, q_fs4, q_fs5, q_fs6, q_fs7, q_fs8, q_fs9, q_fs10, q_fs11, q_fs12, q_fs13, q_fs14]
def q_fe (j pc : Nat) : Option q_In := (((((q_fs.getD (j / 16) []).getD (j % 16) []).getD (pc / 16) []).getD (pc % 16) none))
end
section
def q_cn (c : Nat) : String := match c with
  | 0 => RX0
  | 1 => RX1
  | 2 => RX2
  | 3 => RX3
  | 4 => RX4
  | 5 => RX5
  | 6 => RX6
  | 7 => RX7
  | 8 => RX8
  | 9 => RX9
  | _ => RX10
def q_T (c : Nat) : u_T := match c with
  | 0 => TX0
  | 1 => TX1
  | 2 => TX2
  | 3 => TX3
  | 4 => TX4
  | 5 => TX5
  | 6 => TX6
  | 7 => TX7
  | 8 => TX8
  | 9 => TX9
  | _ => TX10
def q_tyf (c : Nat) : Nat → FieldType := match c with
  | 0 => tyX0
  | 1 => tyX1
  | 2 => tyX2
  | 3 => tyX3
  | 4 => tyX4
  | 5 => tyX5
  | 6 => tyX6
  | 7 => tyX7
  | 8 => tyX8
  | 9 => tyX9
  | _ => tyX10
def q_N (c : Nat) : Nat := match c with
  | 0 => 2
  | 1 => 8
  | 2 => 5
  | 3 => 6
  | 4 => 8
  | 5 => 11
  | 6 => 4
  | 7 => 6
  | 8 => 2
  | 9 => 14
  | _ => 37
def q_own (j : Nat) : String := (q_m j).1.1.cls
def q_tb (k : Nat) : List Cond := match k with
  | 0 => k2_sels lw_privs
  | 1 => tables_1_1
  | 2 => tables_1_2
  | 3 => tables_1_3
  | 4 => tables_1_4
  | 5 => tables_1_5
  | _ => tables_1_6
theorem q_tb_in {k : Nat} {w : Cond} (h : w ∈ q_tb k) : w ∈ lw_tbl := by
  unfold q_tb at h
  unfold lw_tbl tables_1
  simp only [List.mem_append]
  split at h
  · exact Or.inl h
  · exact Or.inr (Or.inl h)
  · exact Or.inr (Or.inr (Or.inl h))
  · exact Or.inr (Or.inr (Or.inr (Or.inl h)))
  · exact Or.inr (Or.inr (Or.inr (Or.inr (Or.inl h))))
  · exact Or.inr (Or.inr (Or.inr (Or.inr (Or.inr (Or.inl h)))))
  · exact Or.inr (Or.inr (Or.inr (Or.inr (Or.inr (Or.inr h)))))
/-- an instruction's length; 0: a switch, or not used -/
def q_ln (i : Instr) : Nat := match i with
  | .bipush _ | .ldc _ | .iload _ | .lload _ | .aload _ | .istore _ | .lstore _ | .astore _ | .newarray _ => 2
  | .sipush _ | .ldc_w _ | .ldc2_w _ | .iinc _ _ | .goto _ | .ifCond _ _ | .if_icmp _ _ | .getfield _ | .putfield _ | .invokevirtual _ | .invokestatic _ | .invokespecial _ | .new _ | .anewarray _ => 3
  | .tableswitch _ _ _ _ | .lookupswitch _ _ => 0
  | _ => 1
/-- one instruction of a method: it decodes so, and its word is among the tables' -/
def q_ckI (j pc : Nat) (e : q_In) : Bool :=
  (match decode (q_m j).1.2.1 pc with
    | .ok (i, n) => decide (i = e.1) && (n == e.2.1)
    | _ => false) && ((q_ln e.1 == 0 || q_ln e.1 == e.2.1) &&
  (match e.1 with
    | .getfield idx => decide (e.2.2.1 < 11) && (decide (e.2.2.2.1 < q_N e.2.2.1) && decide ((q_tb (e.2.2.2.2 / 1000))[e.2.2.2.2 % 1000]? = some (.fieldLink (q_own j) idx (q_T e.2.2.1 e.2.2.2.1).1 (q_T e.2.2.1 e.2.2.2.1).2.1 (q_T e.2.2.1 e.2.2.2.1).2.2.1)))
    | .putfield idx => decide (e.2.2.1 < 11) && (decide (e.2.2.2.1 < q_N e.2.2.1) && decide ((q_tb (e.2.2.2.2 / 1000))[e.2.2.2.2 % 1000]? = some (.fieldLink (q_own j) idx (q_T e.2.2.1 e.2.2.2.1).1 (q_T e.2.2.1 e.2.2.2.1).2.1 (q_T e.2.2.1 e.2.2.2.1).2.2.1))) && (!(q_T e.2.2.1 e.2.2.2.1).2.2.2 || (decide ((q_T e.2.2.1 e.2.2.2.1).1 = q_own j) && decide ((q_m j).1.1.name = "<init>")))
    | .invokevirtual idx => decide (e.2.2.1 < 226) && ((q_m e.2.2.1).2.1.2.1 == 0) && decide ((q_tb (e.2.2.2.2 / 1000))[e.2.2.2.2 % 1000]? = some (.methodLink (q_own j) idx (q_m e.2.2.1).1.1))
    | .invokestatic idx => if e.2.2.1 = 301 then decide ((q_tb (e.2.2.2.2 / 1000))[e.2.2.2.2 % 1000]? = some (.methodLink (q_own j) idx arraycopyName)) else if e.2.2.1 = 302 then decide ((q_tb (e.2.2.2.2 / 1000))[e.2.2.2.2 % 1000]? = some (.methodLink (q_own j) idx Lib.Math.max.name)) else if e.2.2.1 = 303 then decide ((q_tb (e.2.2.2.2 / 1000))[e.2.2.2.2 % 1000]? = some (.methodLink (q_own j) idx Lib.Math.min.name)) else decide (e.2.2.1 < 226) && ((q_m e.2.2.1).2.1.2.1 == 1) && decide ((q_tb (e.2.2.2.2 / 1000))[e.2.2.2.2 % 1000]? = some (.methodLink (q_own j) idx (q_m e.2.2.1).1.1))
    | .invokespecial idx => if e.2.2.1 = 300 then decide ((q_tb (e.2.2.2.2 / 1000))[e.2.2.2.2 % 1000]? = some (.methodLink (q_own j) idx Lib.objectInit)) else decide (e.2.2.1 < 226) && ((q_m e.2.2.1).2.1.2.1 == 2) && (if e.2.2.2.1 = 1 then decide ((q_tb (e.2.2.2.2 / 1000))[e.2.2.2.2 % 1000]? = some (.methodLinkNest (q_own j) idx (q_m e.2.2.1).1.1 "PluginChains")) else decide ((q_tb (e.2.2.2.2 / 1000))[e.2.2.2.2 % 1000]? = some (.methodLink (q_own j) idx (q_m e.2.2.1).1.1)))
    | .new idx => decide (e.2.2.1 < 11) && decide ((q_tb (e.2.2.2.2 / 1000))[e.2.2.2.2 % 1000]? = some (.classLink (q_own j) idx (q_cn e.2.2.1)))
    | .anewarray idx => (e.2.2.1 == 5 || (e.2.2.1 == 2 || e.2.2.1 == 6)) && decide ((q_tb (e.2.2.2.2 / 1000))[e.2.2.2.2 % 1000]? = some (.classLink (q_own j) idx (q_cn e.2.2.1)))
    | .ldc idx => decide ((q_tb (e.2.2.2.2 / 1000))[e.2.2.2.2 % 1000]? = some (.constant (q_own j) idx (Int32.ofNat e.2.2.1)))
    | .ldc_w idx => decide ((q_tb (e.2.2.2.2 / 1000))[e.2.2.2.2 % 1000]? = some (.constant (q_own j) idx (Int32.ofNat e.2.2.1)))
    | .ldc2_w idx => decide ((q_tb (e.2.2.2.2 / 1000))[e.2.2.2.2 % 1000]? = some (.constantLong (q_own j) idx (Int64.ofNat e.2.2.1)))
    | .lookupswitch _ ps => (ps.toList.zip (ps.toList.drop 1)).all (fun (a, next) => a.1 < next.1)
    | .tableswitch _ lo hi os => decide ((os.size : Int) = hi - lo + 1)
    | .goto off => decide ((pc : Int) + off = (e.2.2.1 : Int))
    | .ifCond _ off => decide ((pc : Int) + off = (e.2.2.1 : Int))
    | .if_icmp _ off => decide ((pc : Int) + off = (e.2.2.1 : Int))
    | _ => true))
def q_len (j : Nat) : Nat := ((q_fs.getD (j / 16) []).getD (j % 16) []).length
def q_ck (j : Nat) : Bool := (List.range (16 * q_len j)).all fun pc => match q_fe j pc with
  | none => true
  | some e => q_ckI j pc e
def q_cw (j : Nat) : Prop := (q_tb ((q_m j).2.2.2.1 / 1000))[(q_m j).2.2.2.1 % 1000]? = some (.code (q_m j).1.1 (q_m j).1.2.1 (q_m j).1.2.2.1 (q_m j).1.2.2.2)
theorem q_mmw : Cond.static Lib.Math.max.name ∈ lw_tbl ∧ Cond.static Lib.Math.min.name ∈ lw_tbl ∧ Cond.initialized "java/lang/Math" ∈ lw_tbl ∧ Cond.native arraycopyName ∈ lw_tbl ∧ Cond.static arraycopyName ∈ lw_tbl ∧ Cond.initialized "java/lang/System" ∈ lw_tbl ∧ Cond.instanceMethod Lib.objectInit ∈ lw_tbl ∧ Cond.arrayClass .int ∈ lw_tbl ∧ Cond.arrayClass .long ∈ lw_tbl ∧ Cond.arrayOver (.object RX5) ∈ lw_tbl ∧ Cond.arrayOver (.object RX2) ∈ lw_tbl ∧ Cond.arrayOver (.object RX6) ∈ lw_tbl := ⟨by decide +kernel, by decide +kernel, by decide +kernel, by decide +kernel, by decide +kernel, by decide +kernel, by decide +kernel, by decide +kernel, by decide +kernel, by decide +kernel, by decide +kernel, by decide +kernel⟩
theorem q_mmc : Cond.code Lib.Math.max.name Lib.Math.max.code 2 (some .int) ∈ lw_tbl ∧ Cond.code Lib.Math.min.name Lib.Math.min.code 2 (some .int) ∈ lw_tbl ∧ Cond.code Lib.objectInit ⟨#[0xb1]⟩ 1 none ∈ lw_tbl := ⟨q_tb_in (k := 3) (List.mem_of_getElem? (i := 19) rfl), q_tb_in (k := 4) (List.mem_of_getElem? (i := 128) rfl), q_tb_in (k := 1) (List.mem_of_getElem? (i := 23) rfl)⟩
theorem q_uws : ∀ c, c < 11 → ∀ w ∈ u_ws (q_cn c) (q_T c) (q_N c), w ∈ lw_tbl := fun c h => match c, h with
  | 0, _ => by decide +kernel
  | 1, _ => by decide +kernel
  | 2, _ => by decide +kernel
  | 3, _ => by decide +kernel
  | 4, _ => by decide +kernel
  | 5, _ => by decide +kernel
  | 6, _ => by decide +kernel
  | 7, _ => by decide +kernel
  | 8, _ => by decide +kernel
  | 9, _ => by decide +kernel
  | 10, _ => by decide +kernel
  | c + 11, h => absurd h (by omega)
theorem q_clc : ∀ c, c < 11 → vwCl[c]? = some (q_cn c, q_T c, q_N c) := fun c h => match c, h with
  | 0, _ => rfl
  | 1, _ => rfl
  | 2, _ => rfl
  | 3, _ => rfl
  | 4, _ => rfl
  | 5, _ => rfl
  | 6, _ => rfl
  | 7, _ => rfl
  | 8, _ => rfl
  | 9, _ => rfl
  | 10, _ => rfl
  | c + 11, h => absurd h (by omega)
theorem q_tys : ∀ c, c < 11 → ∀ k, k < q_N c → parseFieldDescriptor (q_T c k).2.2.1 = some (q_tyf c k) := fun c h => match c, h with
  | 0, _ => tyX0_ok
  | 1, _ => tyX1_ok
  | 2, _ => tyX2_ok
  | 3, _ => tyX3_ok
  | 4, _ => tyX4_ok
  | 5, _ => tyX5_ok
  | 6, _ => tyX6_ok
  | 7, _ => tyX7_ok
  | 8, _ => tyX8_ok
  | 9, _ => tyX9_ok
  | 10, _ => tyX10_ok
  | c + 11, h => absurd h (by omega)
theorem q_nms : ∀ c, c < 11 → ∀ a, a < q_N c → ∀ b, b < q_N c → a ≠ b → (q_T c a).2.1 ≠ (q_T c b).2.1 := fun c h => match c, h with
  | 0, _ => nmX0
  | 1, _ => nmX1
  | 2, _ => nmX2
  | 3, _ => nmX3
  | 4, _ => nmX4
  | 5, _ => nmX5
  | 6, _ => nmX6
  | 7, _ => nmX7
  | 8, _ => nmX8
  | 9, _ => nmX9
  | 10, _ => nmX10
  | c + 11, h => absurd h (by omega)
theorem q_fks : ∀ c, c < 11 → ∀ k, k < q_N c → (match q_tyf c k with | .int => True | .boolean => True | .object _ => True | .array _ => True | _ => False) := fun c h => match c, h with
  | 0, _ => by intro k hk; have hk : k < 2 := hk; match k, hk with | 0, _ => exact trivial | 1, _ => exact trivial | n + 2, h => exact absurd h (by omega)
  | 1, _ => by intro k hk; have hk : k < 8 := hk; match k, hk with | 0, _ => exact trivial | 1, _ => exact trivial | 2, _ => exact trivial | 3, _ => exact trivial | 4, _ => exact trivial | 5, _ => exact trivial | 6, _ => exact trivial | 7, _ => exact trivial | n + 8, h => exact absurd h (by omega)
  | 2, _ => by intro k hk; have hk : k < 5 := hk; match k, hk with | 0, _ => exact trivial | 1, _ => exact trivial | 2, _ => exact trivial | 3, _ => exact trivial | 4, _ => exact trivial | n + 5, h => exact absurd h (by omega)
  | 3, _ => by intro k hk; have hk : k < 6 := hk; match k, hk with | 0, _ => exact trivial | 1, _ => exact trivial | 2, _ => exact trivial | 3, _ => exact trivial | 4, _ => exact trivial | 5, _ => exact trivial | n + 6, h => exact absurd h (by omega)
  | 4, _ => by intro k hk; have hk : k < 8 := hk; match k, hk with | 0, _ => exact trivial | 1, _ => exact trivial | 2, _ => exact trivial | 3, _ => exact trivial | 4, _ => exact trivial | 5, _ => exact trivial | 6, _ => exact trivial | 7, _ => exact trivial | n + 8, h => exact absurd h (by omega)
  | 5, _ => by intro k hk; have hk : k < 11 := hk; match k, hk with | 0, _ => exact trivial | 1, _ => exact trivial | 2, _ => exact trivial | 3, _ => exact trivial | 4, _ => exact trivial | 5, _ => exact trivial | 6, _ => exact trivial | 7, _ => exact trivial | 8, _ => exact trivial | 9, _ => exact trivial | 10, _ => exact trivial | n + 11, h => exact absurd h (by omega)
  | 6, _ => by intro k hk; have hk : k < 4 := hk; match k, hk with | 0, _ => exact trivial | 1, _ => exact trivial | 2, _ => exact trivial | 3, _ => exact trivial | n + 4, h => exact absurd h (by omega)
  | 7, _ => by intro k hk; have hk : k < 6 := hk; match k, hk with | 0, _ => exact trivial | 1, _ => exact trivial | 2, _ => exact trivial | 3, _ => exact trivial | 4, _ => exact trivial | 5, _ => exact trivial | n + 6, h => exact absurd h (by omega)
  | 8, _ => by intro k hk; have hk : k < 2 := hk; match k, hk with | 0, _ => exact trivial | 1, _ => exact trivial | n + 2, h => exact absurd h (by omega)
  | 9, _ => by intro k hk; have hk : k < 14 := hk; match k, hk with | 0, _ => exact trivial | 1, _ => exact trivial | 2, _ => exact trivial | 3, _ => exact trivial | 4, _ => exact trivial | 5, _ => exact trivial | 6, _ => exact trivial | 7, _ => exact trivial | 8, _ => exact trivial | 9, _ => exact trivial | 10, _ => exact trivial | 11, _ => exact trivial | 12, _ => exact trivial | 13, _ => exact trivial | n + 14, h => exact absurd h (by omega)
  | 10, _ => by intro k hk; have hk : k < 37 := hk; match k, hk with | 0, _ => exact trivial | 1, _ => exact trivial | 2, _ => exact trivial | 3, _ => exact trivial | 4, _ => exact trivial | 5, _ => exact trivial | 6, _ => exact trivial | 7, _ => exact trivial | 8, _ => exact trivial | 9, _ => exact trivial | 10, _ => exact trivial | 11, _ => exact trivial | 12, _ => exact trivial | 13, _ => exact trivial | 14, _ => exact trivial | 15, _ => exact trivial | 16, _ => exact trivial | 17, _ => exact trivial | 18, _ => exact trivial | 19, _ => exact trivial | 20, _ => exact trivial | 21, _ => exact trivial | 22, _ => exact trivial | 23, _ => exact trivial | 24, _ => exact trivial | 25, _ => exact trivial | 26, _ => exact trivial | 27, _ => exact trivial | 28, _ => exact trivial | 29, _ => exact trivial | 30, _ => exact trivial | 31, _ => exact trivial | 32, _ => exact trivial | 33, _ => exact trivial | 34, _ => exact trivial | 35, _ => exact trivial | 36, _ => exact trivial | n + 37, h => exact absurd h (by omega)
  | c + 11, h => absurd h (by omega)
/-- what the tables say of a method -/
def q_ckM (j : Nat) : Bool :=
  plainFor (q_m j).1.1 && (decide ((q_own j) ≠ "java/lang/invoke/MethodHandle" ∧ (q_own j) ≠ "java/lang/invoke/VarHandle") && (decide ((parseMethodDescriptor (q_m j).1.1.desc).map (fun d => d.parameters.length) = some (q_m j).2.1.1) && (Nat.ble (q_m j).1.2.2.1 30 &&
  (decide ((q_tb ((q_m j).2.2.2.2.2.2 / 1000))[(q_m j).2.2.2.2.2.2 % 1000]? = some (.initialized (q_own j))) &&
  (match (q_m j).2.1.2.1 with
    | 0 => decide ((q_tb ((q_m j).2.2.2.2.1 / 1000))[(q_m j).2.2.2.2.1 % 1000]? = some (.instanceMethod (q_m j).1.1)) && (decide ((q_tb ((q_m j).2.2.2.2.2.1 / 1000))[(q_m j).2.2.2.2.2.1 % 1000]? = some (.selects (q_own j) (q_m j).1.1 (q_m j).1.1)) && (Nat.blt (q_m j).2.1.2.2.1 11 && decide (q_cn (q_m j).2.1.2.2.1 = q_own j)))
    | 1 => decide ((q_tb ((q_m j).2.2.2.2.1 / 1000))[(q_m j).2.2.2.2.1 % 1000]? = some (.static (q_m j).1.1))
    | 2 => decide ((q_tb ((q_m j).2.2.2.2.1 / 1000))[(q_m j).2.2.2.2.1 % 1000]? = some (.instanceMethod (q_m j).1.1)) && (decide ((q_m j).1.1.name = "<init>") && decide ((q_m j).1.2.2.2 = none))
    | _ => false)))))
theorem q_ckM_ok : ((List.range 226).all q_ckM) = true := by decide +kernel
theorem q_ckN_ok : ((List.range 11).all fun c => (decide (Cond.instantiable (q_cn c) (q_N c) ∈ lw_tbl) && decide (Cond.initialized (q_cn c) ∈ lw_tbl))) = true := by decide +kernel
theorem q_ck_dec {j pc : Nat} {e : q_In} (h : q_ckI j pc e = true) : decode (q_m j).1.2.1 pc = .ok (e.1, e.2.1) ∧ (q_ln e.1 = 0 ∨ q_ln e.1 = e.2.1) := by
  unfold q_ckI at h
  simp only [Bool.and_eq_true, Bool.or_eq_true, beq_iff_eq] at h
  obtain ⟨h1, h2, -⟩ := h
  refine ⟨?_, h2⟩
  split at h1
  · rename_i i n hd
    simp only [Bool.and_eq_true, decide_eq_true_eq, beq_iff_eq] at h1
    rw [hd, h1.1, h1.2]
  · cases h1
def q_ckB (j c : Nat) : Bool := (List.range 16).all fun k => match q_fe j (16 * c + k) with
  | none => true
  | some e => q_ckI j (16 * c + k) e
end
section
set_option maxRecDepth 20000 in
theorem q_cwB0 : ∀ k, k < 16 → q_cw (0 + k) := fun k h => match k, h with
  | 0, _ => (rfl : (q_tb _)[_]? = _)
  | 1, _ => (rfl : (q_tb _)[_]? = _)
  | 2, _ => (rfl : (q_tb _)[_]? = _)
  | 3, _ => (rfl : (q_tb _)[_]? = _)
  | 4, _ => (rfl : (q_tb _)[_]? = _)
  | 5, _ => (rfl : (q_tb _)[_]? = _)
  | 6, _ => (rfl : (q_tb _)[_]? = _)
  | 7, _ => (rfl : (q_tb _)[_]? = _)
  | 8, _ => (rfl : (q_tb _)[_]? = _)
  | 9, _ => (rfl : (q_tb _)[_]? = _)
  | 10, _ => (rfl : (q_tb _)[_]? = _)
  | 11, _ => (rfl : (q_tb _)[_]? = _)
  | 12, _ => (rfl : (q_tb _)[_]? = _)
  | 13, _ => (rfl : (q_tb _)[_]? = _)
  | 14, _ => (rfl : (q_tb _)[_]? = _)
  | 15, _ => (rfl : (q_tb _)[_]? = _)
  | k + 16, h => absurd h (by omega)
set_option maxRecDepth 20000 in
theorem q_cwB1 : ∀ k, k < 16 → q_cw (16 + k) := fun k h => match k, h with
  | 0, _ => (rfl : (q_tb _)[_]? = _)
  | 1, _ => (rfl : (q_tb _)[_]? = _)
  | 2, _ => (rfl : (q_tb _)[_]? = _)
  | 3, _ => (rfl : (q_tb _)[_]? = _)
  | 4, _ => (rfl : (q_tb _)[_]? = _)
  | 5, _ => (rfl : (q_tb _)[_]? = _)
  | 6, _ => (rfl : (q_tb _)[_]? = _)
  | 7, _ => (rfl : (q_tb _)[_]? = _)
  | 8, _ => (rfl : (q_tb _)[_]? = _)
  | 9, _ => (rfl : (q_tb _)[_]? = _)
  | 10, _ => (rfl : (q_tb _)[_]? = _)
  | 11, _ => (rfl : (q_tb _)[_]? = _)
  | 12, _ => (rfl : (q_tb _)[_]? = _)
  | 13, _ => (rfl : (q_tb _)[_]? = _)
  | 14, _ => (rfl : (q_tb _)[_]? = _)
  | 15, _ => (rfl : (q_tb _)[_]? = _)
  | k + 16, h => absurd h (by omega)
set_option maxRecDepth 20000 in
theorem q_cwB2 : ∀ k, k < 16 → q_cw (32 + k) := fun k h => match k, h with
  | 0, _ => (rfl : (q_tb _)[_]? = _)
  | 1, _ => (rfl : (q_tb _)[_]? = _)
  | 2, _ => (rfl : (q_tb _)[_]? = _)
  | 3, _ => (rfl : (q_tb _)[_]? = _)
  | 4, _ => (rfl : (q_tb _)[_]? = _)
  | 5, _ => (rfl : (q_tb _)[_]? = _)
  | 6, _ => (rfl : (q_tb _)[_]? = _)
  | 7, _ => (rfl : (q_tb _)[_]? = _)
  | 8, _ => (rfl : (q_tb _)[_]? = _)
  | 9, _ => (rfl : (q_tb _)[_]? = _)
  | 10, _ => (rfl : (q_tb _)[_]? = _)
  | 11, _ => (rfl : (q_tb _)[_]? = _)
  | 12, _ => (rfl : (q_tb _)[_]? = _)
  | 13, _ => (rfl : (q_tb _)[_]? = _)
  | 14, _ => (rfl : (q_tb _)[_]? = _)
  | 15, _ => (rfl : (q_tb _)[_]? = _)
  | k + 16, h => absurd h (by omega)
set_option maxRecDepth 20000 in
theorem q_cwB3 : ∀ k, k < 16 → q_cw (48 + k) := fun k h => match k, h with
  | 0, _ => (rfl : (q_tb _)[_]? = _)
  | 1, _ => (rfl : (q_tb _)[_]? = _)
  | 2, _ => (rfl : (q_tb _)[_]? = _)
  | 3, _ => (rfl : (q_tb _)[_]? = _)
  | 4, _ => (rfl : (q_tb _)[_]? = _)
  | 5, _ => (rfl : (q_tb _)[_]? = _)
  | 6, _ => (rfl : (q_tb _)[_]? = _)
  | 7, _ => (rfl : (q_tb _)[_]? = _)
  | 8, _ => (rfl : (q_tb _)[_]? = _)
  | 9, _ => (rfl : (q_tb _)[_]? = _)
  | 10, _ => (rfl : (q_tb _)[_]? = _)
  | 11, _ => (rfl : (q_tb _)[_]? = _)
  | 12, _ => (rfl : (q_tb _)[_]? = _)
  | 13, _ => (rfl : (q_tb _)[_]? = _)
  | 14, _ => (rfl : (q_tb _)[_]? = _)
  | 15, _ => (rfl : (q_tb _)[_]? = _)
  | k + 16, h => absurd h (by omega)
set_option maxRecDepth 20000 in
theorem q_cwB4 : ∀ k, k < 16 → q_cw (64 + k) := fun k h => match k, h with
  | 0, _ => (rfl : (q_tb _)[_]? = _)
  | 1, _ => (rfl : (q_tb _)[_]? = _)
  | 2, _ => (rfl : (q_tb _)[_]? = _)
  | 3, _ => (rfl : (q_tb _)[_]? = _)
  | 4, _ => (rfl : (q_tb _)[_]? = _)
  | 5, _ => (rfl : (q_tb _)[_]? = _)
  | 6, _ => (rfl : (q_tb _)[_]? = _)
  | 7, _ => (rfl : (q_tb _)[_]? = _)
  | 8, _ => (rfl : (q_tb _)[_]? = _)
  | 9, _ => (rfl : (q_tb _)[_]? = _)
  | 10, _ => (rfl : (q_tb _)[_]? = _)
  | 11, _ => (rfl : (q_tb _)[_]? = _)
  | 12, _ => (rfl : (q_tb _)[_]? = _)
  | 13, _ => (rfl : (q_tb _)[_]? = _)
  | 14, _ => (rfl : (q_tb _)[_]? = _)
  | 15, _ => (rfl : (q_tb _)[_]? = _)
  | k + 16, h => absurd h (by omega)
set_option maxRecDepth 20000 in
theorem q_cwB5 : ∀ k, k < 16 → q_cw (80 + k) := fun k h => match k, h with
  | 0, _ => (rfl : (q_tb _)[_]? = _)
  | 1, _ => (rfl : (q_tb _)[_]? = _)
  | 2, _ => (rfl : (q_tb _)[_]? = _)
  | 3, _ => (rfl : (q_tb _)[_]? = _)
  | 4, _ => (rfl : (q_tb _)[_]? = _)
  | 5, _ => (rfl : (q_tb _)[_]? = _)
  | 6, _ => (rfl : (q_tb _)[_]? = _)
  | 7, _ => (rfl : (q_tb _)[_]? = _)
  | 8, _ => (rfl : (q_tb _)[_]? = _)
  | 9, _ => (rfl : (q_tb _)[_]? = _)
  | 10, _ => (rfl : (q_tb _)[_]? = _)
  | 11, _ => (rfl : (q_tb _)[_]? = _)
  | 12, _ => (rfl : (q_tb _)[_]? = _)
  | 13, _ => (rfl : (q_tb _)[_]? = _)
  | 14, _ => (rfl : (q_tb _)[_]? = _)
  | 15, _ => (rfl : (q_tb _)[_]? = _)
  | k + 16, h => absurd h (by omega)
set_option maxRecDepth 20000 in
theorem q_cwB6 : ∀ k, k < 16 → q_cw (96 + k) := fun k h => match k, h with
  | 0, _ => (rfl : (q_tb _)[_]? = _)
  | 1, _ => (rfl : (q_tb _)[_]? = _)
  | 2, _ => (rfl : (q_tb _)[_]? = _)
  | 3, _ => (rfl : (q_tb _)[_]? = _)
  | 4, _ => (rfl : (q_tb _)[_]? = _)
  | 5, _ => (rfl : (q_tb _)[_]? = _)
  | 6, _ => (rfl : (q_tb _)[_]? = _)
  | 7, _ => (rfl : (q_tb _)[_]? = _)
  | 8, _ => (rfl : (q_tb _)[_]? = _)
  | 9, _ => (rfl : (q_tb _)[_]? = _)
  | 10, _ => (rfl : (q_tb _)[_]? = _)
  | 11, _ => (rfl : (q_tb _)[_]? = _)
  | 12, _ => (rfl : (q_tb _)[_]? = _)
  | 13, _ => (rfl : (q_tb _)[_]? = _)
  | 14, _ => (rfl : (q_tb _)[_]? = _)
  | 15, _ => (rfl : (q_tb _)[_]? = _)
  | k + 16, h => absurd h (by omega)
set_option maxRecDepth 20000 in
theorem q_cwB7 : ∀ k, k < 16 → q_cw (112 + k) := fun k h => match k, h with
  | 0, _ => (rfl : (q_tb _)[_]? = _)
  | 1, _ => (rfl : (q_tb _)[_]? = _)
  | 2, _ => (rfl : (q_tb _)[_]? = _)
  | 3, _ => (rfl : (q_tb _)[_]? = _)
  | 4, _ => (rfl : (q_tb _)[_]? = _)
  | 5, _ => (rfl : (q_tb _)[_]? = _)
  | 6, _ => (rfl : (q_tb _)[_]? = _)
  | 7, _ => (rfl : (q_tb _)[_]? = _)
  | 8, _ => (rfl : (q_tb _)[_]? = _)
  | 9, _ => (rfl : (q_tb _)[_]? = _)
  | 10, _ => (rfl : (q_tb _)[_]? = _)
  | 11, _ => (rfl : (q_tb _)[_]? = _)
  | 12, _ => (rfl : (q_tb _)[_]? = _)
  | 13, _ => (rfl : (q_tb _)[_]? = _)
  | 14, _ => (rfl : (q_tb _)[_]? = _)
  | 15, _ => (rfl : (q_tb _)[_]? = _)
  | k + 16, h => absurd h (by omega)
set_option maxRecDepth 20000 in
theorem q_cwB8 : ∀ k, k < 16 → q_cw (128 + k) := fun k h => match k, h with
  | 0, _ => (rfl : (q_tb _)[_]? = _)
  | 1, _ => (rfl : (q_tb _)[_]? = _)
  | 2, _ => (rfl : (q_tb _)[_]? = _)
  | 3, _ => (rfl : (q_tb _)[_]? = _)
  | 4, _ => (rfl : (q_tb _)[_]? = _)
  | 5, _ => (rfl : (q_tb _)[_]? = _)
  | 6, _ => (rfl : (q_tb _)[_]? = _)
  | 7, _ => (rfl : (q_tb _)[_]? = _)
  | 8, _ => (rfl : (q_tb _)[_]? = _)
  | 9, _ => (rfl : (q_tb _)[_]? = _)
  | 10, _ => (rfl : (q_tb _)[_]? = _)
  | 11, _ => (rfl : (q_tb _)[_]? = _)
  | 12, _ => (rfl : (q_tb _)[_]? = _)
  | 13, _ => (rfl : (q_tb _)[_]? = _)
  | 14, _ => (rfl : (q_tb _)[_]? = _)
  | 15, _ => (rfl : (q_tb _)[_]? = _)
  | k + 16, h => absurd h (by omega)
set_option maxRecDepth 20000 in
theorem q_cwB9 : ∀ k, k < 16 → q_cw (144 + k) := fun k h => match k, h with
  | 0, _ => (rfl : (q_tb _)[_]? = _)
  | 1, _ => (rfl : (q_tb _)[_]? = _)
  | 2, _ => (rfl : (q_tb _)[_]? = _)
  | 3, _ => (rfl : (q_tb _)[_]? = _)
  | 4, _ => (rfl : (q_tb _)[_]? = _)
  | 5, _ => (rfl : (q_tb _)[_]? = _)
  | 6, _ => (rfl : (q_tb _)[_]? = _)
  | 7, _ => (rfl : (q_tb _)[_]? = _)
  | 8, _ => (rfl : (q_tb _)[_]? = _)
  | 9, _ => (rfl : (q_tb _)[_]? = _)
  | 10, _ => (rfl : (q_tb _)[_]? = _)
  | 11, _ => (rfl : (q_tb _)[_]? = _)
  | 12, _ => (rfl : (q_tb _)[_]? = _)
  | 13, _ => (rfl : (q_tb _)[_]? = _)
  | 14, _ => (rfl : (q_tb _)[_]? = _)
  | 15, _ => (rfl : (q_tb _)[_]? = _)
  | k + 16, h => absurd h (by omega)
set_option maxRecDepth 20000 in
theorem q_cwB10 : ∀ k, k < 16 → q_cw (160 + k) := fun k h => match k, h with
  | 0, _ => (rfl : (q_tb _)[_]? = _)
  | 1, _ => (rfl : (q_tb _)[_]? = _)
  | 2, _ => (rfl : (q_tb _)[_]? = _)
  | 3, _ => (rfl : (q_tb _)[_]? = _)
  | 4, _ => (rfl : (q_tb _)[_]? = _)
  | 5, _ => (rfl : (q_tb _)[_]? = _)
  | 6, _ => (rfl : (q_tb _)[_]? = _)
  | 7, _ => (rfl : (q_tb _)[_]? = _)
  | 8, _ => (rfl : (q_tb _)[_]? = _)
  | 9, _ => (rfl : (q_tb _)[_]? = _)
  | 10, _ => (rfl : (q_tb _)[_]? = _)
  | 11, _ => (rfl : (q_tb _)[_]? = _)
  | 12, _ => (rfl : (q_tb _)[_]? = _)
  | 13, _ => (rfl : (q_tb _)[_]? = _)
  | 14, _ => (rfl : (q_tb _)[_]? = _)
  | 15, _ => (rfl : (q_tb _)[_]? = _)
  | k + 16, h => absurd h (by omega)
set_option maxRecDepth 20000 in
theorem q_cwB11 : ∀ k, k < 16 → q_cw (176 + k) := fun k h => match k, h with
  | 0, _ => (rfl : (q_tb _)[_]? = _)
  | 1, _ => (rfl : (q_tb _)[_]? = _)
  | 2, _ => (rfl : (q_tb _)[_]? = _)
  | 3, _ => (rfl : (q_tb _)[_]? = _)
  | 4, _ => (rfl : (q_tb _)[_]? = _)
  | 5, _ => (rfl : (q_tb _)[_]? = _)
  | 6, _ => (rfl : (q_tb _)[_]? = _)
  | 7, _ => (rfl : (q_tb _)[_]? = _)
  | 8, _ => (rfl : (q_tb _)[_]? = _)
  | 9, _ => (rfl : (q_tb _)[_]? = _)
  | 10, _ => (rfl : (q_tb _)[_]? = _)
  | 11, _ => (rfl : (q_tb _)[_]? = _)
  | 12, _ => (rfl : (q_tb _)[_]? = _)
  | 13, _ => (rfl : (q_tb _)[_]? = _)
  | 14, _ => (rfl : (q_tb _)[_]? = _)
  | 15, _ => (rfl : (q_tb _)[_]? = _)
  | k + 16, h => absurd h (by omega)
set_option maxRecDepth 20000 in
theorem q_cwB12 : ∀ k, k < 16 → q_cw (192 + k) := fun k h => match k, h with
  | 0, _ => (rfl : (q_tb _)[_]? = _)
  | 1, _ => (rfl : (q_tb _)[_]? = _)
  | 2, _ => (rfl : (q_tb _)[_]? = _)
  | 3, _ => (rfl : (q_tb _)[_]? = _)
  | 4, _ => (rfl : (q_tb _)[_]? = _)
  | 5, _ => (rfl : (q_tb _)[_]? = _)
  | 6, _ => (rfl : (q_tb _)[_]? = _)
  | 7, _ => (rfl : (q_tb _)[_]? = _)
  | 8, _ => (rfl : (q_tb _)[_]? = _)
  | 9, _ => (rfl : (q_tb _)[_]? = _)
  | 10, _ => (rfl : (q_tb _)[_]? = _)
  | 11, _ => (rfl : (q_tb _)[_]? = _)
  | 12, _ => (rfl : (q_tb _)[_]? = _)
  | 13, _ => (rfl : (q_tb _)[_]? = _)
  | 14, _ => (rfl : (q_tb _)[_]? = _)
  | 15, _ => (rfl : (q_tb _)[_]? = _)
  | k + 16, h => absurd h (by omega)
set_option maxRecDepth 20000 in
theorem q_cwB13 : ∀ k, k < 16 → q_cw (208 + k) := fun k h => match k, h with
  | 0, _ => (rfl : (q_tb _)[_]? = _)
  | 1, _ => (rfl : (q_tb _)[_]? = _)
  | 2, _ => (rfl : (q_tb _)[_]? = _)
  | 3, _ => (rfl : (q_tb _)[_]? = _)
  | 4, _ => (rfl : (q_tb _)[_]? = _)
  | 5, _ => (rfl : (q_tb _)[_]? = _)
  | 6, _ => (rfl : (q_tb _)[_]? = _)
  | 7, _ => (rfl : (q_tb _)[_]? = _)
  | 8, _ => (rfl : (q_tb _)[_]? = _)
  | 9, _ => (rfl : (q_tb _)[_]? = _)
  | 10, _ => (rfl : (q_tb _)[_]? = _)
  | 11, _ => (rfl : (q_tb _)[_]? = _)
  | 12, _ => (rfl : (q_tb _)[_]? = _)
  | 13, _ => (rfl : (q_tb _)[_]? = _)
  | 14, _ => (rfl : (q_tb _)[_]? = _)
  | 15, _ => (rfl : (q_tb _)[_]? = _)
  | k + 16, h => absurd h (by omega)
set_option maxRecDepth 20000 in
theorem q_cwB14 : ∀ k, k < 2 → q_cw (224 + k) := fun k h => match k, h with
  | 0, _ => (rfl : (q_tb _)[_]? = _)
  | 1, _ => (rfl : (q_tb _)[_]? = _)
  | k + 2, h => absurd h (by omega)
theorem q_cw_ok (j : Nat) (h : j < 226) : q_cw j := by
  have e : j = 16 * (j / 16) + j % 16 := by omega
  have h1 : j % 16 < 16 := by omega
  have h2 : j / 16 < 15 := by omega
  rw [e]
  generalize j / 16 = a at *
  generalize j % 16 = b at *
  match a, h2 with
  | 0, _ => exact q_cwB0 b (by omega)
  | 1, _ => exact q_cwB1 b (by omega)
  | 2, _ => exact q_cwB2 b (by omega)
  | 3, _ => exact q_cwB3 b (by omega)
  | 4, _ => exact q_cwB4 b (by omega)
  | 5, _ => exact q_cwB5 b (by omega)
  | 6, _ => exact q_cwB6 b (by omega)
  | 7, _ => exact q_cwB7 b (by omega)
  | 8, _ => exact q_cwB8 b (by omega)
  | 9, _ => exact q_cwB9 b (by omega)
  | 10, _ => exact q_cwB10 b (by omega)
  | 11, _ => exact q_cwB11 b (by omega)
  | 12, _ => exact q_cwB12 b (by omega)
  | 13, _ => exact q_cwB13 b (by omega)
  | 14, _ => exact q_cwB14 b (by omega)
end
section
theorem q_ck0 : q_ck 0 = true := by decide +kernel
theorem q_ck1 : q_ck 1 = true := by decide +kernel
theorem q_ck2 : q_ck 2 = true := by decide +kernel
theorem q_ck3 : q_ck 3 = true := by decide +kernel
theorem q_ck4 : q_ck 4 = true := by decide +kernel
theorem q_ck5 : q_ck 5 = true := by decide +kernel
theorem q_ck6 : q_ck 6 = true := by decide +kernel
theorem q_ck7 : q_ck 7 = true := by decide +kernel
theorem q_ck8 : q_ck 8 = true := by decide +kernel
theorem q_ck9 : q_ck 9 = true := by decide +kernel
theorem q_ck10 : q_ck 10 = true := by decide +kernel
theorem q_ck11 : q_ck 11 = true := by decide +kernel
theorem q_ck12 : q_ck 12 = true := by decide +kernel
theorem q_ck13 : q_ck 13 = true := by decide +kernel
theorem q_ck14 : q_ck 14 = true := by decide +kernel
theorem q_ck15 : q_ck 15 = true := by decide +kernel
theorem q_ck16 : q_ck 16 = true := by decide +kernel
theorem q_ck17 : q_ck 17 = true := by decide +kernel
theorem q_ck18 : q_ck 18 = true := by decide +kernel
theorem q_ck19 : q_ck 19 = true := by decide +kernel
theorem q_ck20 : q_ck 20 = true := by decide +kernel
theorem q_ck21 : q_ck 21 = true := by decide +kernel
theorem q_ck22 : q_ck 22 = true := by decide +kernel
theorem q_ck23 : q_ck 23 = true := by decide +kernel
theorem q_ck24 : q_ck 24 = true := by decide +kernel
theorem q_ck25 : q_ck 25 = true := by decide +kernel
theorem q_ck26 : q_ck 26 = true := by decide +kernel
theorem q_ck27 : q_ck 27 = true := by decide +kernel
theorem q_ck28 : q_ck 28 = true := by decide +kernel
theorem q_ck29 : q_ck 29 = true := by decide +kernel
theorem q_ck30 : q_ck 30 = true := by decide +kernel
theorem q_ck31 : q_ck 31 = true := by decide +kernel
theorem q_ck32 : q_ck 32 = true := by decide +kernel
theorem q_ck33 : q_ck 33 = true := by decide +kernel
theorem q_ck34 : q_ck 34 = true := by decide +kernel
theorem q_ck35 : q_ck 35 = true := by decide +kernel
theorem q_ck36 : q_ck 36 = true := by decide +kernel
theorem q_ck37 : q_ck 37 = true := by decide +kernel
end
section
theorem q_ck38 : q_ck 38 = true := by decide +kernel
theorem q_ck39 : q_ck 39 = true := by decide +kernel
theorem q_ck40 : q_ck 40 = true := by decide +kernel
theorem q_ck41 : q_ck 41 = true := by decide +kernel
theorem q_ck42 : q_ck 42 = true := by decide +kernel
theorem q_ck43 : q_ck 43 = true := by decide +kernel
theorem q_ck44 : q_ck 44 = true := by decide +kernel
theorem q_ck45 : q_ck 45 = true := by decide +kernel
theorem q_ck46 : q_ck 46 = true := by decide +kernel
theorem q_ck47 : q_ck 47 = true := by decide +kernel
theorem q_ck48 : q_ck 48 = true := by decide +kernel
theorem q_ck49 : q_ck 49 = true := by decide +kernel
theorem q_ck50 : q_ck 50 = true := by decide +kernel
theorem q_ck51 : q_ck 51 = true := by decide +kernel
theorem q_ck52 : q_ck 52 = true := by decide +kernel
theorem q_ck53 : q_ck 53 = true := by decide +kernel
theorem q_ck54 : q_ck 54 = true := by decide +kernel
theorem q_ck55 : q_ck 55 = true := by decide +kernel
theorem q_ck56 : q_ck 56 = true := by decide +kernel
theorem q_ck57 : q_ck 57 = true := by decide +kernel
theorem q_ck58 : q_ck 58 = true := by decide +kernel
theorem q_ck59 : q_ck 59 = true := by decide +kernel
theorem q_ck60 : q_ck 60 = true := by decide +kernel
theorem q_ck61 : q_ck 61 = true := by decide +kernel
theorem q_ck62 : q_ck 62 = true := by decide +kernel
theorem q_ck63 : q_ck 63 = true := by decide +kernel
theorem q_ck64 : q_ck 64 = true := by decide +kernel
theorem q_ck65 : q_ck 65 = true := by decide +kernel
theorem q_ck66 : q_ck 66 = true := by decide +kernel
theorem q_ck67 : q_ck 67 = true := by decide +kernel
theorem q_ck68 : q_ck 68 = true := by decide +kernel
theorem q_ck69 : q_ck 69 = true := by decide +kernel
theorem q_ck70 : q_ck 70 = true := by decide +kernel
theorem q_ck71 : q_ck 71 = true := by decide +kernel
theorem q_ck72 : q_ck 72 = true := by decide +kernel
theorem q_ck73 : q_ck 73 = true := by decide +kernel
theorem q_ck74 : q_ck 74 = true := by decide +kernel
theorem q_ck75 : q_ck 75 = true := by decide +kernel
end
section
theorem q_ck76 : q_ck 76 = true := by decide +kernel
theorem q_ck77 : q_ck 77 = true := by decide +kernel
theorem q_ck78 : q_ck 78 = true := by decide +kernel
theorem q_ck79 : q_ck 79 = true := by decide +kernel
theorem q_ck80 : q_ck 80 = true := by decide +kernel
theorem q_ck81 : q_ck 81 = true := by decide +kernel
theorem q_ck82 : q_ck 82 = true := by decide +kernel
theorem q_ck83 : q_ck 83 = true := by decide +kernel
theorem q_ck84 : q_ck 84 = true := by decide +kernel
theorem q_ck85 : q_ck 85 = true := by decide +kernel
theorem q_ck86 : q_ck 86 = true := by decide +kernel
theorem q_ck87 : q_ck 87 = true := by decide +kernel
theorem q_ck88 : q_ck 88 = true := by decide +kernel
theorem q_ck89 : q_ck 89 = true := by decide +kernel
theorem q_ck90 : q_ck 90 = true := by decide +kernel
theorem q_ck91 : q_ck 91 = true := by decide +kernel
theorem q_ck92 : q_ck 92 = true := by decide +kernel
theorem q_ck93 : q_ck 93 = true := by decide +kernel
theorem q_ck94 : q_ck 94 = true := by decide +kernel
theorem q_ck95 : q_ck 95 = true := by decide +kernel
theorem q_ck96 : q_ck 96 = true := by decide +kernel
theorem q_ck97 : q_ck 97 = true := by decide +kernel
theorem q_ck98 : q_ck 98 = true := by decide +kernel
theorem q_ck99 : q_ck 99 = true := by decide +kernel
theorem q_ck100 : q_ck 100 = true := by decide +kernel
theorem q_ck101 : q_ck 101 = true := by decide +kernel
theorem q_ck102 : q_ck 102 = true := by decide +kernel
theorem q_ck103 : q_ck 103 = true := by decide +kernel
theorem q_ck104 : q_ck 104 = true := by decide +kernel
theorem q_ck105 : q_ck 105 = true := by decide +kernel
theorem q_ck106 : q_ck 106 = true := by decide +kernel
theorem q_ck107 : q_ck 107 = true := by decide +kernel
theorem q_ck108 : q_ck 108 = true := by decide +kernel
theorem q_ck109 : q_ck 109 = true := by decide +kernel
theorem q_ck110 : q_ck 110 = true := by decide +kernel
theorem q_ck111 : q_ck 111 = true := by decide +kernel
theorem q_ck112 : q_ck 112 = true := by decide +kernel
theorem q_ck113 : q_ck 113 = true := by decide +kernel
end
section
theorem q_ck114 : q_ck 114 = true := by decide +kernel
theorem q_ck115 : q_ck 115 = true := by decide +kernel
theorem q_ck116 : q_ck 116 = true := by decide +kernel
theorem q_ck117 : q_ck 117 = true := by decide +kernel
theorem q_ck118 : q_ck 118 = true := by decide +kernel
theorem q_ck119 : q_ck 119 = true := by decide +kernel
theorem q_ck120 : q_ck 120 = true := by decide +kernel
theorem q_ck121 : q_ck 121 = true := by decide +kernel
theorem q_ck122 : q_ck 122 = true := by decide +kernel
theorem q_ck123 : q_ck 123 = true := by decide +kernel
theorem q_ck124 : q_ck 124 = true := by decide +kernel
theorem q_ck125 : q_ck 125 = true := by decide +kernel
theorem q_ck126 : q_ck 126 = true := by decide +kernel
theorem q_ck127 : q_ck 127 = true := by decide +kernel
theorem q_ck128 : q_ck 128 = true := by decide +kernel
theorem q_ck129 : q_ck 129 = true := by decide +kernel
theorem q_ck130 : q_ck 130 = true := by decide +kernel
theorem q_ck131 : q_ck 131 = true := by decide +kernel
theorem q_ck132 : q_ck 132 = true := by decide +kernel
theorem q_ck133 : q_ck 133 = true := by decide +kernel
theorem q_ck134 : q_ck 134 = true := by decide +kernel
theorem q_ck135 : q_ck 135 = true := by decide +kernel
theorem q_ck136 : q_ck 136 = true := by decide +kernel
theorem q_ck137 : q_ck 137 = true := by decide +kernel
theorem q_ck138 : q_ck 138 = true := by decide +kernel
theorem q_ck139 : q_ck 139 = true := by decide +kernel
theorem q_ck140 : q_ck 140 = true := by decide +kernel
theorem q_ck141 : q_ck 141 = true := by decide +kernel
theorem q_ck142 : q_ck 142 = true := by decide +kernel
theorem q_ck143 : q_ck 143 = true := by decide +kernel
theorem q_ck144 : q_ck 144 = true := by decide +kernel
theorem q_ck145 : q_ck 145 = true := by decide +kernel
theorem q_ck146 : q_ck 146 = true := by decide +kernel
theorem q_ck147 : q_ck 147 = true := by decide +kernel
theorem q_ck148 : q_ck 148 = true := by decide +kernel
theorem q_ck149 : q_ck 149 = true := by decide +kernel
theorem q_ck150 : q_ck 150 = true := by decide +kernel
theorem q_ck151 : q_ck 151 = true := by decide +kernel
end
section
theorem q_ck152 : q_ck 152 = true := by decide +kernel
theorem q_ck153 : q_ck 153 = true := by decide +kernel
theorem q_ck154 : q_ck 154 = true := by decide +kernel
theorem q_ck155 : q_ck 155 = true := by decide +kernel
theorem q_ck156 : q_ck 156 = true := by decide +kernel
theorem q_ck157 : q_ck 157 = true := by decide +kernel
theorem q_ck158 : q_ck 158 = true := by decide +kernel
theorem q_ck159 : q_ck 159 = true := by decide +kernel
theorem q_ck160 : q_ck 160 = true := by decide +kernel
theorem q_ck161 : q_ck 161 = true := by decide +kernel
theorem q_ck162 : q_ck 162 = true := by decide +kernel
theorem q_ck163 : q_ck 163 = true := by decide +kernel
theorem q_ck164 : q_ck 164 = true := by decide +kernel
theorem q_ck165 : q_ck 165 = true := by decide +kernel
theorem q_ck166 : q_ck 166 = true := by decide +kernel
theorem q_ck167 : q_ck 167 = true := by decide +kernel
theorem q_ck168 : q_ck 168 = true := by decide +kernel
theorem q_ck169 : q_ck 169 = true := by decide +kernel
theorem q_ck170 : q_ck 170 = true := by decide +kernel
theorem q_ck171 : q_ck 171 = true := by decide +kernel
theorem q_ck172 : q_ck 172 = true := by decide +kernel
theorem q_ck173 : q_ck 173 = true := by decide +kernel
theorem q_ck174 : q_ck 174 = true := by decide +kernel
theorem q_ck175 : q_ck 175 = true := by decide +kernel
theorem q_ck176 : q_ck 176 = true := by decide +kernel
theorem q_ck177 : q_ck 177 = true := by decide +kernel
theorem q_ck178 : q_ck 178 = true := by decide +kernel
theorem q_ck179 : q_ck 179 = true := by decide +kernel
theorem q_ck180 : q_ck 180 = true := by decide +kernel
theorem q_ck181 : q_ck 181 = true := by decide +kernel
theorem q_ck182 : q_ck 182 = true := by decide +kernel
theorem q_ck183 : q_ck 183 = true := by decide +kernel
theorem q_ck184 : q_ck 184 = true := by decide +kernel
theorem q_ck185 : q_ck 185 = true := by decide +kernel
theorem q_ck186 : q_ck 186 = true := by decide +kernel
theorem q_ck187 : q_ck 187 = true := by decide +kernel
theorem q_ck188 : q_ck 188 = true := by decide +kernel
theorem q_ck189 : q_ck 189 = true := by decide +kernel
end
section
theorem q_ck190 : q_ck 190 = true := by decide +kernel
theorem q_ck191 : q_ck 191 = true := by decide +kernel
theorem q_ck192 : q_ck 192 = true := by decide +kernel
theorem q_ck193 : q_ck 193 = true := by decide +kernel
theorem q_ck194 : q_ck 194 = true := by decide +kernel
theorem q_ck195 : q_ck 195 = true := by decide +kernel
theorem q_ck196 : q_ck 196 = true := by decide +kernel
theorem q_ck197 : q_ck 197 = true := by decide +kernel
theorem q_ck198 : q_ck 198 = true := by decide +kernel
theorem q_ck199 : q_ck 199 = true := by decide +kernel
theorem q_ck200 : q_ck 200 = true := by decide +kernel
theorem q_ck201 : q_ck 201 = true := by decide +kernel
theorem q_ck202 : q_ck 202 = true := by decide +kernel
theorem q_ck203 : q_ck 203 = true := by decide +kernel
theorem q_ck204 : q_ck 204 = true := by decide +kernel
theorem q_ck205 : q_ck 205 = true := by decide +kernel
theorem q_ck206 : q_ck 206 = true := by decide +kernel
theorem q_ck207 : q_ck 207 = true := by decide +kernel
theorem q_ck208 : q_ck 208 = true := by decide +kernel
theorem q_ck209 : q_ck 209 = true := by decide +kernel
theorem q_ck210 : q_ck 210 = true := by decide +kernel
theorem q_ck211 : q_ck 211 = true := by decide +kernel
theorem q_ck212 : q_ck 212 = true := by decide +kernel
theorem q_ck213 : q_ck 213 = true := by decide +kernel
theorem q_ck214 : q_ck 214 = true := by decide +kernel
theorem q_ck215 : q_ck 215 = true := by decide +kernel
theorem q_ck216 : q_ck 216 = true := by decide +kernel
theorem q_ck217 : q_ck 217 = true := by decide +kernel
theorem q_ck218 : q_ck 218 = true := by decide +kernel
theorem q_ck219 : q_ck 219 = true := by decide +kernel
theorem q_ck220 : q_ck 220 = true := by decide +kernel
theorem q_ck221 : q_ck 221 = true := by decide +kernel
theorem q_ck222 : q_ck 222 = true := by decide +kernel
theorem q_ck223 : q_ck 223 = true := by decide +kernel
theorem q_ck224 : q_ck 224 = true := by decide +kernel
theorem q_ck225 : q_ck 225 = true := by decide +kernel
end
section
theorem q_ckL0 : q_ckB 226 0 = true := by decide +kernel
theorem q_ckL1 : q_ckB 226 1 = true := by decide +kernel
theorem q_ckL2 : q_ckB 226 2 = true := by decide +kernel
theorem q_ckL3 : q_ckB 226 3 = true := by decide +kernel
theorem q_ckL4 : q_ckB 226 4 = true := by decide +kernel
theorem q_ckL5 : q_ckB 226 5 = true := by decide +kernel
theorem q_ckL6 : q_ckB 226 6 = true := by decide +kernel
theorem q_ckL7 : q_ckB 226 7 = true := by decide +kernel
theorem q_ckL8 : q_ckB 226 8 = true := by decide +kernel
theorem q_ckL9 : q_ckB 226 9 = true := by decide +kernel
theorem q_ckL10 : q_ckB 226 10 = true := by decide +kernel
theorem q_ckL11 : q_ckB 226 11 = true := by decide +kernel
theorem q_ckL12 : q_ckB 226 12 = true := by decide +kernel
theorem q_ckL13 : q_ckB 226 13 = true := by decide +kernel
theorem q_ckL14 : q_ckB 226 14 = true := by decide +kernel
theorem q_ckL15 : q_ckB 226 15 = true := by decide +kernel
theorem q_ckL16 : q_ckB 226 16 = true := by decide +kernel
theorem q_ckL17 : q_ckB 226 17 = true := by decide +kernel
theorem q_ckL18 : q_ckB 226 18 = true := by decide +kernel
theorem q_ckL19 : q_ckB 226 19 = true := by decide +kernel
theorem q_ckL20 : q_ckB 226 20 = true := by decide +kernel
theorem q_ckL21 : q_ckB 226 21 = true := by decide +kernel
theorem q_ckL22 : q_ckB 226 22 = true := by decide +kernel
end
section
theorem q_ckL23 : q_ckB 226 23 = true := by decide +kernel
theorem q_ckL24 : q_ckB 226 24 = true := by decide +kernel
theorem q_ckL25 : q_ckB 226 25 = true := by decide +kernel
theorem q_ckL26 : q_ckB 226 26 = true := by decide +kernel
theorem q_ckL27 : q_ckB 226 27 = true := by decide +kernel
theorem q_ckL28 : q_ckB 226 28 = true := by decide +kernel
theorem q_ckL29 : q_ckB 226 29 = true := by decide +kernel
theorem q_ckL30 : q_ckB 226 30 = true := by decide +kernel
theorem q_ckL31 : q_ckB 226 31 = true := by decide +kernel
theorem q_ckL32 : q_ckB 226 32 = true := by decide +kernel
theorem q_ckL33 : q_ckB 226 33 = true := by decide +kernel
theorem q_ckL34 : q_ckB 226 34 = true := by decide +kernel
theorem q_ckL35 : q_ckB 226 35 = true := by decide +kernel
theorem q_ckL36 : q_ckB 226 36 = true := by decide +kernel
theorem q_ckL37 : q_ckB 226 37 = true := by decide +kernel
theorem q_ckL38 : q_ckB 226 38 = true := by decide +kernel
theorem q_ckL39 : q_ckB 226 39 = true := by decide +kernel
theorem q_ckL40 : q_ckB 226 40 = true := by decide +kernel
theorem q_ckL41 : q_ckB 226 41 = true := by decide +kernel
theorem q_ckL42 : q_ckB 226 42 = true := by decide +kernel
theorem q_ckL43 : q_ckB 226 43 = true := by decide +kernel
theorem q_ckL44 : q_ckB 226 44 = true := by decide +kernel
theorem q_ckL45 : q_ckB 226 45 = true := by decide +kernel
end
section
theorem q_ckL46 : q_ckB 226 46 = true := by decide +kernel
theorem q_ckL47 : q_ckB 226 47 = true := by decide +kernel
theorem q_ckL48 : q_ckB 226 48 = true := by decide +kernel
theorem q_ckL49 : q_ckB 226 49 = true := by decide +kernel
theorem q_ckL50 : q_ckB 226 50 = true := by decide +kernel
theorem q_ckL51 : q_ckB 226 51 = true := by decide +kernel
theorem q_ckL52 : q_ckB 226 52 = true := by decide +kernel
theorem q_ckL53 : q_ckB 226 53 = true := by decide +kernel
theorem q_ckL54 : q_ckB 226 54 = true := by decide +kernel
theorem q_ckL55 : q_ckB 226 55 = true := by decide +kernel
theorem q_ckL56 : q_ckB 226 56 = true := by decide +kernel
theorem q_ckL57 : q_ckB 226 57 = true := by decide +kernel
theorem q_ckL58 : q_ckB 226 58 = true := by decide +kernel
theorem q_ckL59 : q_ckB 226 59 = true := by decide +kernel
theorem q_ckL60 : q_ckB 226 60 = true := by decide +kernel
theorem q_ckL61 : q_ckB 226 61 = true := by decide +kernel
theorem q_ckL62 : q_ckB 226 62 = true := by decide +kernel
theorem q_ckL63 : q_ckB 226 63 = true := by decide +kernel
theorem q_ckL64 : q_ckB 226 64 = true := by decide +kernel
theorem q_ckL65 : q_ckB 226 65 = true := by decide +kernel
theorem q_ckL66 : q_ckB 226 66 = true := by decide +kernel
theorem q_ckL67 : q_ckB 226 67 = true := by decide +kernel
theorem q_ckL68 : q_ckB 226 68 = true := by decide +kernel
end
section
theorem q_ckL69 : q_ckB 226 69 = true := by decide +kernel
theorem q_ckL70 : q_ckB 226 70 = true := by decide +kernel
theorem q_ckL71 : q_ckB 226 71 = true := by decide +kernel
theorem q_ckL72 : q_ckB 226 72 = true := by decide +kernel
theorem q_ckL73 : q_ckB 226 73 = true := by decide +kernel
theorem q_ckL74 : q_ckB 226 74 = true := by decide +kernel
theorem q_ckL75 : q_ckB 226 75 = true := by decide +kernel
theorem q_ckL76 : q_ckB 226 76 = true := by decide +kernel
theorem q_ckL77 : q_ckB 226 77 = true := by decide +kernel
theorem q_ckL78 : q_ckB 226 78 = true := by decide +kernel
theorem q_ckL79 : q_ckB 226 79 = true := by decide +kernel
theorem q_ckL80 : q_ckB 226 80 = true := by decide +kernel
theorem q_ckL81 : q_ckB 226 81 = true := by decide +kernel
theorem q_ckL82 : q_ckB 226 82 = true := by decide +kernel
theorem q_ckL83 : q_ckB 226 83 = true := by decide +kernel
theorem q_ckL84 : q_ckB 226 84 = true := by decide +kernel
theorem q_ckL85 : q_ckB 226 85 = true := by decide +kernel
theorem q_ckL86 : q_ckB 226 86 = true := by decide +kernel
theorem q_ckL87 : q_ckB 226 87 = true := by decide +kernel
theorem q_ckL88 : q_ckB 226 88 = true := by decide +kernel
theorem q_ckL89 : q_ckB 226 89 = true := by decide +kernel
theorem q_ckL90 : q_ckB 226 90 = true := by decide +kernel
theorem q_ckL91 : q_ckB 226 91 = true := by decide +kernel
end
section
theorem q_cgB0 : ∀ k, k < 16 → q_ck (0 + k) = true := fun k h => match k, h with
  | 0, _ => q_ck0
  | 1, _ => q_ck1
  | 2, _ => q_ck2
  | 3, _ => q_ck3
  | 4, _ => q_ck4
  | 5, _ => q_ck5
  | 6, _ => q_ck6
  | 7, _ => q_ck7
  | 8, _ => q_ck8
  | 9, _ => q_ck9
  | 10, _ => q_ck10
  | 11, _ => q_ck11
  | 12, _ => q_ck12
  | 13, _ => q_ck13
  | 14, _ => q_ck14
  | 15, _ => q_ck15
  | k + 16, h => absurd h (by omega)
theorem q_cgB1 : ∀ k, k < 16 → q_ck (16 + k) = true := fun k h => match k, h with
  | 0, _ => q_ck16
  | 1, _ => q_ck17
  | 2, _ => q_ck18
  | 3, _ => q_ck19
  | 4, _ => q_ck20
  | 5, _ => q_ck21
  | 6, _ => q_ck22
  | 7, _ => q_ck23
  | 8, _ => q_ck24
  | 9, _ => q_ck25
  | 10, _ => q_ck26
  | 11, _ => q_ck27
  | 12, _ => q_ck28
  | 13, _ => q_ck29
  | 14, _ => q_ck30
  | 15, _ => q_ck31
  | k + 16, h => absurd h (by omega)
theorem q_cgB2 : ∀ k, k < 16 → q_ck (32 + k) = true := fun k h => match k, h with
  | 0, _ => q_ck32
  | 1, _ => q_ck33
  | 2, _ => q_ck34
  | 3, _ => q_ck35
  | 4, _ => q_ck36
  | 5, _ => q_ck37
  | 6, _ => q_ck38
  | 7, _ => q_ck39
  | 8, _ => q_ck40
  | 9, _ => q_ck41
  | 10, _ => q_ck42
  | 11, _ => q_ck43
  | 12, _ => q_ck44
  | 13, _ => q_ck45
  | 14, _ => q_ck46
  | 15, _ => q_ck47
  | k + 16, h => absurd h (by omega)
theorem q_cgB3 : ∀ k, k < 16 → q_ck (48 + k) = true := fun k h => match k, h with
  | 0, _ => q_ck48
  | 1, _ => q_ck49
  | 2, _ => q_ck50
  | 3, _ => q_ck51
  | 4, _ => q_ck52
  | 5, _ => q_ck53
  | 6, _ => q_ck54
  | 7, _ => q_ck55
  | 8, _ => q_ck56
  | 9, _ => q_ck57
  | 10, _ => q_ck58
  | 11, _ => q_ck59
  | 12, _ => q_ck60
  | 13, _ => q_ck61
  | 14, _ => q_ck62
  | 15, _ => q_ck63
  | k + 16, h => absurd h (by omega)
theorem q_cgB4 : ∀ k, k < 16 → q_ck (64 + k) = true := fun k h => match k, h with
  | 0, _ => q_ck64
  | 1, _ => q_ck65
  | 2, _ => q_ck66
  | 3, _ => q_ck67
  | 4, _ => q_ck68
  | 5, _ => q_ck69
  | 6, _ => q_ck70
  | 7, _ => q_ck71
  | 8, _ => q_ck72
  | 9, _ => q_ck73
  | 10, _ => q_ck74
  | 11, _ => q_ck75
  | 12, _ => q_ck76
  | 13, _ => q_ck77
  | 14, _ => q_ck78
  | 15, _ => q_ck79
  | k + 16, h => absurd h (by omega)
theorem q_cgB5 : ∀ k, k < 16 → q_ck (80 + k) = true := fun k h => match k, h with
  | 0, _ => q_ck80
  | 1, _ => q_ck81
  | 2, _ => q_ck82
  | 3, _ => q_ck83
  | 4, _ => q_ck84
  | 5, _ => q_ck85
  | 6, _ => q_ck86
  | 7, _ => q_ck87
  | 8, _ => q_ck88
  | 9, _ => q_ck89
  | 10, _ => q_ck90
  | 11, _ => q_ck91
  | 12, _ => q_ck92
  | 13, _ => q_ck93
  | 14, _ => q_ck94
  | 15, _ => q_ck95
  | k + 16, h => absurd h (by omega)
theorem q_cgB6 : ∀ k, k < 16 → q_ck (96 + k) = true := fun k h => match k, h with
  | 0, _ => q_ck96
  | 1, _ => q_ck97
  | 2, _ => q_ck98
  | 3, _ => q_ck99
  | 4, _ => q_ck100
  | 5, _ => q_ck101
  | 6, _ => q_ck102
  | 7, _ => q_ck103
  | 8, _ => q_ck104
  | 9, _ => q_ck105
  | 10, _ => q_ck106
  | 11, _ => q_ck107
  | 12, _ => q_ck108
  | 13, _ => q_ck109
  | 14, _ => q_ck110
  | 15, _ => q_ck111
  | k + 16, h => absurd h (by omega)
theorem q_cgB7 : ∀ k, k < 16 → q_ck (112 + k) = true := fun k h => match k, h with
  | 0, _ => q_ck112
  | 1, _ => q_ck113
  | 2, _ => q_ck114
  | 3, _ => q_ck115
  | 4, _ => q_ck116
  | 5, _ => q_ck117
  | 6, _ => q_ck118
  | 7, _ => q_ck119
  | 8, _ => q_ck120
  | 9, _ => q_ck121
  | 10, _ => q_ck122
  | 11, _ => q_ck123
  | 12, _ => q_ck124
  | 13, _ => q_ck125
  | 14, _ => q_ck126
  | 15, _ => q_ck127
  | k + 16, h => absurd h (by omega)
theorem q_cgB8 : ∀ k, k < 16 → q_ck (128 + k) = true := fun k h => match k, h with
  | 0, _ => q_ck128
  | 1, _ => q_ck129
  | 2, _ => q_ck130
  | 3, _ => q_ck131
  | 4, _ => q_ck132
  | 5, _ => q_ck133
  | 6, _ => q_ck134
  | 7, _ => q_ck135
  | 8, _ => q_ck136
  | 9, _ => q_ck137
  | 10, _ => q_ck138
  | 11, _ => q_ck139
  | 12, _ => q_ck140
  | 13, _ => q_ck141
  | 14, _ => q_ck142
  | 15, _ => q_ck143
  | k + 16, h => absurd h (by omega)
theorem q_cgB9 : ∀ k, k < 16 → q_ck (144 + k) = true := fun k h => match k, h with
  | 0, _ => q_ck144
  | 1, _ => q_ck145
  | 2, _ => q_ck146
  | 3, _ => q_ck147
  | 4, _ => q_ck148
  | 5, _ => q_ck149
  | 6, _ => q_ck150
  | 7, _ => q_ck151
  | 8, _ => q_ck152
  | 9, _ => q_ck153
  | 10, _ => q_ck154
  | 11, _ => q_ck155
  | 12, _ => q_ck156
  | 13, _ => q_ck157
  | 14, _ => q_ck158
  | 15, _ => q_ck159
  | k + 16, h => absurd h (by omega)
theorem q_cgB10 : ∀ k, k < 16 → q_ck (160 + k) = true := fun k h => match k, h with
  | 0, _ => q_ck160
  | 1, _ => q_ck161
  | 2, _ => q_ck162
  | 3, _ => q_ck163
  | 4, _ => q_ck164
  | 5, _ => q_ck165
  | 6, _ => q_ck166
  | 7, _ => q_ck167
  | 8, _ => q_ck168
  | 9, _ => q_ck169
  | 10, _ => q_ck170
  | 11, _ => q_ck171
  | 12, _ => q_ck172
  | 13, _ => q_ck173
  | 14, _ => q_ck174
  | 15, _ => q_ck175
  | k + 16, h => absurd h (by omega)
theorem q_cgB11 : ∀ k, k < 16 → q_ck (176 + k) = true := fun k h => match k, h with
  | 0, _ => q_ck176
  | 1, _ => q_ck177
  | 2, _ => q_ck178
  | 3, _ => q_ck179
  | 4, _ => q_ck180
  | 5, _ => q_ck181
  | 6, _ => q_ck182
  | 7, _ => q_ck183
  | 8, _ => q_ck184
  | 9, _ => q_ck185
  | 10, _ => q_ck186
  | 11, _ => q_ck187
  | 12, _ => q_ck188
  | 13, _ => q_ck189
  | 14, _ => q_ck190
  | 15, _ => q_ck191
  | k + 16, h => absurd h (by omega)
theorem q_cgB12 : ∀ k, k < 16 → q_ck (192 + k) = true := fun k h => match k, h with
  | 0, _ => q_ck192
  | 1, _ => q_ck193
  | 2, _ => q_ck194
  | 3, _ => q_ck195
  | 4, _ => q_ck196
  | 5, _ => q_ck197
  | 6, _ => q_ck198
  | 7, _ => q_ck199
  | 8, _ => q_ck200
  | 9, _ => q_ck201
  | 10, _ => q_ck202
  | 11, _ => q_ck203
  | 12, _ => q_ck204
  | 13, _ => q_ck205
  | 14, _ => q_ck206
  | 15, _ => q_ck207
  | k + 16, h => absurd h (by omega)
theorem q_cgB13 : ∀ k, k < 16 → q_ck (208 + k) = true := fun k h => match k, h with
  | 0, _ => q_ck208
  | 1, _ => q_ck209
  | 2, _ => q_ck210
  | 3, _ => q_ck211
  | 4, _ => q_ck212
  | 5, _ => q_ck213
  | 6, _ => q_ck214
  | 7, _ => q_ck215
  | 8, _ => q_ck216
  | 9, _ => q_ck217
  | 10, _ => q_ck218
  | 11, _ => q_ck219
  | 12, _ => q_ck220
  | 13, _ => q_ck221
  | 14, _ => q_ck222
  | 15, _ => q_ck223
  | k + 16, h => absurd h (by omega)
theorem q_cgB14 : ∀ k, k < 2 → q_ck (224 + k) = true := fun k h => match k, h with
  | 0, _ => q_ck224
  | 1, _ => q_ck225
  | k + 2, h => absurd h (by omega)
theorem q_cg (j : Nat) (h : j < 226) : q_ck j = true := by
  have e : j = 16 * (j / 16) + j % 16 := by omega
  have h1 : j % 16 < 16 := by omega
  have h2 : j / 16 < 15 := by omega
  rw [e]
  rw [e] at h
  generalize j / 16 = a at *
  generalize j % 16 = b at *
  clear e
  match a, h2 with
  | 0, _ => exact q_cgB0 b (by omega)
  | 1, _ => exact q_cgB1 b (by omega)
  | 2, _ => exact q_cgB2 b (by omega)
  | 3, _ => exact q_cgB3 b (by omega)
  | 4, _ => exact q_cgB4 b (by omega)
  | 5, _ => exact q_cgB5 b (by omega)
  | 6, _ => exact q_cgB6 b (by omega)
  | 7, _ => exact q_cgB7 b (by omega)
  | 8, _ => exact q_cgB8 b (by omega)
  | 9, _ => exact q_cgB9 b (by omega)
  | 10, _ => exact q_cgB10 b (by omega)
  | 11, _ => exact q_cgB11 b (by omega)
  | 12, _ => exact q_cgB12 b (by omega)
  | 13, _ => exact q_cgB13 b (by omega)
  | 14, _ => exact q_cgB14 b (by omega)
theorem q_clB0 : ∀ k, k < 16 → q_ckB 226 (0 + k) = true := fun k h => match k, h with
  | 0, _ => q_ckL0
  | 1, _ => q_ckL1
  | 2, _ => q_ckL2
  | 3, _ => q_ckL3
  | 4, _ => q_ckL4
  | 5, _ => q_ckL5
  | 6, _ => q_ckL6
  | 7, _ => q_ckL7
  | 8, _ => q_ckL8
  | 9, _ => q_ckL9
  | 10, _ => q_ckL10
  | 11, _ => q_ckL11
  | 12, _ => q_ckL12
  | 13, _ => q_ckL13
  | 14, _ => q_ckL14
  | 15, _ => q_ckL15
  | k + 16, h => absurd h (by omega)
theorem q_clB1 : ∀ k, k < 16 → q_ckB 226 (16 + k) = true := fun k h => match k, h with
  | 0, _ => q_ckL16
  | 1, _ => q_ckL17
  | 2, _ => q_ckL18
  | 3, _ => q_ckL19
  | 4, _ => q_ckL20
  | 5, _ => q_ckL21
  | 6, _ => q_ckL22
  | 7, _ => q_ckL23
  | 8, _ => q_ckL24
  | 9, _ => q_ckL25
  | 10, _ => q_ckL26
  | 11, _ => q_ckL27
  | 12, _ => q_ckL28
  | 13, _ => q_ckL29
  | 14, _ => q_ckL30
  | 15, _ => q_ckL31
  | k + 16, h => absurd h (by omega)
theorem q_clB2 : ∀ k, k < 16 → q_ckB 226 (32 + k) = true := fun k h => match k, h with
  | 0, _ => q_ckL32
  | 1, _ => q_ckL33
  | 2, _ => q_ckL34
  | 3, _ => q_ckL35
  | 4, _ => q_ckL36
  | 5, _ => q_ckL37
  | 6, _ => q_ckL38
  | 7, _ => q_ckL39
  | 8, _ => q_ckL40
  | 9, _ => q_ckL41
  | 10, _ => q_ckL42
  | 11, _ => q_ckL43
  | 12, _ => q_ckL44
  | 13, _ => q_ckL45
  | 14, _ => q_ckL46
  | 15, _ => q_ckL47
  | k + 16, h => absurd h (by omega)
theorem q_clB3 : ∀ k, k < 16 → q_ckB 226 (48 + k) = true := fun k h => match k, h with
  | 0, _ => q_ckL48
  | 1, _ => q_ckL49
  | 2, _ => q_ckL50
  | 3, _ => q_ckL51
  | 4, _ => q_ckL52
  | 5, _ => q_ckL53
  | 6, _ => q_ckL54
  | 7, _ => q_ckL55
  | 8, _ => q_ckL56
  | 9, _ => q_ckL57
  | 10, _ => q_ckL58
  | 11, _ => q_ckL59
  | 12, _ => q_ckL60
  | 13, _ => q_ckL61
  | 14, _ => q_ckL62
  | 15, _ => q_ckL63
  | k + 16, h => absurd h (by omega)
theorem q_clB4 : ∀ k, k < 16 → q_ckB 226 (64 + k) = true := fun k h => match k, h with
  | 0, _ => q_ckL64
  | 1, _ => q_ckL65
  | 2, _ => q_ckL66
  | 3, _ => q_ckL67
  | 4, _ => q_ckL68
  | 5, _ => q_ckL69
  | 6, _ => q_ckL70
  | 7, _ => q_ckL71
  | 8, _ => q_ckL72
  | 9, _ => q_ckL73
  | 10, _ => q_ckL74
  | 11, _ => q_ckL75
  | 12, _ => q_ckL76
  | 13, _ => q_ckL77
  | 14, _ => q_ckL78
  | 15, _ => q_ckL79
  | k + 16, h => absurd h (by omega)
theorem q_clB5 : ∀ k, k < 12 → q_ckB 226 (80 + k) = true := fun k h => match k, h with
  | 0, _ => q_ckL80
  | 1, _ => q_ckL81
  | 2, _ => q_ckL82
  | 3, _ => q_ckL83
  | 4, _ => q_ckL84
  | 5, _ => q_ckL85
  | 6, _ => q_ckL86
  | 7, _ => q_ckL87
  | 8, _ => q_ckL88
  | 9, _ => q_ckL89
  | 10, _ => q_ckL90
  | 11, _ => q_ckL91
  | k + 12, h => absurd h (by omega)
theorem q_clg (c : Nat) (h : c < 92) : q_ckB 226 c = true := by
  have e : c = 16 * (c / 16) + c % 16 := by omega
  have h1 : c % 16 < 16 := by omega
  have h2 : c / 16 < 6 := by omega
  rw [e]
  rw [e] at h
  generalize c / 16 = a at *
  generalize c % 16 = b at *
  clear e
  match a, h2 with
  | 0, _ => exact q_clB0 b (by omega)
  | 1, _ => exact q_clB1 b (by omega)
  | 2, _ => exact q_clB2 b (by omega)
  | 3, _ => exact q_clB3 b (by omega)
  | 4, _ => exact q_clB4 b (by omega)
  | 5, _ => exact q_clB5 b (by omega)
theorem q_fe_lt {j pc : Nat} {e : q_In} (h : q_fe j pc = some e) : pc / 16 < q_len j := by
  rcases Nat.lt_or_ge (pc / 16) (q_len j) with h1 | h1
  · exact h1
  · unfold q_fe at h
    unfold q_len at h1
    have e1 : ((q_fs.getD (j / 16) []).getD (j % 16) []).getD (pc / 16) [] = [] := by
      rw [List.getD_eq_getElem?_getD, List.getElem?_eq_none h1]
      rfl
    rw [e1] at h
    simp at h
theorem q_ckI_all : ∀ j, j < 227 → ∀ pc e, q_fe j pc = some e → q_ckI j pc e = true := by
  intro j hj pc e he
  have h1 := q_fe_lt he
  by_cases hl : j < 226
  · have h2 := q_cg j hl
    unfold q_ck at h2
    have h3 := List.all_eq_true.mp h2 pc (List.mem_range.mpr (by omega))
    rw [he] at h3
    exact h3
  · have e1 : j = 226 := by omega
    subst e1
    have e2 : q_len 226 = 92 := by decide +kernel
    rw [e2] at h1
    have h2 := q_clg (pc / 16) h1
    unfold q_ckB at h2
    have h3 := List.all_eq_true.mp h2 (pc % 16) (List.mem_range.mpr (by omega))
    have e3 : 16 * (pc / 16) + pc % 16 = pc := by omega
    rw [e3, he] at h3
    exact h3
end
section
/-! A SMALL MACHINE OF MY OWN over the printed instructions: objects by number, a flat memory; q_step says one instruction in a chosen kind of answer X. -/
/-- shapes (kind, length): a kind below 11 is a class; 99 the script, 100 an int array, 101 a long array, 102 + c an array of objects of class c; then ints, longs, references -/
abbrev q_Mem : Type := List (Nat × Nat) × (Nat → Nat → Int32) × (Nat → Nat → Int64) × (Nat → Nat → Option Nat)
/-- pc, locals, stack, memory, cells and slots made -/
abbrev q_St : Type := Nat × List (Option Value) × List Value × q_Mem × Nat × Nat
def q_sI (μ : q_Mem) (o k : Nat) (v : Int32) : q_Mem := (μ.1, (fun a b => if a = o ∧ b = k then v else μ.2.1 a b), μ.2.2.1, μ.2.2.2)
def q_sL (μ : q_Mem) (o k : Nat) (v : Int64) : q_Mem := (μ.1, μ.2.1, (fun a b => if a = o ∧ b = k then v else μ.2.2.1 a b), μ.2.2.2)
def q_sR (μ : q_Mem) (o k : Nat) (v : Option Nat) : q_Mem := (μ.1, μ.2.1, μ.2.2.1, fun a b => if a = o ∧ b = k then v else μ.2.2.2 a b)
def q_cI (μ : q_Mem) (o o' : Nat) (sp dp n : Nat) : q_Mem := (μ.1, (fun a b => if a = o' then va_cpy (μ.2.1 o) (μ.2.1 o') sp dp n b else μ.2.1 a b), μ.2.2.1, μ.2.2.2)
def q_cL (μ : q_Mem) (o o' : Nat) (sp dp n : Nat) : q_Mem := (μ.1, μ.2.1, (fun a b => if a = o' then va_cpy (μ.2.2.1 o) (μ.2.2.1 o') sp dp n b else μ.2.2.1 a b), μ.2.2.2)
def q_new (μ : q_Mem) (k n : Nat) : q_Mem := (μ.1 ++ [(k, n)], (fun a b => if a = μ.1.length then 0 else μ.2.1 a b), (fun a b => if a = μ.1.length then 0 else μ.2.2.1 a b), fun a b => if a = μ.1.length then none else μ.2.2.2 a b)
def q_isO (sh : List (Nat × Nat)) (o c : Nat) : Bool := match sh[o]? with
  | some q => q.1 == c
  | none => false
def q_arr (sh : List (Nat × Nat)) (o k : Nat) : Option Nat := match sh[o]? with
  | some q => (match q.1 == k with
    | true => some q.2
    | false => none)
  | none => none
def q_okA (k : Nat) : Bool := k == 107 || (k == 104 || k == 108)
/-- an array of ints to read from; the script (99) is the law's alone -/
def q_ard (j : Nat) (sh : List (Nat × Nat)) (o : Nat) : Option Nat := match sh[o]? with
  | some q => (match (q.1 == 100 || (q.1 == 99 && (j == 226 && o == 0))) with
    | true => some q.2
    | false => none)
  | none => none
def q_arq (sh : List (Nat × Nat)) (o : Nat) : Option (Nat × Nat) := match sh[o]? with
  | some q => (match q_okA q.1 with
    | true => some (q.1 - 102, q.2)
    | false => none)
  | none => none
def q_arl (j : Nat) (sh : List (Nat × Nat)) (o : Nat) : Option Nat := match sh[o]? with
  | some q => (match (q.1 == 100 || (q.1 == 101 || (q_okA q.1 || (q.1 == 99 && (j == 226 && o == 0))))) with
    | true => some q.2
    | false => none)
  | none => none
def q_obj (sh : List (Nat × Nat)) (o : Nat) : Option Nat := match sh[o]? with
  | some q => (match Nat.ble q.1 10 with
    | true => some q.1
    | false => none)
  | none => none
def q_fk (t : FieldType) : Nat := match t with
  | .int => 0
  | .boolean => 1
  | .object _ => 2
  | .array _ => 2
  | _ => 3
def q_onB {X : Type} (ff : X) (b : Bool) (x : X) : X := match b with
  | true => x
  | false => ff
def q_onS {α : Type} {X : Type} (ff : X) (y : Option α) (k : α → X) : X := match y with
  | some a => k a
  | none => ff
def q_onI {X : Type} (ff : X) (v : Value) (k : Int32 → X) : X := match v with
  | .int x => k x
  | _ => ff
def q_onJ {X : Type} (ff : X) (v : Value) (k : Int64 → X) : X := match v with
  | .long x => k x
  | _ => ff
def q_onR {X : Type} (ff : X) (v : Value) (k : Nat → X) : X := match v with
  | .ref x => k x
  | _ => ff
def q_pop (n : Nat) (st : List Value) : Option (List Value × List Value) := match Nat.ble n st.length with
  | true => some ((st.take n).reverse, st.drop n)
  | false => none
/-- the references in the frame are of objects that exist -/
def q_vlt (n : Nat) (v : Value) : Bool := match v with
  | .ref a => Nat.blt a n
  | _ => true
def q_clo (n : Nat) (ls : List (Option Value)) (st : List Value) : Bool := (ls.all fun v => match v with
  | some v => q_vlt n v
  | none => true) && st.all (q_vlt n)
def q_cats (st : List Value) : Nat := (st.map fun v => v.category).sum
def q_back {X : Type} (ff : X) (r : Option FieldType) (v : Value) (k : List Value → X) : X := match r with
  | none => k []
  | some .int => q_onI ff v fun x => k [.int x]
  | some .boolean => q_onI ff v fun x => k [.int x]
  | some .long => q_onJ ff v fun x => k [.long x]
  | _ => ff
/-- slot k holds no long any more when slot k + 1 is written; lg: the slots that ever hold longs -/
def q_kill (lg : List Nat) (ls : List (Option Value)) (i : Nat) : List (Option Value) := match i with
  | 0 => ls
  | k + 1 => match lg.contains k with
    | true => ls.set k none
    | false => ls
def q_put1 (lg : List Nat) (ls : List (Option Value)) (i : Nat) (v : Value) : List (Option Value) := (q_kill lg ls i).set i (some v)
def q_put2 (lg : List Nat) (ls : List (Option Value)) (i : Nat) (v : Value) : List (Option Value) := ((q_kill lg ls i).set (i + 1) none).set i (some v)
def q_jmp {X : Type} (ff : X) (k : Nat → X) (pc : Nat) (off : Int) : X := q_onB ff (decide ((pc : Int) + off = (((pc : Int) + off).toNat : Int))) (k ((pc : Int) + off).toNat)
/-- a switch as a chain of questions -/
def q_sw {X : Type} (br : (c : Prop) → [Decidable c] → X → X → X) (go : Int → X) (dflt : Int) (x : Int32) : List (Int × Int) → X
  | [] => go dflt
  | q :: l => br (x.toInt = q.1) (go q.2) (q_sw br go dflt x l)
def q_tab (lo : Int) : List Int → List (Int × Int)
  | [] => []
  | o :: l => (lo, o) :: q_tab (lo + 1) l
abbrev q_Gd (X : Type) : Type := (c : Prop) → [Decidable c] → X → X
abbrev q_Br (X : Type) : Type := (c : Prop) → [Decidable c] → X → X → X
section QM
variable {X : Type} (ff : X) (gd : q_Gd X) (br : q_Br X) (cl : Nat → List Value → q_Mem → (Value → q_Mem → X) → X) (rt : Value → q_Mem → Nat → Nat → X) (j : Nat) (P : q_St → X)
/-- a call: the callee's arguments are off the stack, its answer goes on -/
def q_call (y : Nat) (as rest : List Value) (pc : Nat) (ls : List (Option Value)) (μ : q_Mem) (uc us : Nat) : X :=
  q_onB ff (((q_m y).2.1.2.2.2.1 == 0 || q_clo μ.1.length ls rest) && (Nat.ble (q_cats rest) 8 && (Nat.ble (uc + (q_m y).2.1.2.2.2.1) (q_m j).2.1.2.2.2.1 && Nat.ble (us + (q_m y).2.1.2.2.2.2) (q_m j).2.1.2.2.2.2)))
    (cl y as μ fun v μ' => q_back ff (q_m y).1.2.2.2 v fun r => P (pc + 3, ls, r ++ rest, μ', uc + (q_m y).2.1.2.2.2.1, us + (q_m y).2.1.2.2.2.2))
def q_copy (st : List Value) (pc : Nat) (ls : List (Option Value)) (μ : q_Mem) (uc us : Nat) : X := match st with
  | .int n :: .int dp :: .ref a :: .int sp :: .ref a0 :: rest => q_onB ff (Nat.ble (q_cats rest) 8)
    (match q_arr μ.1 a0 100 with
    | some n0 => q_onS ff (q_arr μ.1 a 100) fun n1 => gd (¬ sp < 0 ∧ ¬ dp < 0 ∧ ¬ n < 0 ∧ sp.toNatClampNeg + n.toNatClampNeg ≤ n0 ∧ dp.toNatClampNeg + n.toNatClampNeg ≤ n1) (P (pc + 3, ls, rest, q_cI μ a0 a sp.toNatClampNeg dp.toNatClampNeg n.toNatClampNeg, uc, us))
    | none => q_onS ff (q_arr μ.1 a0 101) fun n0 => q_onS ff (q_arr μ.1 a 101) fun n1 => gd (¬ sp < 0 ∧ ¬ dp < 0 ∧ ¬ n < 0 ∧ sp.toNatClampNeg + n.toNatClampNeg ≤ n0 ∧ dp.toNatClampNeg + n.toNatClampNeg ≤ n1) (P (pc + 3, ls, rest, q_cL μ a0 a sp.toNatClampNeg dp.toNatClampNeg n.toNatClampNeg, uc, us)))
  | _ => ff
def q_ex (i : Instr) (n a b : Nat) (pc : Nat) (ls : List (Option Value)) (st : List Value) (μ : q_Mem) (uc us : Nat) : X := match i with
  | .iconst k => P (pc + n, ls, .int (Int32.ofInt k) :: st, μ, uc, us)
  | .bipush k => P (pc + n, ls, .int ((Int8.ofInt k).toInt32) :: st, μ, uc, us)
  | .sipush k => P (pc + n, ls, .int ((Int16.ofInt k).toInt32) :: st, μ, uc, us)
  | .lconst k => P (pc + n, ls, .long (Int64.ofNat (k : Nat)) :: st, μ, uc, us)
  | .ldc _ => P (pc + n, ls, .int (Int32.ofNat a) :: st, μ, uc, us)
  | .ldc_w _ => P (pc + n, ls, .int (Int32.ofNat a) :: st, μ, uc, us)
  | .ldc2_w _ => P (pc + n, ls, .long (Int64.ofNat a) :: st, μ, uc, us)
  | .iload_n k => (match ls[(k : Nat)]? with
    | some (some (.int x)) => P (pc + n, ls, .int x :: st, μ, uc, us)
    | _ => ff)
  | .iload k => (match ls[k]? with
    | some (some (.int x)) => P (pc + n, ls, .int x :: st, μ, uc, us)
    | _ => ff)
  | .lload_n k => (match ls[(k : Nat)]? with
    | some (some (.long x)) => P (pc + n, ls, .long x :: st, μ, uc, us)
    | _ => ff)
  | .lload k => (match ls[k]? with
    | some (some (.long x)) => P (pc + n, ls, .long x :: st, μ, uc, us)
    | _ => ff)
  | .aload_n k => (match ls[(k : Nat)]? with
    | some (some (.ref x)) => P (pc + n, ls, .ref x :: st, μ, uc, us)
    | _ => ff)
  | .aload k => (match ls[k]? with
    | some (some (.ref x)) => P (pc + n, ls, .ref x :: st, μ, uc, us)
    | _ => ff)
  | .istore_n k => (match st with
    | .int x :: st' => q_onB ff (Nat.blt (k : Nat) ls.length) (P (pc + n, q_put1 (q_m j).2.2.1 ls (k : Nat) (.int x), st', μ, uc, us))
    | _ => ff)
  | .istore k => (match st with
    | .int x :: st' => q_onB ff (Nat.blt k ls.length) (P (pc + n, q_put1 (q_m j).2.2.1 ls k (.int x), st', μ, uc, us))
    | _ => ff)
  | .astore_n k => (match st with
    | .ref x :: st' => q_onB ff (Nat.blt (k : Nat) ls.length) (P (pc + n, q_put1 (q_m j).2.2.1 ls (k : Nat) (.ref x), st', μ, uc, us))
    | _ => ff)
  | .astore k => (match st with
    | .ref x :: st' => q_onB ff (Nat.blt k ls.length) (P (pc + n, q_put1 (q_m j).2.2.1 ls k (.ref x), st', μ, uc, us))
    | _ => ff)
  | .lstore_n k => (match st with
    | .long x :: st' => q_onB ff (Nat.blt ((k : Nat) + 1) ls.length && (q_m j).2.2.1.contains (k : Nat)) (P (pc + n, q_put2 (q_m j).2.2.1 ls (k : Nat) (.long x), st', μ, uc, us))
    | _ => ff)
  | .lstore k => (match st with
    | .long x :: st' => q_onB ff (Nat.blt (k + 1) ls.length && (q_m j).2.2.1.contains k) (P (pc + n, q_put2 (q_m j).2.2.1 ls k (.long x), st', μ, uc, us))
    | _ => ff)
  | .iinc k d => (match ls[k]? with
    | some (some (.int x)) => q_onB ff (Nat.blt k ls.length) (P (pc + n, q_put1 (q_m j).2.2.1 ls k (.int (x + Int32.ofInt d)), st, μ, uc, us))
    | _ => ff)
  | .iadd => (match st with
    | .int y :: .int x :: st' => P (pc + n, ls, .int (x + y) :: st', μ, uc, us)
    | _ => ff)
  | .isub => (match st with
    | .int y :: .int x :: st' => P (pc + n, ls, .int (x - y) :: st', μ, uc, us)
    | _ => ff)
  | .imul => (match st with
    | .int y :: .int x :: st' => P (pc + n, ls, .int (x * y) :: st', μ, uc, us)
    | _ => ff)
  | .iand => (match st with
    | .int y :: .int x :: st' => P (pc + n, ls, .int (x &&& y) :: st', μ, uc, us)
    | _ => ff)
  | .ior => (match st with
    | .int y :: .int x :: st' => P (pc + n, ls, .int (x ||| y) :: st', μ, uc, us)
    | _ => ff)
  | .ixor => (match st with
    | .int y :: .int x :: st' => P (pc + n, ls, .int (x ^^^ y) :: st', μ, uc, us)
    | _ => ff)
  | .ishl => (match st with
    | .int y :: .int x :: st' => P (pc + n, ls, .int (x <<< (y &&& 31)) :: st', μ, uc, us)
    | _ => ff)
  | .ishr => (match st with
    | .int y :: .int x :: st' => P (pc + n, ls, .int (x >>> (y &&& 31)) :: st', μ, uc, us)
    | _ => ff)
  | .iushr => (match st with
    | .int y :: .int x :: st' => P (pc + n, ls, .int (x.toUInt32 >>> (y.toUInt32 &&& Int32.toUInt32 31)).toInt32 :: st', μ, uc, us)
    | _ => ff)
  | .idiv => (match st with
    | .int y :: .int x :: st' => gd (¬ y = 0) (P (pc + n, ls, .int (x / y) :: st', μ, uc, us))
    | _ => ff)
  | .irem => (match st with
    | .int y :: .int x :: st' => gd (¬ y = 0) (P (pc + n, ls, .int (x - x / y * y) :: st', μ, uc, us))
    | _ => ff)
  | .ineg => (match st with
    | .int x :: st' => P (pc + n, ls, .int (-x) :: st', μ, uc, us)
    | _ => ff)
  | .ladd => (match st with
    | .long y :: .long x :: st' => P (pc + n, ls, .long (x + y) :: st', μ, uc, us)
    | _ => ff)
  | .lsub => (match st with
    | .long y :: .long x :: st' => P (pc + n, ls, .long (x - y) :: st', μ, uc, us)
    | _ => ff)
  | .lmul => (match st with
    | .long y :: .long x :: st' => P (pc + n, ls, .long (x * y) :: st', μ, uc, us)
    | _ => ff)
  | .land => (match st with
    | .long y :: .long x :: st' => P (pc + n, ls, .long (x &&& y) :: st', μ, uc, us)
    | _ => ff)
  | .lor => (match st with
    | .long y :: .long x :: st' => P (pc + n, ls, .long (x ||| y) :: st', μ, uc, us)
    | _ => ff)
  | .lshl => (match st with
    | .int y :: .long x :: st' => P (pc + n, ls, .long (x <<< (y.toInt64 &&& 63)) :: st', μ, uc, us)
    | _ => ff)
  | .lcmp => (match st with
    | .long y :: .long x :: st' => P (pc + n, ls, .int (lg_cmp x y) :: st', μ, uc, us)
    | _ => ff)
  | .i2l => (match st with
    | .int x :: st' => P (pc + n, ls, .long x.toInt64 :: st', μ, uc, us)
    | _ => ff)
  | .l2i => (match st with
    | .long x :: st' => P (pc + n, ls, .int x.toInt32 :: st', μ, uc, us)
    | _ => ff)
  | .i2b => (match st with
    | .int x :: st' => P (pc + n, ls, .int x.toInt8.toInt32 :: st', μ, uc, us)
    | _ => ff)
  | .i2s => (match st with
    | .int x :: st' => P (pc + n, ls, .int x.toInt16.toInt32 :: st', μ, uc, us)
    | _ => ff)
  | .dup => (match st with
    | v :: st' => q_onB ff (v.category == 1) (P (pc + n, ls, v :: v :: st', μ, uc, us))
    | _ => ff)
  | .dup_x1 => (match st with
    | v :: w :: st' => q_onB ff ((v.category == 1) && (w.category == 1)) (P (pc + n, ls, v :: w :: v :: st', μ, uc, us))
    | _ => ff)
  | .dup2 => (match st with
    | v :: w :: st' => q_onB ff ((v.category == 1) && (w.category == 1)) (P (pc + n, ls, v :: w :: v :: w :: st', μ, uc, us))
    | _ => ff)
  | .pop => (match st with
    | v :: st' => q_onB ff (v.category == 1) (P (pc + n, ls, st', μ, uc, us))
    | _ => ff)
  | .goto _ => P (a, ls, st, μ, uc, us)
  | .ifCond c _ => (match st with
    | .int x :: st' => (match c with
      | .eq => br (x = 0) (P (a, ls, st', μ, uc, us)) (P (pc + n, ls, st', μ, uc, us))
      | .ne => br (x = 0) (P (pc + n, ls, st', μ, uc, us)) (P (a, ls, st', μ, uc, us))
      | .lt => br (x < 0) (P (a, ls, st', μ, uc, us)) (P (pc + n, ls, st', μ, uc, us))
      | .ge => br (0 ≤ x) (P (a, ls, st', μ, uc, us)) (P (pc + n, ls, st', μ, uc, us))
      | .gt => br (0 < x) (P (a, ls, st', μ, uc, us)) (P (pc + n, ls, st', μ, uc, us))
      | .le => br (x ≤ 0) (P (a, ls, st', μ, uc, us)) (P (pc + n, ls, st', μ, uc, us)))
    | _ => ff)
  | .if_icmp c _ => (match st with
    | .int y :: .int x :: st' => (match c with
      | .eq => br (x = y) (P (a, ls, st', μ, uc, us)) (P (pc + n, ls, st', μ, uc, us))
      | .ne => br (x = y) (P (pc + n, ls, st', μ, uc, us)) (P (a, ls, st', μ, uc, us))
      | .lt => br (x < y) (P (a, ls, st', μ, uc, us)) (P (pc + n, ls, st', μ, uc, us))
      | .ge => br (y ≤ x) (P (a, ls, st', μ, uc, us)) (P (pc + n, ls, st', μ, uc, us))
      | .gt => br (y < x) (P (a, ls, st', μ, uc, us)) (P (pc + n, ls, st', μ, uc, us))
      | .le => br (x ≤ y) (P (a, ls, st', μ, uc, us)) (P (pc + n, ls, st', μ, uc, us)))
    | _ => ff)
  | .tableswitch d lo _ offs => (match st with
    | .int x :: st' => q_sw br (fun off => q_jmp ff (fun t => P (t, ls, st', μ, uc, us)) pc off) d x (q_tab lo offs.toList)
    | _ => ff)
  | .lookupswitch d ps => (match st with
    | .int x :: st' => q_sw br (fun off => q_jmp ff (fun t => P (t, ls, st', μ, uc, us)) pc off) d x ps.toList
    | _ => ff)
  | .ireturn => (match st with
    | [.int x] => (match (q_m j).1.2.2.2 with
      | some .int => q_onB ff (Nat.ble uc (q_m j).2.1.2.2.2.1 && Nat.ble us (q_m j).2.1.2.2.2.2) (rt (.int x) μ uc us)
      | some .boolean => q_onB ff (Nat.ble uc (q_m j).2.1.2.2.2.1 && Nat.ble us (q_m j).2.1.2.2.2.2) (gd (x = 0 ∨ x = 1) (rt (.int x) μ uc us))
      | _ => ff)
    | _ => ff)
  | .lreturn => (match st with
    | [.long x] => (match (q_m j).1.2.2.2 with
      | some .long => q_onB ff (Nat.ble uc (q_m j).2.1.2.2.2.1 && Nat.ble us (q_m j).2.1.2.2.2.2) (rt (.long x) μ uc us)
      | _ => ff)
    | _ => ff)
  | .return_ => (match st with
    | [] => (match (q_m j).1.2.2.2 with
      | none => q_onB ff (Nat.ble uc (q_m j).2.1.2.2.2.1 && Nat.ble us (q_m j).2.1.2.2.2.2) (rt .null μ uc us)
      | _ => ff)
    | _ => ff)
  | .getfield _ => (match st with
    | .ref o :: st' => q_onB ff (q_isO μ.1 o a) (match q_fk (q_tyf a b) with
      | 0 => P (pc + n, ls, .int (μ.2.1 o b) :: st', μ, uc, us)
      | 1 => P (pc + n, ls, .int (μ.2.1 o b) :: st', μ, uc, us)
      | 2 => q_onS ff (μ.2.2.2 o b) fun t => P (pc + n, ls, .ref t :: st', μ, uc, us)
      | _ => ff)
    | _ => ff)
  | .putfield _ => (match st with
    | v :: .ref o :: st' => q_onB ff (q_isO μ.1 o a) (match q_fk (q_tyf a b) with
      | 0 => q_onI ff v fun x => P (pc + n, ls, st', q_sI μ o b x, uc, us)
      | 1 => q_onI ff v fun x => gd (x = 0 ∨ x = 1) (P (pc + n, ls, st', q_sI μ o b x, uc, us))
      | 2 => q_onR ff v fun t => q_onB ff (Nat.blt t μ.1.length) (P (pc + n, ls, st', q_sR μ o b (some t), uc, us))
      | _ => ff)
    | _ => ff)
  | .iaload => (match st with
    | .int i :: .ref o :: st' => q_onS ff (q_ard j μ.1 o) fun N => gd (¬ (i < 0 ∨ N ≤ i.toNatClampNeg)) (P (pc + n, ls, .int (μ.2.1 o i.toNatClampNeg) :: st', μ, uc, us))
    | _ => ff)
  | .laload => (match st with
    | .int i :: .ref o :: st' => q_onS ff (q_arr μ.1 o 101) fun N => gd (¬ (i < 0 ∨ N ≤ i.toNatClampNeg)) (P (pc + n, ls, .long (μ.2.2.1 o i.toNatClampNeg) :: st', μ, uc, us))
    | _ => ff)
  | .aaload => (match st with
    | .int i :: .ref o :: st' => q_onS ff (q_arq μ.1 o) fun N => gd (¬ (i < 0 ∨ N.2 ≤ i.toNatClampNeg)) (q_onS ff (μ.2.2.2 o i.toNatClampNeg) fun t => P (pc + n, ls, .ref t :: st', μ, uc, us))
    | _ => ff)
  | .iastore => (match st with
    | .int x :: .int i :: .ref o :: st' => q_onS ff (q_arr μ.1 o 100) fun N => gd (¬ (i < 0 ∨ N ≤ i.toNatClampNeg)) (P (pc + n, ls, st', q_sI μ o i.toNatClampNeg x, uc, us))
    | _ => ff)
  | .lastore => (match st with
    | .long x :: .int i :: .ref o :: st' => q_onS ff (q_arr μ.1 o 101) fun N => gd (¬ (i < 0 ∨ N ≤ i.toNatClampNeg)) (P (pc + n, ls, st', q_sL μ o i.toNatClampNeg x, uc, us))
    | _ => ff)
  | .aastore => (match st with
    | .ref x :: .int i :: .ref o :: st' => q_onS ff (q_arq μ.1 o) fun N => q_onB ff (q_isO μ.1 x N.1) (gd (¬ (i < 0 ∨ N.2 ≤ i.toNatClampNeg)) (P (pc + n, ls, st', q_sR μ o i.toNatClampNeg (some x), uc, us)))
    | _ => ff)
  | .arraylength => (match st with
    | .ref o :: st' => q_onS ff (q_arl j μ.1 o) fun N => P (pc + n, ls, .int (Int32.ofNat N) :: st', μ, uc, us)
    | _ => ff)
  | .new _ => q_onB ff (q_clo μ.1.length ls st && (Nat.ble (uc + 1) (q_m j).2.1.2.2.2.1 && Nat.ble (us + q_N a) (q_m j).2.1.2.2.2.2)) (P (pc + n, ls, .ref μ.1.length :: st, q_new μ a (q_N a), uc + 1, us + q_N a))
  | .newarray t => (match st with
    | .int k :: st' => gd (¬ k < 0 ∧ k.toNatClampNeg ≤ 60000) (q_onB ff (q_clo μ.1.length ls st' && (Nat.ble (uc + 1) (q_m j).2.1.2.2.2.1 && Nat.ble (us + k.toNatClampNeg) (q_m j).2.1.2.2.2.2)) (match t with
      | .int => P (pc + n, ls, .ref μ.1.length :: st', q_new μ 100 k.toNatClampNeg, uc + 1, us + k.toNatClampNeg)
      | .long => P (pc + n, ls, .ref μ.1.length :: st', q_new μ 101 k.toNatClampNeg, uc + 1, us + k.toNatClampNeg)
      | _ => ff))
    | _ => ff)
  | .anewarray _ => (match st with
    | .int k :: st' => gd (¬ k < 0 ∧ k.toNatClampNeg ≤ 60000) (q_onB ff (q_clo μ.1.length ls st' && (Nat.ble (uc + 1) (q_m j).2.1.2.2.2.1 && Nat.ble (us + k.toNatClampNeg) (q_m j).2.1.2.2.2.2)) (P (pc + n, ls, .ref μ.1.length :: st', q_new μ (102 + a) k.toNatClampNeg, uc + 1, us + k.toNatClampNeg)))
    | _ => ff)
  | .invokevirtual _ => q_onS ff (q_pop (q_m a).2.1.1 st) fun q => (match q.2 with
    | .ref o :: rest => q_onB ff (q_isO μ.1 o (q_m a).2.1.2.2.1) (q_call ff cl j P a (.ref o :: q.1) rest pc ls μ uc us)
    | _ => ff)
  | .invokestatic _ => (match a == 301 with
    | true => q_copy ff gd P st pc ls μ uc us
    | false => match a == 302 with
    | true => (match st with
      | .int y :: .int x :: rest => q_onB ff (Nat.ble (q_cats rest) 8 && (Nat.ble uc (q_m j).2.1.2.2.2.1 && Nat.ble us (q_m j).2.1.2.2.2.2)) (P (pc + n, ls, .int (if x < y then y else x) :: rest, μ, uc, us))
      | _ => ff)
    | false => match a == 303 with
    | true => (match st with
      | .int y :: .int x :: rest => q_onB ff (Nat.ble (q_cats rest) 8 && (Nat.ble uc (q_m j).2.1.2.2.2.1 && Nat.ble us (q_m j).2.1.2.2.2.2)) (P (pc + n, ls, .int (if y < x then y else x) :: rest, μ, uc, us))
      | _ => ff)
    | false => q_onS ff (q_pop (q_m a).2.1.1 st) fun q => q_call ff cl j P a q.1 q.2 pc ls μ uc us)
  | .invokespecial _ => (match a == 300 with
    | true => (match st with
      | .ref _ :: st' => q_onB ff (Nat.ble (q_cats st') 8) (P (pc + n, ls, st', μ, uc, us))
      | _ => ff)
    | false => q_onS ff (q_pop (q_m a).2.1.1 st) fun q => (match q.2 with
      | .ref o :: rest => q_call ff cl j P a (.ref o :: q.1) rest pc ls μ uc us
      | _ => ff))
  | _ => ff
def q_step (s : q_St) : X := match s with
  | (pc, ls, st, μ, uc, us) => q_onS ff (q_fe j pc) fun e => q_ex ff gd br cl rt j P e.1 e.2.1 e.2.2.1 e.2.2.2.1 pc ls st μ uc us
end QM
/-- the machine in Prop: what must hold for every run to come to its end with Q -/
abbrev q_gP (c : Prop) [Decidable c] (x : Prop) : Prop := c ∧ x
abbrev q_bP (c : Prop) [Decidable c] (x y : Prop) : Prop := (c → x) ∧ (¬ c → y)
abbrev q_stepP (cl : Nat → List Value → q_Mem → (Value → q_Mem → Prop) → Prop) (rt : Value → q_Mem → Nat → Nat → Prop) (j : Nat) (P : q_St → Prop) (s : q_St) : Prop := q_step False (fun c _ x => c ∧ x) (fun c _ x y => (c → x) ∧ (¬ c → y)) cl rt j P s
/-- it ends, by the least set that is closed under the steps -/
def q_X (cl : Nat → List Value → q_Mem → (Value → q_Mem → Prop) → Prop) (rt : Value → q_Mem → Nat → Nat → Prop) (j : Nat) (s : q_St) : Prop := ∀ P : q_St → Prop, (∀ t, q_stepP cl rt j P t → P t) → P s
/-- the locals at a method's entry -/
def q_lay : List Value → List (Option Value)
  | [] => []
  | .long x :: l => some (.long x) :: none :: q_lay l
  | .double x :: l => some (.double x) :: none :: q_lay l
  | v :: l => some v :: q_lay l
def q_ent (j : Nat) (as : List Value) : List (Option Value) := q_lay as ++ List.replicate ((q_m j).1.2.2.1 - (q_lay as).length) none
/-- longs among the arguments stand in slots that are known to hold longs -/
def q_lgok (lg : List Nat) (as : List Value) : Bool := (lv_args 0 as).all fun q => !(q.2.category == 2) || lg.contains q.1
def q_W : Nat → Nat → List Value → q_Mem → (Value → q_Mem → Prop) → Prop
  | 0, _, _, _, _ => False
  | d + 1, j, as, μ, Q => (Nat.blt j 226 = true ∧ Nat.ble (q_lay as).length (q_m j).1.2.2.1 = true ∧ q_lgok (q_m j).2.2.1 as = true) ∧ q_X (q_W d) (fun v μ' _ _ => Q v μ') j (0, q_ent j as, [], μ, 0, 0)
/-- the machine as a program, for runs that are known whole -/
def q_ev (d n : Nat) : Nat → List Value → q_Mem → Option (Value × q_Mem) := match d with
  | 0 => fun _ _ _ => none
  | d + 1 => fun j as μ => match Nat.blt j 226 && (Nat.ble (q_lay as).length (q_m j).1.2.2.1 && q_lgok (q_m j).2.2.1 as) with
    | true => (Nat.rec (motive := fun _ => q_St → Option (Value × q_Mem)) (fun _ => none) (fun _ P => q_step none (fun c _ x => if c then x else none) (fun c _ x y => if c then x else y) (fun y as μ k => match q_ev d n y as μ with
        | some r => k r.1 r.2
        | none => none) (fun v μ' _ _ => some (v, μ')) j P) n) (0, q_ent j as, [], μ, 0, 0)
    | false => none
end
section
/-! the machine's memory as a world of the kit -/
def q_rn (ad : Nat → Nat) (v : Value) : Value := match v with
  | .ref a => .ref (ad a)
  | v => v
theorem q_rn_cat (ad : Nat → Nat) (v : Value) : (q_rn ad v).category = v.category := by cases v <;> rfl
theorem q_cats_rn (ad : Nat → Nat) (st : List Value) : ((st.map (q_rn ad)).map fun v => v.category).sum = q_cats st := by
  unfold q_cats
  rw [List.map_map]
  congr 1
  exact List.map_congr_left fun v _ => q_rn_cat ad v
def q_fv (ad : Nat → Nat) (μ : q_Mem) (o c k : Nat) : Value := match q_fk (q_tyf c k) with
  | 0 => .int (μ.2.1 o k)
  | 1 => .int (μ.2.1 o k)
  | _ => va_rf ((μ.2.2.2 o k).map ad)
def q_cell (ad : Nat → Nat) (kA : Nat → ClassId) (μ : q_Mem) (o : Nat) (q : Nat × Nat) : va_E :=
  if q.1 ≤ 10 then .inr (q.1, (List.range (q_N q.1)).map fun k => q_fv ad μ o q.1 k)
  else if q.1 = 100 then .inl (kA 100, q.2, .inl (μ.2.1 o))
  else if q.1 = 101 then .inl (kA 101, q.2, .inr (.inl (μ.2.2.1 o)))
  else .inl (kA q.1, q.2, .inr (.inr (.inr (.inr fun i => (μ.2.2.2 o i).map ad))))
def q_world (ad : Nat → Nat) (kA : Nat → ClassId) (μ : q_Mem) : va_W := (List.range (μ.1.length - 1)).map fun i => (ad (i + 1), q_cell ad kA μ (i + 1) (μ.1.getD (i + 1) (0, 0)))
def q_TY (kA : Nat → ClassId) : List (ClassId × FieldType) := [(kA 100, .int), (kA 101, .long), (kA 107, .object RX5), (kA 104, .object RX2), (kA 108, .object RX6)]
/-- the memory is sound: the script stands first, references are of objects that exist -/
def q_ok (L : Nat) (xs : Nat → Int32) (μ : q_Mem) : Prop := μ.1[0]? = some (99, L) ∧ (∀ i, μ.2.1 0 i = xs i) ∧ ∀ o k t, μ.2.2.2 o k = some t → t < μ.1.length
theorem q_world_at {L : Nat} {xs : Nat → Int32} {ad : Nat → Nat} {kA : Nat → ClassId} {μ : q_Mem} (h : q_ok L xs μ) {o : Nat} {q : Nat × Nat} (hq : μ.1[o]? = some q) (hn : q.1 ≠ 99) : o ≠ 0 ∧ (q_world ad kA μ)[o - 1]? = some (ad o, q_cell ad kA μ o q) := by
  have h0 : o ≠ 0 := by
    intro e
    subst e
    rw [h.1] at hq
    cases hq
    exact hn rfl
  refine ⟨h0, ?_⟩
  have hlt : o < μ.1.length := (List.getElem?_eq_some_iff.mp hq).1
  have e : o - 1 + 1 = o := by omega
  unfold q_world
  rw [List.getElem?_map, List.getElem?_range (by omega), Option.map_some, e, List.getD_eq_getElem?_getD, hq]
  rfl
theorem q_world_set {ad : Nat → Nat} {kA : Nat → ClassId} {μ μ' : q_Mem} {o : Nat} {q : Nat × Nat} (h0 : o ≠ 0) (hq : μ.1[o]? = some q) (hs : μ'.1 = μ.1) (hx : ∀ o' q', o' ≠ o → q_cell ad kA μ' o' q' = q_cell ad kA μ o' q') : q_world ad kA μ' = (q_world ad kA μ).set (o - 1) (ad o, q_cell ad kA μ' o q) := by
  apply List.ext_getElem?
  intro i
  have hlt : o < μ.1.length := (List.getElem?_eq_some_iff.mp hq).1
  unfold q_world
  rw [List.getElem?_set, List.getElem?_map, hs, List.length_map, List.length_range]
  by_cases hi : o - 1 = i
  · subst hi
    have e : o - 1 + 1 = o := by omega
    rw [if_pos rfl, if_pos (by omega), List.getElem?_range (by omega), Option.map_some, e, List.getD_eq_getElem?_getD, hq]
    rfl
  · rw [if_neg hi, List.getElem?_map]
    by_cases hl : i < μ.1.length - 1
    · rw [List.getElem?_range hl]
      simp only [Option.map_some]
      rw [hx _ _ (by omega)]
    · rw [List.getElem?_eq_none (by simp; omega)]
      rfl
theorem q_okA_cases {k : Nat} (h : q_okA k = true) : k = 107 ∨ k = 104 ∨ k = 108 := by
  unfold q_okA at h
  simp only [Bool.or_eq_true, beq_iff_eq] at h
  omega
theorem q_tyA {kA : Nat → ClassId} {k : Nat} (h : q_okA k = true) : ∃ t : Nat, (q_TY kA)[t]? = some (kA k, FieldType.object (q_cn (k - 102))) := by
  rcases q_okA_cases h with rfl | rfl | rfl
  · exact ⟨2, rfl⟩
  · exact ⟨3, rfl⟩
  · exact ⟨4, rfl⟩
theorem q_isO_spec {sh : List (Nat × Nat)} {o c : Nat} (h : q_isO sh o c = true) : ∃ n, sh[o]? = some (c, n) := by
  unfold q_isO at h
  split at h
  · rename_i q hq
    obtain ⟨a, b⟩ := q
    have : a = c := by simpa using h
    subst this
    exact ⟨b, hq⟩
  · cases h
theorem q_arr_spec {sh : List (Nat × Nat)} {o k n : Nat} (h : q_arr sh o k = some n) : sh[o]? = some (k, n) := by
  unfold q_arr at h
  split at h
  · rename_i q hq
    obtain ⟨a, b⟩ := q
    split at h
    · rename_i e
      have : a = k := by simpa using e
      subst this
      cases h
      exact hq
    · cases h
  · cases h
theorem q_ard_spec {j : Nat} {sh : List (Nat × Nat)} {o n : Nat} (h : q_ard j sh o = some n) : sh[o]? = some (100, n) ∨ (j = 226 ∧ o = 0 ∧ sh[o]? = some (99, n)) := by
  unfold q_ard at h
  split at h
  · rename_i q hq
    obtain ⟨a, b⟩ := q
    split at h
    · rename_i e
      cases h
      simp only [Bool.or_eq_true, Bool.and_eq_true, beq_iff_eq] at e
      rcases e with e | ⟨e, e1, e2⟩
      · subst e
        exact Or.inl hq
      · subst e
        exact Or.inr ⟨e1, e2, hq⟩
    · cases h
  · cases h
theorem q_arq_spec {sh : List (Nat × Nat)} {o : Nat} {N : Nat × Nat} (h : q_arq sh o = some N) : sh[o]? = some (102 + N.1, N.2) ∧ q_okA (102 + N.1) = true := by
  unfold q_arq at h
  split at h
  · rename_i q hq
    obtain ⟨a, b⟩ := q
    split at h
    · rename_i e
      cases h
      have e2 := q_okA_cases e
      have e3 : 102 + (a - 102) = a := by
        dsimp only at e2
        omega
      dsimp only at e e3 ⊢
      rw [e3]
      exact ⟨hq, e⟩
    · cases h
  · cases h
theorem q_arl_spec {j : Nat} {sh : List (Nat × Nat)} {o n : Nat} (h : q_arl j sh o = some n) : (∃ k, sh[o]? = some (k, n) ∧ (k = 100 ∨ k = 101 ∨ q_okA k = true)) ∨ (j = 226 ∧ o = 0 ∧ sh[o]? = some (99, n)) := by
  unfold q_arl at h
  split at h
  · rename_i q hq
    obtain ⟨a, b⟩ := q
    split at h
    · rename_i e
      cases h
      simp only [Bool.or_eq_true, Bool.and_eq_true, beq_iff_eq] at e
      rcases e with e | e | e | ⟨e, e1, e2⟩
      · exact Or.inl ⟨a, hq, Or.inl e⟩
      · exact Or.inl ⟨a, hq, Or.inr (Or.inl e)⟩
      · exact Or.inl ⟨a, hq, Or.inr (Or.inr e)⟩
      · subst e
        exact Or.inr ⟨e1, e2, hq⟩
    · cases h
  · cases h
/-- cells of a changed memory -/
theorem q_cell_congr {ad : Nat → Nat} {kA : Nat → ClassId} {μ μ' : q_Mem} {o : Nat} {q : Nat × Nat} (h1 : μ'.2.1 o = μ.2.1 o) (h2 : μ'.2.2.1 o = μ.2.2.1 o) (h3 : μ'.2.2.2 o = μ.2.2.2 o) : q_cell ad kA μ' o q = q_cell ad kA μ o q := by
  unfold q_cell q_fv
  rw [h1, h2, h3]
theorem q_sI_ne {μ : q_Mem} {o k o' : Nat} {v : Int32} (h : o' ≠ o) : (q_sI μ o k v).2.1 o' = μ.2.1 o' := by
  funext b
  simp [q_sI, h]
theorem q_sI_eq {μ : q_Mem} {o k : Nat} {v : Int32} : (q_sI μ o k v).2.1 o = upd (μ.2.1 o) k v := by
  funext b
  simp [q_sI, upd]
theorem q_sL_ne {μ : q_Mem} {o k o' : Nat} {v : Int64} (h : o' ≠ o) : (q_sL μ o k v).2.2.1 o' = μ.2.2.1 o' := by
  funext b
  simp [q_sL, h]
theorem q_sL_eq {μ : q_Mem} {o k : Nat} {v : Int64} : (q_sL μ o k v).2.2.1 o = vp_updL (μ.2.2.1 o) k v := by
  funext b
  simp [q_sL, vp_updL]
theorem q_sR_ne {μ : q_Mem} {o k o' : Nat} {v : Option Nat} (h : o' ≠ o) : (q_sR μ o k v).2.2.2 o' = μ.2.2.2 o' := by
  funext b
  simp [q_sR, h]
theorem q_wI {L : Nat} {xs : Nat → Int32} {ad : Nat → Nat} {kA : Nat → ClassId} {μ : q_Mem} (h : q_ok L xs μ) {o k : Nat} {v : Int32} {q : Nat × Nat} (hq : μ.1[o]? = some q) (hn : q.1 ≠ 99) : q_world ad kA (q_sI μ o k v) = (q_world ad kA μ).set (o - 1) (ad o, q_cell ad kA (q_sI μ o k v) o q) :=
  q_world_set (q_world_at (ad := ad) (kA := kA) h hq hn).1 hq rfl fun o' q' hne => q_cell_congr (q_sI_ne hne) rfl rfl
theorem q_wL {L : Nat} {xs : Nat → Int32} {ad : Nat → Nat} {kA : Nat → ClassId} {μ : q_Mem} (h : q_ok L xs μ) {o k : Nat} {v : Int64} {q : Nat × Nat} (hq : μ.1[o]? = some q) (hn : q.1 ≠ 99) : q_world ad kA (q_sL μ o k v) = (q_world ad kA μ).set (o - 1) (ad o, q_cell ad kA (q_sL μ o k v) o q) :=
  q_world_set (q_world_at (ad := ad) (kA := kA) h hq hn).1 hq rfl fun o' q' hne => q_cell_congr rfl (q_sL_ne hne) rfl
theorem q_wR {L : Nat} {xs : Nat → Int32} {ad : Nat → Nat} {kA : Nat → ClassId} {μ : q_Mem} (h : q_ok L xs μ) {o k : Nat} {v : Option Nat} {q : Nat × Nat} (hq : μ.1[o]? = some q) (hn : q.1 ≠ 99) : q_world ad kA (q_sR μ o k v) = (q_world ad kA μ).set (o - 1) (ad o, q_cell ad kA (q_sR μ o k v) o q) :=
  q_world_set (q_world_at (ad := ad) (kA := kA) h hq hn).1 hq rfl fun o' q' hne => q_cell_congr rfl rfl (q_sR_ne hne)
theorem q_ok_sI {L : Nat} {xs : Nat → Int32} {μ : q_Mem} (h : q_ok L xs μ) {o k : Nat} {v : Int32} (h0 : o ≠ 0) : q_ok L xs (q_sI μ o k v) := ⟨h.1, fun i => by rw [q_sI_ne (Ne.symm h0)]; exact h.2.1 i, h.2.2⟩
theorem q_ok_sL {L : Nat} {xs : Nat → Int32} {μ : q_Mem} (h : q_ok L xs μ) {o k : Nat} {v : Int64} : q_ok L xs (q_sL μ o k v) := h
theorem q_ok_sR {L : Nat} {xs : Nat → Int32} {μ : q_Mem} (h : q_ok L xs μ) {o k t : Nat} (ht : t < μ.1.length) : q_ok L xs (q_sR μ o k (some t)) := ⟨h.1, h.2.1, fun a b u hu => by
  simp only [q_sR] at hu ⊢
  split at hu
  · cases hu; exact ht
  · exact h.2.2 a b u hu⟩
theorem q_ok_new {L : Nat} {xs : Nat → Int32} {μ : q_Mem} (h : q_ok L xs μ) (k n : Nat) : q_ok L xs (q_new μ k n) := by
  have hl : 0 < μ.1.length := (List.getElem?_eq_some_iff.mp h.1).1
  refine ⟨?_, fun i => ?_, fun a b t ht => ?_⟩
  · show (μ.1 ++ [(k, n)])[0]? = _
    rw [List.getElem?_append_left hl]
    exact h.1
  · show (if 0 = μ.1.length then 0 else μ.2.1 0 i) = xs i
    rw [if_neg (by omega)]
    exact h.2.1 i
  · show t < (μ.1 ++ [(k, n)]).length
    rw [List.length_append]
    have h2 : (if a = μ.1.length then none else μ.2.2.2 a b) = some t := ht
    split at h2
    · cases h2
    · have := h.2.2 a b t h2
      simp only [List.length_cons, List.length_nil]
      omega
/-- a new object: the world grows by its cell -/
theorem q_wnew {L : Nat} {xs : Nat → Int32} {ad : Nat → Nat} {kA : Nat → ClassId} {μ : q_Mem} (h : q_ok L xs μ) (k n q : Nat) : q_world (fun i => if i = μ.1.length then q else ad i) kA (q_new μ k n) = q_world ad kA μ ++ [(q, q_cell ad kA (q_new μ k n) μ.1.length (k, n))] := by
  have hl : 0 < μ.1.length := (List.getElem?_eq_some_iff.mp h.1).1
  have hc : ∀ (o : Nat) (z : Nat × Nat), q_cell (fun i => if i = μ.1.length then q else ad i) kA (q_new μ k n) o z = q_cell ad kA (q_new μ k n) o z := by
    intro o z
    have hm : ∀ i, ((q_new μ k n).2.2.2 o i).map (fun i => if i = μ.1.length then q else ad i) = ((q_new μ k n).2.2.2 o i).map ad := by
      intro i
      cases hR : (q_new μ k n).2.2.2 o i with
      | none => rfl
      | some t =>
        have ht : t < μ.1.length := by
          have h2 : (if o = μ.1.length then none else μ.2.2.2 o i) = some t := hR
          split at h2
          · cases h2
          · exact h.2.2 o i t h2
        simp only [Option.map_some]
        rw [if_neg (by omega)]
    unfold q_cell q_fv
    simp only [hm]
  have hc2 : ∀ (o : Nat) (z : Nat × Nat), o ≠ μ.1.length → q_cell ad kA (q_new μ k n) o z = q_cell ad kA μ o z := fun o z hne => q_cell_congr (by funext b; simp [q_new, hne]) (by funext b; simp [q_new, hne]) (by funext b; simp [q_new, hne])
  apply List.ext_getElem?
  intro i
  have hlen : (q_new μ k n).1.length - 1 = (μ.1.length - 1) + 1 := by
    show (μ.1 ++ [(k, n)]).length - 1 = _
    rw [List.length_append]
    simp only [List.length_cons, List.length_nil]
    omega
  unfold q_world
  rw [hlen, List.getElem?_map]
  by_cases hi : i < μ.1.length - 1
  · rw [List.getElem?_append_left (by simp; omega), List.getElem?_map, List.getElem?_range (by omega), List.getElem?_range hi]
    simp only [Option.map_some]
    rw [if_neg (by omega), hc, hc2 _ _ (by omega)]
    have e : (q_new μ k n).1.getD (i + 1) (0, 0) = μ.1.getD (i + 1) (0, 0) := by
      show (μ.1 ++ [(k, n)]).getD (i + 1) (0, 0) = _
      rw [List.getD_eq_getElem?_getD, List.getD_eq_getElem?_getD, List.getElem?_append_left (by omega)]
    rw [e]
  · by_cases hi2 : i = μ.1.length - 1
    · subst hi2
      have e1 : μ.1.length - 1 + 1 = μ.1.length := by omega
      rw [List.getElem?_append_right (by simp), List.getElem?_range (by omega)]
      simp only [Option.map_some, List.length_map, List.length_range, Nat.sub_self, List.getElem?_cons_zero]
      rw [e1, if_pos rfl, hc]
      have e : (q_new μ k n).1.getD μ.1.length (0, 0) = (k, n) := by
        show (μ.1 ++ [(k, n)]).getD μ.1.length (0, 0) = _
        rw [List.getD_eq_getElem?_getD, List.getElem?_append_right (Nat.le_refl _), Nat.sub_self]
        rfl
      rw [e]
    · rw [List.getElem?_eq_none (by simp; omega), List.getElem?_eq_none (by simp; omega)]
      rfl
/-- the locals: what the list says is held -/
def q_LS (ad : Nat → Nat) (lg : List Nat) (ls : List (Option Value)) (lsR : Array Slot) (nL : Nat) : Prop := ls.length = nL ∧ lsR.size = nL ∧ lv_wf lsR ∧ ∀ (i : Nat) (v : Value), ls[i]? = some (some v) → lsR[i]? = some (.val (q_rn ad v)) ∧ (v.category = 2 → lg.contains i = true)
/-- as the kit's list -/
def q_as (ad : Nat → Nat) (ls : List (Option Value)) : List (Nat × Value) := (List.range ls.length).filterMap fun i => (ls[i]?).join.map fun v => (i, q_rn ad v)
theorem q_as_mem {ad : Nat → Nat} {ls : List (Option Value)} {q : Nat × Value} : q ∈ q_as ad ls ↔ ∃ v, ls[q.1]? = some (some v) ∧ q.2 = q_rn ad v := by
  unfold q_as
  rw [List.mem_filterMap]
  constructor
  · rintro ⟨i, hi, h⟩
    cases h1 : ls[i]? with
    | none => rw [h1] at h; cases h
    | some x =>
      cases x with
      | none => rw [h1] at h; cases h
      | some v =>
        rw [h1] at h
        cases h
        exact ⟨v, h1, rfl⟩
  · rintro ⟨v, h1, h2⟩
    refine ⟨q.1, List.mem_range.mpr (List.getElem?_eq_some_iff.mp h1).1, ?_⟩
    rw [h1]
    obtain ⟨a, b⟩ := q
    simp only at h2
    subst h2
    rfl
theorem q_LS.has {ad : Nat → Nat} {lg : List Nat} {ls : List (Option Value)} {lsR : Array Slot} {nL : Nat} (h : q_LS ad lg ls lsR nL) : lv_has lsR nL (q_as ad ls) := ⟨h.2.1, h.2.2.1, fun q hq => by
  obtain ⟨v, h1, h2⟩ := q_as_mem.mp hq
  rw [h2]
  exact (h.2.2.2 _ _ h1).1⟩
theorem q_kill_len (lg : List Nat) (ls : List (Option Value)) (i : Nat) : (q_kill lg ls i).length = ls.length := by
  unfold q_kill
  split
  · rfl
  · split <;> simp
theorem q_kill_get {lg : List Nat} {ls : List (Option Value)} {i k : Nat} {v : Value} (h : (q_kill lg ls i)[k]? = some (some v)) : ls[k]? = some (some v) ∧ (lg.contains k = true → k + 1 ≠ i) := by
  unfold q_kill at h
  split at h
  · exact ⟨h, fun _ e => by omega⟩
  · rename_i m
    split at h
    · rename_i hc
      by_cases hk : m = k
      · subst hk
        rw [List.getElem?_set] at h
        split at h
        · split at h <;> cases h
        · exact absurd rfl ‹_›
      · rw [List.getElem?_set_ne hk] at h
        exact ⟨h, fun _ e => hk (by omega)⟩
    · rename_i hc
      refine ⟨h, fun hk e => ?_⟩
      have : k = m := by omega
      subst this
      rw [hk] at hc
      cases hc
theorem q_LS.put1 {ad : Nat → Nat} {lg : List Nat} {ls : List (Option Value)} {lsR lsR' : Array Slot} {nL i : Nat} {v : Value} (h : q_LS ad lg ls lsR nL) (hi : i < nL) (hc : v.category = 1) (h' : lv_has lsR' nL ((i, q_rn ad v) :: (q_as ad ls).filter (fun q => !(q.1 == i) && !(q.1 + 1 == i && q.2.category == 2)))) : q_LS ad lg (q_put1 lg ls i v) lsR' nL := by
  refine ⟨by unfold q_put1; rw [List.length_set, q_kill_len]; exact h.1, h'.1, h'.2.1, fun k w hk => ?_⟩
  unfold q_put1 at hk
  by_cases hki : i = k
  · subst hki
    rw [List.getElem?_set_self (by rw [q_kill_len, h.1]; exact hi)] at hk
    cases hk
    exact ⟨h'.2.2 (i, q_rn ad v) List.mem_cons_self, fun h2 => by rw [hc] at h2; cases h2⟩
  · rw [List.getElem?_set_ne hki] at hk
    obtain ⟨h1, h2⟩ := q_kill_get hk
    refine ⟨h'.2.2 (k, q_rn ad w) (List.mem_cons_of_mem _ (List.mem_filter.mpr ⟨q_as_mem.mpr ⟨w, h1, rfl⟩, ?_⟩)), (h.2.2.2 k w h1).2⟩
    simp only [Bool.and_eq_true, Bool.not_eq_true', beq_eq_false_iff_ne, ne_eq, Bool.and_eq_false_iff]
    refine ⟨fun e => hki e.symm, ?_⟩
    by_cases hc2 : w.category = 2
    · exact Or.inl (h2 ((h.2.2.2 k w h1).2 hc2))
    · exact Or.inr (by rw [q_rn_cat]; exact hc2)
theorem q_LS.put2 {ad : Nat → Nat} {lg : List Nat} {ls : List (Option Value)} {lsR lsR' : Array Slot} {nL i : Nat} {v : Value} (h : q_LS ad lg ls lsR nL) (hi : i + 1 < nL) (hg : lg.contains i = true) (h' : lv_has lsR' nL ((i, q_rn ad v) :: (q_as ad ls).filter (fun q => !(q.1 == i) && (!(q.1 == i + 1) && !(q.1 + 1 == i && q.2.category == 2))))) : q_LS ad lg (q_put2 lg ls i v) lsR' nL := by
  refine ⟨by unfold q_put2; rw [List.length_set, List.length_set, q_kill_len]; exact h.1, h'.1, h'.2.1, fun k w hk => ?_⟩
  unfold q_put2 at hk
  by_cases hki : i = k
  · subst hki
    rw [List.getElem?_set_self (by rw [List.length_set, q_kill_len, h.1]; omega)] at hk
    cases hk
    exact ⟨h'.2.2 (i, q_rn ad v) List.mem_cons_self, fun _ => hg⟩
  · rw [List.getElem?_set_ne hki] at hk
    by_cases hk1 : i + 1 = k
    · subst hk1
      rw [List.getElem?_set_self (by rw [q_kill_len, h.1]; exact hi)] at hk
      cases hk
    · rw [List.getElem?_set_ne hk1] at hk
      obtain ⟨h1, h2⟩ := q_kill_get hk
      refine ⟨h'.2.2 (k, q_rn ad w) (List.mem_cons_of_mem _ (List.mem_filter.mpr ⟨q_as_mem.mpr ⟨w, h1, rfl⟩, ?_⟩)), (h.2.2.2 k w h1).2⟩
      simp only [Bool.and_eq_true, Bool.not_eq_true', beq_eq_false_iff_ne, ne_eq, Bool.and_eq_false_iff]
      refine ⟨fun e => hki e.symm, fun e => hk1 e.symm, ?_⟩
      by_cases hc2 : w.category = 2
      · exact Or.inl (h2 ((h.2.2.2 k w h1).2 hc2))
      · exact Or.inr (by rw [q_rn_cat]; exact hc2)
end
section
/-! soundness: what the small machine does, the machine does (all but calls) -/
def q_gw : List Cond := lw_tbl.filter goodWord
theorem q_gw_in {w : Cond} (h : w ∈ lw_tbl) (hg : goodWord w = true) : w ∈ q_gw := List.mem_filter.mpr ⟨h, hg⟩
theorem q_uwg : ∀ c, c < 11 → ∀ w ∈ u_ws (q_cn c) (q_T c) (q_N c), w ∈ q_gw := fun c h w hw => q_gw_in (q_uws c h w hw) (by
  obtain ⟨k, -, rfl⟩ := List.mem_map.mp hw
  unfold u_lay
  split <;> rfl)
/-- the facts that do not ride with every state: constructors of nest mates, arrays of objects -/
def q_nest : List Cond := lw_tbl.filter fun w => match w with
  | .methodLinkNest _ _ _ _ => true
  | _ => false
def q_KK (dC : Nat → ClassId) (dI : Nat → Nat → Nat) (kA : Nat → ClassId) (U : State) : Prop := va_K (dC, dI) vwCl (q_TY kA) U ∧ (∀ w ∈ q_nest, va_Nw w U) ∧ (va_AO RX5 U ∧ va_AO RX2 U ∧ va_AO RX6 U)
theorem q_KK.warm {dC : Nat → ClassId} {dI : Nat → Nat → Nat} {kA : Nat → ClassId} {s U : State} (h : q_KK dC dI kA s) (hW : s.WarmedH U.vm) : q_KK dC dI kA U := by
  refine ⟨va_K.moved hW.alike h.1, fun w hw => ?_, va_AO.moved hW.alike h.2.2.1, va_AO.moved hW.alike h.2.2.2.1, va_AO.moved hW.alike h.2.2.2.2⟩
  have h1 := h.2.1 w hw
  have h2 := (List.mem_filter.mp hw).2
  cases w <;> first | (cases h2; done) | exact va_Nw.warmM hW h1
theorem q_KK.same {dC : Nat → ClassId} {dI : Nat → Nat → Nat} {kA : Nat → ClassId} {s U : State} (h : q_KK dC dI kA s) (hW : s.vm = U.vm) : q_KK dC dI kA U := by
  have ha : s.vm.Alike U.vm := hW ▸ Vm.Alike.refl s.vm
  refine ⟨va_K.moved ha h.1, fun w hw => ?_, va_AO.moved ha h.2.2.1, va_AO.moved ha h.2.2.2.1, va_AO.moved ha h.2.2.2.2⟩
  have h1 := h.2.1 w hw
  have h2 := (List.mem_filter.mp hw).2
  cases w <;> first | (cases h2; done) | exact va_Nw.same rfl hW h1
def q_mc (j : Nat) : Nat := (q_m j).2.1.2.2.2.1
def q_ms (j : Nat) : Nat := (q_m j).2.1.2.2.2.2
/-- the frame of method j: what holds from its entry on -/
def q_Fr (p : Program) (R : Room) (s : State) (m : MethodId) (args : Array Value) (meth : Method) (c : Code) (dC : Nat → ClassId) (dI : Nat → Nat → Nat) (kA : Nat → ClassId) (A : Nat → Prop) (L b0 : Nat) (xs : Nat → Int32) (n0 : Nat) (ad0 : Nat → Nat) (j : Nat) : Prop :=
  (p.tables.exec = Jvm.exec ∧ c.code = (q_m j).1.2.1 ∧ c.maxLocals = (q_m j).1.2.2.1 ∧ s.vm.findClass (q_own j) = some m.cls) ∧ (∀ w ∈ q_gw, w.before args s = true) ∧ q_KK dC dI kA s ∧ (∀ q, s.heap.size ≤ q → A q) ∧
  (j = 226 → va_X b0 L xs s s.heap ∧ b0 < s.heap.size ∧ ¬ A b0 ∧ ad0 0 = b0 ∧ 0 < n0) ∧ (1 ≤ R.frames ∧ 64 ≤ R.locals ∧ q_mc j ≤ R.cells ∧ q_ms j ≤ R.slots) ∧ ((q_m j).1.1.name = "<init>" → meth.name = "<init>")
/-- how the memory lies in the heap -/
def q_Re (s : State) (dC : Nat → ClassId) (dI : Nat → Nat → Nat) (kA : Nat → ClassId) (A : Nat → Prop) (L : Nat) (xs : Nat → Int32) (n0 : Nat) (ad0 : Nat → Nat) (j : Nat) (ad : Nat → Nat) (H : Heap) (locs : List Loc) (lsR : Array Slot) (ls : List (Option Value)) (μ : q_Mem) : Prop :=
  (q_ok L xs μ ∧ n0 ≤ μ.1.length ∧ (∀ k, k < n0 → ad k = ad0 k) ∧ (q_mc j = 0 → ad = ad0)) ∧ (va_P (dC, dI) vwCl (q_world ad kA μ) H ∧ va_D A (q_world ad kA μ) ∧ va_S A s.heap H locs) ∧ q_LS ad (q_m j).2.2.1 ls lsR (q_m j).1.2.2.1
def q_V (p : Program) (l : Launch) (e : Env) (R : Room) (s : State) (m : MethodId) (args : Array Value) (below : List Frame) (meth : Method) (c : Code) (Qf : State → Prop) (dC : Nat → ClassId) (dI : Nat → Nat → Nat) (kA : Nat → ClassId) (A : Nat → Prop) (L : Nat) (xs : Nat → Int32) (n0 : Nat) (ad0 : Nat → Nat) (j : Nat) (z : q_St) : Prop :=
  ∀ (ad : Nat → Nat) (H : Heap) (locs : List Loc) (lsR : Array Slot), q_Re s dC dI kA A L xs n0 ad0 j ad H locs lsR z.2.1 z.2.2.2.1 → W p l e R s m args below meth c H locs z.2.2.2.2.1 z.2.2.2.2.2 Qf (F0 m z.1 lsR (z.2.2.1.map (q_rn ad)))
section SND
variable {p : Program} {l : Launch} {e : Env} {R : Room} {s : State} {m : MethodId} {args : Array Value} {below : List Frame} {meth : Method} {c : Code} {Qf : State → Prop} {dC : Nat → ClassId} {dI : Nat → Nat → Nat} {kA : Nat → ClassId} {A : Nat → Prop} {L b0 : Nat} {xs : Nat → Int32} {n0 : Nat} {ad0 : Nat → Nat} {j : Nat}
theorem q_Re.ls {ad : Nat → Nat} {H : Heap} {locs : List Loc} {lsR : Array Slot} {ls : List (Option Value)} {μ : q_Mem} (r : q_Re s dC dI kA A L xs n0 ad0 j ad H locs lsR ls μ) {i : Nat} {v : Value} (h : ls[i]? = some (some v)) : lsR[i]? = some (.val (q_rn ad v)) := (r.2.2.2.2.2 i v h).1
theorem q_Re.put1 {ad : Nat → Nat} {H : Heap} {locs : List Loc} {lsR lsR' : Array Slot} {ls : List (Option Value)} {μ : q_Mem} (r : q_Re s dC dI kA A L xs n0 ad0 j ad H locs lsR ls μ) {i : Nat} {v : Value} (hi : Nat.blt i ls.length = true) (hc : v.category = 1) (h' : lv_has lsR' (q_m j).1.2.2.1 ((i, q_rn ad v) :: (q_as ad ls).filter (fun q => !(q.1 == i) && !(q.1 + 1 == i && q.2.category == 2)))) : q_Re s dC dI kA A L xs n0 ad0 j ad H locs lsR' (q_put1 (q_m j).2.2.1 ls i v) μ :=
  ⟨r.1, r.2.1, r.2.2.put1 (by rw [← r.2.2.1]; exact Nat.ble_eq.mp hi) hc h'⟩
theorem q_Re.put2 {ad : Nat → Nat} {H : Heap} {locs : List Loc} {lsR lsR' : Array Slot} {ls : List (Option Value)} {μ : q_Mem} (r : q_Re s dC dI kA A L xs n0 ad0 j ad H locs lsR ls μ) {i : Nat} {v : Value} (hi : Nat.blt (i + 1) ls.length = true) (hg : (q_m j).2.2.1.contains i = true) (h' : lv_has lsR' (q_m j).1.2.2.1 ((i, q_rn ad v) :: (q_as ad ls).filter (fun q => !(q.1 == i) && (!(q.1 == i + 1) && !(q.1 + 1 == i && q.2.category == 2))))) : q_Re s dC dI kA A L xs n0 ad0 j ad H locs lsR' (q_put2 (q_m j).2.2.1 ls i v) μ :=
  ⟨r.1, r.2.1, r.2.2.put2 (by rw [← r.2.2.1]; exact Nat.ble_eq.mp hi) hg h'⟩
theorem q_Re.lt {ad : Nat → Nat} {H : Heap} {locs : List Loc} {lsR : Array Slot} {ls : List (Option Value)} {μ : q_Mem} (r : q_Re s dC dI kA A L xs n0 ad0 j ad H locs lsR ls μ) {i : Nat} (hi : Nat.blt i ls.length = true) : i < (q_m j).1.2.2.1 := by rw [← r.2.2.1]; exact Nat.ble_eq.mp hi
/-- the questions of a switch -/
theorem q_sw_spec {go : Int → Prop} {d : Int} {x : Int32} : ∀ {ps : List (Int × Int)}, q_sw (fun c _ x y => (c → x) ∧ (¬ c → y)) go d x ps → go (Op.lookupswitch.offset ps d x.toInt)
  | [], h => h
  | (a, o) :: l, h => by
    rw [Op.lookupswitch.offset_cons]
    by_cases hx : a = x.toInt
    · rw [if_pos hx]
      exact h.1 hx.symm
    · rw [if_neg hx]
      exact q_sw_spec (h.2 (fun e => hx e.symm))
theorem q_tab_spec (d : Int) : ∀ (os : List Int) (lo k : Int), Op.lookupswitch.offset (q_tab lo os) d k = if k < lo then d else (os[(k - lo).toNat]?).getD d
  | [], lo, k => by simp [q_tab, Op.lookupswitch.offset_nil]
  | o :: l, lo, k => by
    rw [q_tab, Op.lookupswitch.offset_cons, q_tab_spec d l (lo + 1) k]
    by_cases h : lo = k
    · subst h
      simp
    · rw [if_neg h]
      by_cases h1 : k < lo
      · rw [if_pos h1, if_pos (by omega)]
      · rw [if_neg h1, if_neg (by omega)]
        have e : (k - lo).toNat = (k - (lo + 1)).toNat + 1 := by omega
        rw [e, List.getElem?_cons_succ]
theorem q_jmp_spec {k : Nat → Prop} {pc : Nat} {off : Int} (h : q_jmp False k pc off) : ∃ t : Nat, (pc : Int) + off = (t : Int) ∧ k t := by
  unfold q_jmp q_onB at h
  split at h
  · rename_i hb
    exact ⟨_, of_decide_eq_true hb, h⟩
  · exact h.elim
theorem q_onB_spec {b : Bool} {x : Prop} (h : q_onB False b x) : b = true ∧ x := by
  unfold q_onB at h
  split at h
  · exact ⟨rfl, h⟩
  · exact h.elim
theorem q_onS_spec {α : Type} {y : Option α} {k : α → Prop} (h : q_onS False y k) : ∃ a, y = some a ∧ k a := by
  unfold q_onS at h
  split at h
  · exact ⟨_, rfl, h⟩
  · exact h.elim
theorem q_onI_spec {v : Value} {k : Int32 → Prop} (h : q_onI False v k) : ∃ x, v = .int x ∧ k x := by
  unfold q_onI at h
  split at h
  · exact ⟨_, rfl, h⟩
  · exact h.elim
theorem q_onJ_spec {v : Value} {k : Int64 → Prop} (h : q_onJ False v k) : ∃ x, v = .long x ∧ k x := by
  unfold q_onJ at h
  split at h
  · exact ⟨_, rfl, h⟩
  · exact h.elim
theorem q_onR_spec {v : Value} {k : Nat → Prop} (h : q_onR False v k) : ∃ x, v = .ref x ∧ k x := by
  unfold q_onR at h
  split at h
  · exact ⟨_, rfl, h⟩
  · exact h.elim
end SND
end
section
section OPS
variable {p : Program} {l : Launch} {e : Env} {R : Room} {s : State} {m : MethodId} {args : Array Value} {below : List Frame} {meth : Method} {c : Code} {Qf : State → Prop} {dC : Nat → ClassId} {dI : Nat → Nat → Nat} {kA : Nat → ClassId} {A : Nat → Prop} {L b0 : Nat} {xs : Nat → Int32} {n0 : Nat} {ad0 : Nat → Nat} {j pc a b uc us idx : Nat} {ls : List (Option Value)} {st : List Value} {μ : q_Mem} {x y : Int32} {x8 y8 : Int64} {v w : Value} {off k : Int}
theorem q_i_iconst (F : q_Fr p R s m args meth c dC dI kA A L b0 xs n0 ad0 j) (hdg : decode (q_m j).1.2.1 pc = .ok (.iconst k, 1)) (h : q_V p l e R s m args below meth c Qf dC dI kA A L xs n0 ad0 j (pc + 1, ls, .int (Int32.ofInt k) :: st, μ, uc, us)) : q_V p l e R s m args below meth c Qf dC dI kA A L xs n0 ad0 j (pc, ls, st, μ, uc, us) := fun ad H locs lsR r => lv_iconst F.1.1 F.1.2.1 hdg rfl (h ad H locs lsR r)
theorem q_i_bipush (F : q_Fr p R s m args meth c dC dI kA A L b0 xs n0 ad0 j) (hdg : decode (q_m j).1.2.1 pc = .ok (.bipush k, 2)) (h : q_V p l e R s m args below meth c Qf dC dI kA A L xs n0 ad0 j (pc + 2, ls, .int ((Int8.ofInt k).toInt32) :: st, μ, uc, us)) : q_V p l e R s m args below meth c Qf dC dI kA A L xs n0 ad0 j (pc, ls, st, μ, uc, us) := fun ad H locs lsR r => lv_bipush F.1.1 F.1.2.1 hdg rfl (h ad H locs lsR r)
theorem q_i_sipush (F : q_Fr p R s m args meth c dC dI kA A L b0 xs n0 ad0 j) (hdg : decode (q_m j).1.2.1 pc = .ok (.sipush k, 3)) (h : q_V p l e R s m args below meth c Qf dC dI kA A L xs n0 ad0 j (pc + 3, ls, .int ((Int16.ofInt k).toInt32) :: st, μ, uc, us)) : q_V p l e R s m args below meth c Qf dC dI kA A L xs n0 ad0 j (pc, ls, st, μ, uc, us) := fun ad H locs lsR r => lv_sipush F.1.1 F.1.2.1 hdg rfl (h ad H locs lsR r)
theorem q_i_lconst {q : Fin 2} (F : q_Fr p R s m args meth c dC dI kA A L b0 xs n0 ad0 j) (hdg : decode (q_m j).1.2.1 pc = .ok (.lconst q, 1)) (h : q_V p l e R s m args below meth c Qf dC dI kA A L xs n0 ad0 j (pc + 1, ls, .long (Int64.ofNat (q : Nat)) :: st, μ, uc, us)) : q_V p l e R s m args below meth c Qf dC dI kA A L xs n0 ad0 j (pc, ls, st, μ, uc, us) := fun ad H locs lsR r => lv_lconst F.1.1 F.1.2.1 hdg rfl (h ad H locs lsR r)
theorem q_i_iload_n {q : Fin 4} {t : Nat} (F : q_Fr p R s m args meth c dC dI kA A L b0 xs n0 ad0 j) (hv : ls[(q : Nat)]? = some (some (.int x))) (hdg : decode (q_m j).1.2.1 pc = .ok (.iload_n q, 1)) (h : q_V p l e R s m args below meth c Qf dC dI kA A L xs n0 ad0 j (pc + 1, ls, .int x :: st, μ, uc, us)) : q_V p l e R s m args below meth c Qf dC dI kA A L xs n0 ad0 j (pc, ls, st, μ, uc, us) := fun ad H locs lsR r => lv_iload_n F.1.1 F.1.2.1 hdg rfl (r.ls hv) (h ad H locs lsR r)
theorem q_i_iload {q : Nat} {t : Nat} (F : q_Fr p R s m args meth c dC dI kA A L b0 xs n0 ad0 j) (hv : ls[q]? = some (some (.int x))) (hdg : decode (q_m j).1.2.1 pc = .ok (.iload q, 2)) (h : q_V p l e R s m args below meth c Qf dC dI kA A L xs n0 ad0 j (pc + 2, ls, .int x :: st, μ, uc, us)) : q_V p l e R s m args below meth c Qf dC dI kA A L xs n0 ad0 j (pc, ls, st, μ, uc, us) := fun ad H locs lsR r => lv_iload F.1.1 F.1.2.1 hdg (r.ls hv) (h ad H locs lsR r)
theorem q_i_lload_n {q : Fin 4} {t : Nat} (F : q_Fr p R s m args meth c dC dI kA A L b0 xs n0 ad0 j) (hv : ls[(q : Nat)]? = some (some (.long x8))) (hdg : decode (q_m j).1.2.1 pc = .ok (.lload_n q, 1)) (h : q_V p l e R s m args below meth c Qf dC dI kA A L xs n0 ad0 j (pc + 1, ls, .long x8 :: st, μ, uc, us)) : q_V p l e R s m args below meth c Qf dC dI kA A L xs n0 ad0 j (pc, ls, st, μ, uc, us) := fun ad H locs lsR r => lv_lload_n F.1.1 F.1.2.1 hdg rfl (r.ls hv) (h ad H locs lsR r)
theorem q_i_lload {q : Nat} {t : Nat} (F : q_Fr p R s m args meth c dC dI kA A L b0 xs n0 ad0 j) (hv : ls[q]? = some (some (.long x8))) (hdg : decode (q_m j).1.2.1 pc = .ok (.lload q, 2)) (h : q_V p l e R s m args below meth c Qf dC dI kA A L xs n0 ad0 j (pc + 2, ls, .long x8 :: st, μ, uc, us)) : q_V p l e R s m args below meth c Qf dC dI kA A L xs n0 ad0 j (pc, ls, st, μ, uc, us) := fun ad H locs lsR r => lv_lload F.1.1 F.1.2.1 hdg (r.ls hv) (h ad H locs lsR r)
theorem q_i_aload_n {q : Fin 4} {t : Nat} (F : q_Fr p R s m args meth c dC dI kA A L b0 xs n0 ad0 j) (hv : ls[(q : Nat)]? = some (some (.ref t))) (hdg : decode (q_m j).1.2.1 pc = .ok (.aload_n q, 1)) (h : q_V p l e R s m args below meth c Qf dC dI kA A L xs n0 ad0 j (pc + 1, ls, .ref t :: st, μ, uc, us)) : q_V p l e R s m args below meth c Qf dC dI kA A L xs n0 ad0 j (pc, ls, st, μ, uc, us) := fun ad H locs lsR r => lv_aload_n F.1.1 F.1.2.1 hdg rfl (r.ls hv) (h ad H locs lsR r)
theorem q_i_aload {q : Nat} {t : Nat} (F : q_Fr p R s m args meth c dC dI kA A L b0 xs n0 ad0 j) (hv : ls[q]? = some (some (.ref t))) (hdg : decode (q_m j).1.2.1 pc = .ok (.aload q, 2)) (h : q_V p l e R s m args below meth c Qf dC dI kA A L xs n0 ad0 j (pc + 2, ls, .ref t :: st, μ, uc, us)) : q_V p l e R s m args below meth c Qf dC dI kA A L xs n0 ad0 j (pc, ls, st, μ, uc, us) := fun ad H locs lsR r => lv_aload F.1.1 F.1.2.1 hdg (r.ls hv) (h ad H locs lsR r)
theorem q_i_istore_n {q : Fin 4} {t : Nat} (F : q_Fr p R s m args meth c dC dI kA A L b0 xs n0 ad0 j) (hi : Nat.blt (q : Nat) ls.length = true) (hdg : decode (q_m j).1.2.1 pc = .ok (.istore_n q, 1)) (h : q_V p l e R s m args below meth c Qf dC dI kA A L xs n0 ad0 j (pc + 1, q_put1 (q_m j).2.2.1 ls (q : Nat) (.int x), st, μ, uc, us)) : q_V p l e R s m args below meth c Qf dC dI kA A L xs n0 ad0 j (pc, ls, .int x :: st, μ, uc, us) := fun ad H locs lsR r => lv_istore_n F.1.1 F.1.2.1 hdg rfl r.2.2.has (r.lt hi) rfl (fun lsR' h' => h ad H locs lsR' (r.put1 hi rfl h'))
theorem q_i_istore {q : Nat} {t : Nat} (F : q_Fr p R s m args meth c dC dI kA A L b0 xs n0 ad0 j) (hi : Nat.blt q ls.length = true) (hdg : decode (q_m j).1.2.1 pc = .ok (.istore q, 2)) (h : q_V p l e R s m args below meth c Qf dC dI kA A L xs n0 ad0 j (pc + 2, q_put1 (q_m j).2.2.1 ls q (.int x), st, μ, uc, us)) : q_V p l e R s m args below meth c Qf dC dI kA A L xs n0 ad0 j (pc, ls, .int x :: st, μ, uc, us) := fun ad H locs lsR r => lv_istore F.1.1 F.1.2.1 hdg r.2.2.has (r.lt hi) rfl (fun lsR' h' => h ad H locs lsR' (r.put1 hi rfl h'))
theorem q_i_astore_n {q : Fin 4} {t : Nat} (F : q_Fr p R s m args meth c dC dI kA A L b0 xs n0 ad0 j) (hi : Nat.blt (q : Nat) ls.length = true) (hdg : decode (q_m j).1.2.1 pc = .ok (.astore_n q, 1)) (h : q_V p l e R s m args below meth c Qf dC dI kA A L xs n0 ad0 j (pc + 1, q_put1 (q_m j).2.2.1 ls (q : Nat) (.ref t), st, μ, uc, us)) : q_V p l e R s m args below meth c Qf dC dI kA A L xs n0 ad0 j (pc, ls, .ref t :: st, μ, uc, us) := fun ad H locs lsR r => lv_astore_n F.1.1 F.1.2.1 hdg rfl r.2.2.has (r.lt hi) rfl (fun lsR' h' => h ad H locs lsR' (r.put1 hi rfl h'))
theorem q_i_astore {q : Nat} {t : Nat} (F : q_Fr p R s m args meth c dC dI kA A L b0 xs n0 ad0 j) (hi : Nat.blt q ls.length = true) (hdg : decode (q_m j).1.2.1 pc = .ok (.astore q, 2)) (h : q_V p l e R s m args below meth c Qf dC dI kA A L xs n0 ad0 j (pc + 2, q_put1 (q_m j).2.2.1 ls q (.ref t), st, μ, uc, us)) : q_V p l e R s m args below meth c Qf dC dI kA A L xs n0 ad0 j (pc, ls, .ref t :: st, μ, uc, us) := fun ad H locs lsR r => lv_astore F.1.1 F.1.2.1 hdg r.2.2.has (r.lt hi) rfl (fun lsR' h' => h ad H locs lsR' (r.put1 hi rfl h'))
theorem q_i_lstore_n {q : Fin 4} (F : q_Fr p R s m args meth c dC dI kA A L b0 xs n0 ad0 j) (hi : Nat.blt ((q : Nat) + 1) ls.length = true) (hg : (q_m j).2.2.1.contains (q : Nat) = true) (hdg : decode (q_m j).1.2.1 pc = .ok (.lstore_n q, 1)) (h : q_V p l e R s m args below meth c Qf dC dI kA A L xs n0 ad0 j (pc + 1, q_put2 (q_m j).2.2.1 ls (q : Nat) (.long x8), st, μ, uc, us)) : q_V p l e R s m args below meth c Qf dC dI kA A L xs n0 ad0 j (pc, ls, .long x8 :: st, μ, uc, us) := fun ad H locs lsR r => lv_lstore_n F.1.1 F.1.2.1 hdg rfl r.2.2.has (r.lt hi) rfl (fun lsR' h' => h ad H locs lsR' (r.put2 hi hg h'))
theorem q_i_lstore {q : Nat} (F : q_Fr p R s m args meth c dC dI kA A L b0 xs n0 ad0 j) (hi : Nat.blt (q + 1) ls.length = true) (hg : (q_m j).2.2.1.contains q = true) (hdg : decode (q_m j).1.2.1 pc = .ok (.lstore q, 2)) (h : q_V p l e R s m args below meth c Qf dC dI kA A L xs n0 ad0 j (pc + 2, q_put2 (q_m j).2.2.1 ls q (.long x8), st, μ, uc, us)) : q_V p l e R s m args below meth c Qf dC dI kA A L xs n0 ad0 j (pc, ls, .long x8 :: st, μ, uc, us) := fun ad H locs lsR r => lv_lstore F.1.1 F.1.2.1 hdg r.2.2.has (r.lt hi) rfl (fun lsR' h' => h ad H locs lsR' (r.put2 hi hg h'))
theorem q_i_iinc {q : Nat} (F : q_Fr p R s m args meth c dC dI kA A L b0 xs n0 ad0 j) (hv : ls[q]? = some (some (.int x))) (hi : Nat.blt q ls.length = true) (hdg : decode (q_m j).1.2.1 pc = .ok (.iinc q k, 3)) (h : q_V p l e R s m args below meth c Qf dC dI kA A L xs n0 ad0 j (pc + 3, q_put1 (q_m j).2.2.1 ls q (.int (x + Int32.ofInt k)), st, μ, uc, us)) : q_V p l e R s m args below meth c Qf dC dI kA A L xs n0 ad0 j (pc, ls, st, μ, uc, us) := fun ad H locs lsR r => by
  obtain ⟨z, hz⟩ := List.getElem?_of_mem (q_as_mem (ad := ad) (q := (q, .int x)).mpr ⟨.int x, hv, rfl⟩)
  exact lv_iinc F.1.1 F.1.2.1 hdg r.2.2.has hz rfl (r.lt hi) rfl (fun lsR' h' => h ad H locs lsR' (r.put1 hi rfl h'))
theorem q_i_iadd (F : q_Fr p R s m args meth c dC dI kA A L b0 xs n0 ad0 j) (hdg : decode (q_m j).1.2.1 pc = .ok (.iadd, 1)) (h : q_V p l e R s m args below meth c Qf dC dI kA A L xs n0 ad0 j (pc + 1, ls, .int (x + y) :: st, μ, uc, us)) : q_V p l e R s m args below meth c Qf dC dI kA A L xs n0 ad0 j (pc, ls, .int y :: .int x :: st, μ, uc, us) := fun ad H locs lsR r => lv_iadd F.1.1 F.1.2.1 hdg (h ad H locs lsR r)
theorem q_i_isub (F : q_Fr p R s m args meth c dC dI kA A L b0 xs n0 ad0 j) (hdg : decode (q_m j).1.2.1 pc = .ok (.isub, 1)) (h : q_V p l e R s m args below meth c Qf dC dI kA A L xs n0 ad0 j (pc + 1, ls, .int (x - y) :: st, μ, uc, us)) : q_V p l e R s m args below meth c Qf dC dI kA A L xs n0 ad0 j (pc, ls, .int y :: .int x :: st, μ, uc, us) := fun ad H locs lsR r => lv_isub F.1.1 F.1.2.1 hdg (h ad H locs lsR r)
theorem q_i_imul (F : q_Fr p R s m args meth c dC dI kA A L b0 xs n0 ad0 j) (hdg : decode (q_m j).1.2.1 pc = .ok (.imul, 1)) (h : q_V p l e R s m args below meth c Qf dC dI kA A L xs n0 ad0 j (pc + 1, ls, .int (x * y) :: st, μ, uc, us)) : q_V p l e R s m args below meth c Qf dC dI kA A L xs n0 ad0 j (pc, ls, .int y :: .int x :: st, μ, uc, us) := fun ad H locs lsR r => lv_imul F.1.1 F.1.2.1 hdg (h ad H locs lsR r)
theorem q_i_iand (F : q_Fr p R s m args meth c dC dI kA A L b0 xs n0 ad0 j) (hdg : decode (q_m j).1.2.1 pc = .ok (.iand, 1)) (h : q_V p l e R s m args below meth c Qf dC dI kA A L xs n0 ad0 j (pc + 1, ls, .int (x &&& y) :: st, μ, uc, us)) : q_V p l e R s m args below meth c Qf dC dI kA A L xs n0 ad0 j (pc, ls, .int y :: .int x :: st, μ, uc, us) := fun ad H locs lsR r => lv_iand F.1.1 F.1.2.1 hdg (h ad H locs lsR r)
theorem q_i_ior (F : q_Fr p R s m args meth c dC dI kA A L b0 xs n0 ad0 j) (hdg : decode (q_m j).1.2.1 pc = .ok (.ior, 1)) (h : q_V p l e R s m args below meth c Qf dC dI kA A L xs n0 ad0 j (pc + 1, ls, .int (x ||| y) :: st, μ, uc, us)) : q_V p l e R s m args below meth c Qf dC dI kA A L xs n0 ad0 j (pc, ls, .int y :: .int x :: st, μ, uc, us) := fun ad H locs lsR r => lv_ior F.1.1 F.1.2.1 hdg (h ad H locs lsR r)
theorem q_i_ixor (F : q_Fr p R s m args meth c dC dI kA A L b0 xs n0 ad0 j) (hdg : decode (q_m j).1.2.1 pc = .ok (.ixor, 1)) (h : q_V p l e R s m args below meth c Qf dC dI kA A L xs n0 ad0 j (pc + 1, ls, .int (x ^^^ y) :: st, μ, uc, us)) : q_V p l e R s m args below meth c Qf dC dI kA A L xs n0 ad0 j (pc, ls, .int y :: .int x :: st, μ, uc, us) := fun ad H locs lsR r => lv_ixor F.1.1 F.1.2.1 hdg (h ad H locs lsR r)
theorem q_i_ishl (F : q_Fr p R s m args meth c dC dI kA A L b0 xs n0 ad0 j) (hdg : decode (q_m j).1.2.1 pc = .ok (.ishl, 1)) (h : q_V p l e R s m args below meth c Qf dC dI kA A L xs n0 ad0 j (pc + 1, ls, .int (x <<< (y &&& 31)) :: st, μ, uc, us)) : q_V p l e R s m args below meth c Qf dC dI kA A L xs n0 ad0 j (pc, ls, .int y :: .int x :: st, μ, uc, us) := fun ad H locs lsR r => lv_ishl F.1.1 F.1.2.1 hdg (h ad H locs lsR r)
theorem q_i_ishr (F : q_Fr p R s m args meth c dC dI kA A L b0 xs n0 ad0 j) (hdg : decode (q_m j).1.2.1 pc = .ok (.ishr, 1)) (h : q_V p l e R s m args below meth c Qf dC dI kA A L xs n0 ad0 j (pc + 1, ls, .int (x >>> (y &&& 31)) :: st, μ, uc, us)) : q_V p l e R s m args below meth c Qf dC dI kA A L xs n0 ad0 j (pc, ls, .int y :: .int x :: st, μ, uc, us) := fun ad H locs lsR r => lv_ishr F.1.1 F.1.2.1 hdg (h ad H locs lsR r)
theorem q_i_iushr (F : q_Fr p R s m args meth c dC dI kA A L b0 xs n0 ad0 j) (hdg : decode (q_m j).1.2.1 pc = .ok (.iushr, 1)) (h : q_V p l e R s m args below meth c Qf dC dI kA A L xs n0 ad0 j (pc + 1, ls, .int (x.toUInt32 >>> (y.toUInt32 &&& Int32.toUInt32 31)).toInt32 :: st, μ, uc, us)) : q_V p l e R s m args below meth c Qf dC dI kA A L xs n0 ad0 j (pc, ls, .int y :: .int x :: st, μ, uc, us) := fun ad H locs lsR r => lv_iushr F.1.1 F.1.2.1 hdg rfl (h ad H locs lsR r)
theorem q_i_idiv (hy : ¬ y = 0) (F : q_Fr p R s m args meth c dC dI kA A L b0 xs n0 ad0 j) (hdg : decode (q_m j).1.2.1 pc = .ok (.idiv, 1)) (h : q_V p l e R s m args below meth c Qf dC dI kA A L xs n0 ad0 j (pc + 1, ls, .int (x / y) :: st, μ, uc, us)) : q_V p l e R s m args below meth c Qf dC dI kA A L xs n0 ad0 j (pc, ls, .int y :: .int x :: st, μ, uc, us) := fun ad H locs lsR r => lv_idiv F.1.1 F.1.2.1 hdg hy (h ad H locs lsR r)
theorem q_i_irem (hy : ¬ y = 0) (F : q_Fr p R s m args meth c dC dI kA A L b0 xs n0 ad0 j) (hdg : decode (q_m j).1.2.1 pc = .ok (.irem, 1)) (h : q_V p l e R s m args below meth c Qf dC dI kA A L xs n0 ad0 j (pc + 1, ls, .int (x - x / y * y) :: st, μ, uc, us)) : q_V p l e R s m args below meth c Qf dC dI kA A L xs n0 ad0 j (pc, ls, .int y :: .int x :: st, μ, uc, us) := fun ad H locs lsR r => lv_irem F.1.1 F.1.2.1 hdg hy (h ad H locs lsR r)
theorem q_i_ineg (F : q_Fr p R s m args meth c dC dI kA A L b0 xs n0 ad0 j) (hdg : decode (q_m j).1.2.1 pc = .ok (.ineg, 1)) (h : q_V p l e R s m args below meth c Qf dC dI kA A L xs n0 ad0 j (pc + 1, ls, .int (-x) :: st, μ, uc, us)) : q_V p l e R s m args below meth c Qf dC dI kA A L xs n0 ad0 j (pc, ls, .int x :: st, μ, uc, us) := fun ad H locs lsR r => lv_ineg F.1.1 F.1.2.1 hdg (h ad H locs lsR r)
theorem q_i_ladd (F : q_Fr p R s m args meth c dC dI kA A L b0 xs n0 ad0 j) (hdg : decode (q_m j).1.2.1 pc = .ok (.ladd, 1)) (h : q_V p l e R s m args below meth c Qf dC dI kA A L xs n0 ad0 j (pc + 1, ls, .long (x8 + y8) :: st, μ, uc, us)) : q_V p l e R s m args below meth c Qf dC dI kA A L xs n0 ad0 j (pc, ls, .long y8 :: .long x8 :: st, μ, uc, us) := fun ad H locs lsR r => lv_ladd F.1.1 F.1.2.1 hdg (h ad H locs lsR r)
theorem q_i_lsub (F : q_Fr p R s m args meth c dC dI kA A L b0 xs n0 ad0 j) (hdg : decode (q_m j).1.2.1 pc = .ok (.lsub, 1)) (h : q_V p l e R s m args below meth c Qf dC dI kA A L xs n0 ad0 j (pc + 1, ls, .long (x8 - y8) :: st, μ, uc, us)) : q_V p l e R s m args below meth c Qf dC dI kA A L xs n0 ad0 j (pc, ls, .long y8 :: .long x8 :: st, μ, uc, us) := fun ad H locs lsR r => lv_lsub F.1.1 F.1.2.1 hdg (h ad H locs lsR r)
theorem q_i_lmul (F : q_Fr p R s m args meth c dC dI kA A L b0 xs n0 ad0 j) (hdg : decode (q_m j).1.2.1 pc = .ok (.lmul, 1)) (h : q_V p l e R s m args below meth c Qf dC dI kA A L xs n0 ad0 j (pc + 1, ls, .long (x8 * y8) :: st, μ, uc, us)) : q_V p l e R s m args below meth c Qf dC dI kA A L xs n0 ad0 j (pc, ls, .long y8 :: .long x8 :: st, μ, uc, us) := fun ad H locs lsR r => lv_lmul F.1.1 F.1.2.1 hdg (h ad H locs lsR r)
theorem q_i_land (F : q_Fr p R s m args meth c dC dI kA A L b0 xs n0 ad0 j) (hdg : decode (q_m j).1.2.1 pc = .ok (.land, 1)) (h : q_V p l e R s m args below meth c Qf dC dI kA A L xs n0 ad0 j (pc + 1, ls, .long (x8 &&& y8) :: st, μ, uc, us)) : q_V p l e R s m args below meth c Qf dC dI kA A L xs n0 ad0 j (pc, ls, .long y8 :: .long x8 :: st, μ, uc, us) := fun ad H locs lsR r => lv_land F.1.1 F.1.2.1 hdg (h ad H locs lsR r)
theorem q_i_lor (F : q_Fr p R s m args meth c dC dI kA A L b0 xs n0 ad0 j) (hdg : decode (q_m j).1.2.1 pc = .ok (.lor, 1)) (h : q_V p l e R s m args below meth c Qf dC dI kA A L xs n0 ad0 j (pc + 1, ls, .long (x8 ||| y8) :: st, μ, uc, us)) : q_V p l e R s m args below meth c Qf dC dI kA A L xs n0 ad0 j (pc, ls, .long y8 :: .long x8 :: st, μ, uc, us) := fun ad H locs lsR r => lv_lor F.1.1 F.1.2.1 hdg (h ad H locs lsR r)
theorem q_i_lshl (F : q_Fr p R s m args meth c dC dI kA A L b0 xs n0 ad0 j) (hdg : decode (q_m j).1.2.1 pc = .ok (.lshl, 1)) (h : q_V p l e R s m args below meth c Qf dC dI kA A L xs n0 ad0 j (pc + 1, ls, .long (x8 <<< (y.toInt64 &&& 63)) :: st, μ, uc, us)) : q_V p l e R s m args below meth c Qf dC dI kA A L xs n0 ad0 j (pc, ls, .int y :: .long x8 :: st, μ, uc, us) := fun ad H locs lsR r => lv_lshl F.1.1 F.1.2.1 hdg rfl (h ad H locs lsR r)
theorem q_i_lcmp (F : q_Fr p R s m args meth c dC dI kA A L b0 xs n0 ad0 j) (hdg : decode (q_m j).1.2.1 pc = .ok (.lcmp, 1)) (h : q_V p l e R s m args below meth c Qf dC dI kA A L xs n0 ad0 j (pc + 1, ls, .int (lg_cmp x8 y8) :: st, μ, uc, us)) : q_V p l e R s m args below meth c Qf dC dI kA A L xs n0 ad0 j (pc, ls, .long y8 :: .long x8 :: st, μ, uc, us) := fun ad H locs lsR r => W.lcmp F.1.1 F.1.2.1 hdg (h ad H locs lsR r)
theorem q_i_i2l (F : q_Fr p R s m args meth c dC dI kA A L b0 xs n0 ad0 j) (hdg : decode (q_m j).1.2.1 pc = .ok (.i2l, 1)) (h : q_V p l e R s m args below meth c Qf dC dI kA A L xs n0 ad0 j (pc + 1, ls, .long x.toInt64 :: st, μ, uc, us)) : q_V p l e R s m args below meth c Qf dC dI kA A L xs n0 ad0 j (pc, ls, .int x :: st, μ, uc, us) := fun ad H locs lsR r => lv_i2l F.1.1 F.1.2.1 hdg rfl (h ad H locs lsR r)
theorem q_i_l2i (F : q_Fr p R s m args meth c dC dI kA A L b0 xs n0 ad0 j) (hdg : decode (q_m j).1.2.1 pc = .ok (.l2i, 1)) (h : q_V p l e R s m args below meth c Qf dC dI kA A L xs n0 ad0 j (pc + 1, ls, .int x8.toInt32 :: st, μ, uc, us)) : q_V p l e R s m args below meth c Qf dC dI kA A L xs n0 ad0 j (pc, ls, .long x8 :: st, μ, uc, us) := fun ad H locs lsR r => lv_l2i F.1.1 F.1.2.1 hdg rfl (h ad H locs lsR r)
theorem q_i_i2b (F : q_Fr p R s m args meth c dC dI kA A L b0 xs n0 ad0 j) (hdg : decode (q_m j).1.2.1 pc = .ok (.i2b, 1)) (h : q_V p l e R s m args below meth c Qf dC dI kA A L xs n0 ad0 j (pc + 1, ls, .int x.toInt8.toInt32 :: st, μ, uc, us)) : q_V p l e R s m args below meth c Qf dC dI kA A L xs n0 ad0 j (pc, ls, .int x :: st, μ, uc, us) := fun ad H locs lsR r => lv_i2b F.1.1 F.1.2.1 hdg rfl (h ad H locs lsR r)
theorem q_i_i2s (F : q_Fr p R s m args meth c dC dI kA A L b0 xs n0 ad0 j) (hdg : decode (q_m j).1.2.1 pc = .ok (.i2s, 1)) (h : q_V p l e R s m args below meth c Qf dC dI kA A L xs n0 ad0 j (pc + 1, ls, .int x.toInt16.toInt32 :: st, μ, uc, us)) : q_V p l e R s m args below meth c Qf dC dI kA A L xs n0 ad0 j (pc, ls, .int x :: st, μ, uc, us) := fun ad H locs lsR r => lv_i2s F.1.1 F.1.2.1 hdg rfl (h ad H locs lsR r)
theorem q_i_dup (hc : v.category = 1) (F : q_Fr p R s m args meth c dC dI kA A L b0 xs n0 ad0 j) (hdg : decode (q_m j).1.2.1 pc = .ok (.dup, 1)) (h : q_V p l e R s m args below meth c Qf dC dI kA A L xs n0 ad0 j (pc + 1, ls, v :: v :: st, μ, uc, us)) : q_V p l e R s m args below meth c Qf dC dI kA A L xs n0 ad0 j (pc, ls, v :: st, μ, uc, us) := fun ad H locs lsR r => lv_dup F.1.1 F.1.2.1 hdg ((q_rn_cat ad v).trans hc) (h ad H locs lsR r)
theorem q_i_dup_x1 (hc : v.category = 1) (hd : w.category = 1) (F : q_Fr p R s m args meth c dC dI kA A L b0 xs n0 ad0 j) (hdg : decode (q_m j).1.2.1 pc = .ok (.dup_x1, 1)) (h : q_V p l e R s m args below meth c Qf dC dI kA A L xs n0 ad0 j (pc + 1, ls, v :: w :: v :: st, μ, uc, us)) : q_V p l e R s m args below meth c Qf dC dI kA A L xs n0 ad0 j (pc, ls, v :: w :: st, μ, uc, us) := fun ad H locs lsR r => lv_dup_x1 F.1.1 F.1.2.1 hdg ((q_rn_cat ad v).trans hc) ((q_rn_cat ad w).trans hd) (h ad H locs lsR r)
theorem q_i_dup2 (hc : v.category = 1) (hd : w.category = 1) (F : q_Fr p R s m args meth c dC dI kA A L b0 xs n0 ad0 j) (hdg : decode (q_m j).1.2.1 pc = .ok (.dup2, 1)) (h : q_V p l e R s m args below meth c Qf dC dI kA A L xs n0 ad0 j (pc + 1, ls, v :: w :: v :: w :: st, μ, uc, us)) : q_V p l e R s m args below meth c Qf dC dI kA A L xs n0 ad0 j (pc, ls, v :: w :: st, μ, uc, us) := fun ad H locs lsR r => lv_dup2_11 F.1.1 F.1.2.1 hdg ((q_rn_cat ad v).trans hc) ((q_rn_cat ad w).trans hd) (h ad H locs lsR r)
theorem q_i_pop (hc : v.category = 1) (F : q_Fr p R s m args meth c dC dI kA A L b0 xs n0 ad0 j) (hdg : decode (q_m j).1.2.1 pc = .ok (.pop, 1)) (h : q_V p l e R s m args below meth c Qf dC dI kA A L xs n0 ad0 j (pc + 1, ls, st, μ, uc, us)) : q_V p l e R s m args below meth c Qf dC dI kA A L xs n0 ad0 j (pc, ls, v :: st, μ, uc, us) := fun ad H locs lsR r => lv_pop F.1.1 F.1.2.1 hdg ((q_rn_cat ad v).trans hc) (h ad H locs lsR r)
theorem q_i_goto (F : q_Fr p R s m args meth c dC dI kA A L b0 xs n0 ad0 j) (ht : (pc : Int) + off = (a : Int)) (hdg : decode (q_m j).1.2.1 pc = .ok (.goto off, 3)) (h : q_V p l e R s m args below meth c Qf dC dI kA A L xs n0 ad0 j (a, ls, st, μ, uc, us)) : q_V p l e R s m args below meth c Qf dC dI kA A L xs n0 ad0 j (pc, ls, st, μ, uc, us) := fun ad H locs lsR r => lv_goto F.1.1 F.1.2.1 hdg ht (h ad H locs lsR r)
theorem q_i_ifCond_eq (F : q_Fr p R s m args meth c dC dI kA A L b0 xs n0 ad0 j) (ht : (pc : Int) + off = (a : Int)) (hdg : decode (q_m j).1.2.1 pc = .ok (.ifCond .eq off, 3)) (h : (x = 0 → q_V p l e R s m args below meth c Qf dC dI kA A L xs n0 ad0 j (a, ls, st, μ, uc, us)) ∧ (¬ x = 0 → q_V p l e R s m args below meth c Qf dC dI kA A L xs n0 ad0 j (pc + 3, ls, st, μ, uc, us))) : q_V p l e R s m args below meth c Qf dC dI kA A L xs n0 ad0 j (pc, ls, .int x :: st, μ, uc, us) := fun ad H locs lsR r => lv_if_eq F.1.1 F.1.2.1 hdg ht (fun q => h.1 q ad H locs lsR r) (fun q => h.2 q ad H locs lsR r)
theorem q_i_ifCond_ne (F : q_Fr p R s m args meth c dC dI kA A L b0 xs n0 ad0 j) (ht : (pc : Int) + off = (a : Int)) (hdg : decode (q_m j).1.2.1 pc = .ok (.ifCond .ne off, 3)) (h : (x = 0 → q_V p l e R s m args below meth c Qf dC dI kA A L xs n0 ad0 j (pc + 3, ls, st, μ, uc, us)) ∧ (¬ x = 0 → q_V p l e R s m args below meth c Qf dC dI kA A L xs n0 ad0 j (a, ls, st, μ, uc, us))) : q_V p l e R s m args below meth c Qf dC dI kA A L xs n0 ad0 j (pc, ls, .int x :: st, μ, uc, us) := fun ad H locs lsR r => lv_if_ne F.1.1 F.1.2.1 hdg ht (fun q => h.2 q ad H locs lsR r) (fun q => h.1 q ad H locs lsR r)
theorem q_i_ifCond_lt (F : q_Fr p R s m args meth c dC dI kA A L b0 xs n0 ad0 j) (ht : (pc : Int) + off = (a : Int)) (hdg : decode (q_m j).1.2.1 pc = .ok (.ifCond .lt off, 3)) (h : (x < 0 → q_V p l e R s m args below meth c Qf dC dI kA A L xs n0 ad0 j (a, ls, st, μ, uc, us)) ∧ (¬ x < 0 → q_V p l e R s m args below meth c Qf dC dI kA A L xs n0 ad0 j (pc + 3, ls, st, μ, uc, us))) : q_V p l e R s m args below meth c Qf dC dI kA A L xs n0 ad0 j (pc, ls, .int x :: st, μ, uc, us) := fun ad H locs lsR r => lv_if_lt F.1.1 F.1.2.1 hdg ht (fun q => h.1 q ad H locs lsR r) (fun q => h.2 q ad H locs lsR r)
theorem q_i_ifCond_ge (F : q_Fr p R s m args meth c dC dI kA A L b0 xs n0 ad0 j) (ht : (pc : Int) + off = (a : Int)) (hdg : decode (q_m j).1.2.1 pc = .ok (.ifCond .ge off, 3)) (h : (0 ≤ x → q_V p l e R s m args below meth c Qf dC dI kA A L xs n0 ad0 j (a, ls, st, μ, uc, us)) ∧ (¬ 0 ≤ x → q_V p l e R s m args below meth c Qf dC dI kA A L xs n0 ad0 j (pc + 3, ls, st, μ, uc, us))) : q_V p l e R s m args below meth c Qf dC dI kA A L xs n0 ad0 j (pc, ls, .int x :: st, μ, uc, us) := fun ad H locs lsR r => lv_if_ge F.1.1 F.1.2.1 hdg ht (fun q => h.1 q ad H locs lsR r) (fun q => h.2 q ad H locs lsR r)
theorem q_i_ifCond_gt (F : q_Fr p R s m args meth c dC dI kA A L b0 xs n0 ad0 j) (ht : (pc : Int) + off = (a : Int)) (hdg : decode (q_m j).1.2.1 pc = .ok (.ifCond .gt off, 3)) (h : (0 < x → q_V p l e R s m args below meth c Qf dC dI kA A L xs n0 ad0 j (a, ls, st, μ, uc, us)) ∧ (¬ 0 < x → q_V p l e R s m args below meth c Qf dC dI kA A L xs n0 ad0 j (pc + 3, ls, st, μ, uc, us))) : q_V p l e R s m args below meth c Qf dC dI kA A L xs n0 ad0 j (pc, ls, .int x :: st, μ, uc, us) := fun ad H locs lsR r => lv_if_gt F.1.1 F.1.2.1 hdg ht (fun q => h.1 q ad H locs lsR r) (fun q => h.2 q ad H locs lsR r)
theorem q_i_ifCond_le (F : q_Fr p R s m args meth c dC dI kA A L b0 xs n0 ad0 j) (ht : (pc : Int) + off = (a : Int)) (hdg : decode (q_m j).1.2.1 pc = .ok (.ifCond .le off, 3)) (h : (x ≤ 0 → q_V p l e R s m args below meth c Qf dC dI kA A L xs n0 ad0 j (a, ls, st, μ, uc, us)) ∧ (¬ x ≤ 0 → q_V p l e R s m args below meth c Qf dC dI kA A L xs n0 ad0 j (pc + 3, ls, st, μ, uc, us))) : q_V p l e R s m args below meth c Qf dC dI kA A L xs n0 ad0 j (pc, ls, .int x :: st, μ, uc, us) := fun ad H locs lsR r => lv_if_le F.1.1 F.1.2.1 hdg ht (fun q => h.1 q ad H locs lsR r) (fun q => h.2 q ad H locs lsR r)
theorem q_i_if_icmp_eq (F : q_Fr p R s m args meth c dC dI kA A L b0 xs n0 ad0 j) (ht : (pc : Int) + off = (a : Int)) (hdg : decode (q_m j).1.2.1 pc = .ok (.if_icmp .eq off, 3)) (h : (x = y → q_V p l e R s m args below meth c Qf dC dI kA A L xs n0 ad0 j (a, ls, st, μ, uc, us)) ∧ (¬ x = y → q_V p l e R s m args below meth c Qf dC dI kA A L xs n0 ad0 j (pc + 3, ls, st, μ, uc, us))) : q_V p l e R s m args below meth c Qf dC dI kA A L xs n0 ad0 j (pc, ls, .int y :: .int x :: st, μ, uc, us) := fun ad H locs lsR r => lv_icmp_eq F.1.1 F.1.2.1 hdg ht (fun q => h.1 q ad H locs lsR r) (fun q => h.2 q ad H locs lsR r)
theorem q_i_if_icmp_ne (F : q_Fr p R s m args meth c dC dI kA A L b0 xs n0 ad0 j) (ht : (pc : Int) + off = (a : Int)) (hdg : decode (q_m j).1.2.1 pc = .ok (.if_icmp .ne off, 3)) (h : (x = y → q_V p l e R s m args below meth c Qf dC dI kA A L xs n0 ad0 j (pc + 3, ls, st, μ, uc, us)) ∧ (¬ x = y → q_V p l e R s m args below meth c Qf dC dI kA A L xs n0 ad0 j (a, ls, st, μ, uc, us))) : q_V p l e R s m args below meth c Qf dC dI kA A L xs n0 ad0 j (pc, ls, .int y :: .int x :: st, μ, uc, us) := fun ad H locs lsR r => lv_icmp_ne F.1.1 F.1.2.1 hdg ht (fun q => h.2 q ad H locs lsR r) (fun q => h.1 q ad H locs lsR r)
theorem q_i_if_icmp_lt (F : q_Fr p R s m args meth c dC dI kA A L b0 xs n0 ad0 j) (ht : (pc : Int) + off = (a : Int)) (hdg : decode (q_m j).1.2.1 pc = .ok (.if_icmp .lt off, 3)) (h : (x < y → q_V p l e R s m args below meth c Qf dC dI kA A L xs n0 ad0 j (a, ls, st, μ, uc, us)) ∧ (¬ x < y → q_V p l e R s m args below meth c Qf dC dI kA A L xs n0 ad0 j (pc + 3, ls, st, μ, uc, us))) : q_V p l e R s m args below meth c Qf dC dI kA A L xs n0 ad0 j (pc, ls, .int y :: .int x :: st, μ, uc, us) := fun ad H locs lsR r => lv_icmp_lt F.1.1 F.1.2.1 hdg ht (fun q => h.1 q ad H locs lsR r) (fun q => h.2 q ad H locs lsR r)
theorem q_i_if_icmp_ge (F : q_Fr p R s m args meth c dC dI kA A L b0 xs n0 ad0 j) (ht : (pc : Int) + off = (a : Int)) (hdg : decode (q_m j).1.2.1 pc = .ok (.if_icmp .ge off, 3)) (h : (y ≤ x → q_V p l e R s m args below meth c Qf dC dI kA A L xs n0 ad0 j (a, ls, st, μ, uc, us)) ∧ (¬ y ≤ x → q_V p l e R s m args below meth c Qf dC dI kA A L xs n0 ad0 j (pc + 3, ls, st, μ, uc, us))) : q_V p l e R s m args below meth c Qf dC dI kA A L xs n0 ad0 j (pc, ls, .int y :: .int x :: st, μ, uc, us) := fun ad H locs lsR r => lv_icmp_ge F.1.1 F.1.2.1 hdg ht (fun q => h.1 q ad H locs lsR r) (fun q => h.2 q ad H locs lsR r)
theorem q_i_if_icmp_gt (F : q_Fr p R s m args meth c dC dI kA A L b0 xs n0 ad0 j) (ht : (pc : Int) + off = (a : Int)) (hdg : decode (q_m j).1.2.1 pc = .ok (.if_icmp .gt off, 3)) (h : (y < x → q_V p l e R s m args below meth c Qf dC dI kA A L xs n0 ad0 j (a, ls, st, μ, uc, us)) ∧ (¬ y < x → q_V p l e R s m args below meth c Qf dC dI kA A L xs n0 ad0 j (pc + 3, ls, st, μ, uc, us))) : q_V p l e R s m args below meth c Qf dC dI kA A L xs n0 ad0 j (pc, ls, .int y :: .int x :: st, μ, uc, us) := fun ad H locs lsR r => lv_icmp_gt F.1.1 F.1.2.1 hdg ht (fun q => h.1 q ad H locs lsR r) (fun q => h.2 q ad H locs lsR r)
theorem q_i_if_icmp_le (F : q_Fr p R s m args meth c dC dI kA A L b0 xs n0 ad0 j) (ht : (pc : Int) + off = (a : Int)) (hdg : decode (q_m j).1.2.1 pc = .ok (.if_icmp .le off, 3)) (h : (x ≤ y → q_V p l e R s m args below meth c Qf dC dI kA A L xs n0 ad0 j (a, ls, st, μ, uc, us)) ∧ (¬ x ≤ y → q_V p l e R s m args below meth c Qf dC dI kA A L xs n0 ad0 j (pc + 3, ls, st, μ, uc, us))) : q_V p l e R s m args below meth c Qf dC dI kA A L xs n0 ad0 j (pc, ls, .int y :: .int x :: st, μ, uc, us) := fun ad H locs lsR r => lv_icmp_le F.1.1 F.1.2.1 hdg ht (fun q => h.1 q ad H locs lsR r) (fun q => h.2 q ad H locs lsR r)
theorem q_i_lookup {d : Int} {ps : Array (Int × Int)} {len : Nat} (F : q_Fr p R s m args meth c dC dI kA A L b0 xs n0 ad0 j) (hdg : decode (q_m j).1.2.1 pc = .ok (.lookupswitch d ps, len)) (hs : (ps.toList.zip (ps.toList.drop 1)).all (fun (a, next) => a.1 < next.1) = true) (h : q_sw (fun c _ x y => (c → x) ∧ (¬ c → y)) (fun off => q_jmp False (fun t => q_V p l e R s m args below meth c Qf dC dI kA A L xs n0 ad0 j (t, ls, st, μ, uc, us)) pc off) d x ps.toList) : q_V p l e R s m args below meth c Qf dC dI kA A L xs n0 ad0 j (pc, ls, .int x :: st, μ, uc, us) := fun ad H locs lsR r => by
  obtain ⟨t, h1, h2⟩ := q_jmp_spec (q_sw_spec h)
  exact lv_lookup F.1.1 F.1.2.1 hdg hs rfl h1 (h2 ad H locs lsR r)
theorem q_i_table {d lo hi : Int} {os : Array Int} {len : Nat} (F : q_Fr p R s m args meth c dC dI kA A L b0 xs n0 ad0 j) (hdg : decode (q_m j).1.2.1 pc = .ok (.tableswitch d lo hi os, len)) (hs : (os.size : Int) = hi - lo + 1) (h : q_sw (fun c _ x y => (c → x) ∧ (¬ c → y)) (fun off => q_jmp False (fun t => q_V p l e R s m args below meth c Qf dC dI kA A L xs n0 ad0 j (t, ls, st, μ, uc, us)) pc off) d x (q_tab lo os.toList)) : q_V p l e R s m args below meth c Qf dC dI kA A L xs n0 ad0 j (pc, ls, .int x :: st, μ, uc, us) := fun ad H locs lsR r => by
  obtain ⟨t, h1, h2⟩ := q_jmp_spec (q_sw_spec h)
  rw [q_tab_spec] at h1
  by_cases hlo : x.toInt < lo
  · rw [if_pos hlo] at h1
    exact lv_tableOut F.1.1 F.1.2.1 hdg (Or.inl hlo) h1 (h2 ad H locs lsR r)
  · rw [if_neg hlo] at h1
    by_cases hhi : hi < x.toInt
    · rw [List.getElem?_eq_none (by rw [Array.length_toList]; omega)] at h1
      exact lv_tableOut F.1.1 F.1.2.1 hdg (Or.inr hhi) h1 (h2 ad H locs lsR r)
    · have hlt : (x.toInt - lo).toNat < os.size := by omega
      have he : os[(x.toInt - lo).toNat]? = some os[(x.toInt - lo).toNat] := Array.getElem?_eq_getElem hlt
      rw [Array.getElem?_toList, he, Option.getD_some] at h1
      exact lv_tableIn F.1.1 F.1.2.1 hdg hlo hhi he h1 (h2 ad H locs lsR r)
theorem q_hts (F : q_Fr p R s m args meth c dC dI kA A L b0 xs n0 ad0 j) {w : Cond} (hw : w ∈ lw_tbl) (hg : goodWord w = true) : w.before args s = true := F.2.1 w (q_gw_in hw hg)
theorem q_i_ldc (F : q_Fr p R s m args meth c dC dI kA A L b0 xs n0 ad0 j) (hw : Cond.constant (q_own j) idx (Int32.ofNat a) ∈ lw_tbl) (hdg : decode (q_m j).1.2.1 pc = .ok (.ldc idx, 2)) (h : q_V p l e R s m args below meth c Qf dC dI kA A L xs n0 ad0 j (pc + 2, ls, .int (Int32.ofNat a) :: st, μ, uc, us)) : q_V p l e R s m args below meth c Qf dC dI kA A L xs n0 ad0 j (pc, ls, st, μ, uc, us) := fun ad H locs lsR r => lv_ldc F.1.1 F.1.2.1 F.1.2.2.2 (q_hts F hw rfl) hdg (h ad H locs lsR r)
theorem q_i_ldcw (F : q_Fr p R s m args meth c dC dI kA A L b0 xs n0 ad0 j) (hw : Cond.constant (q_own j) idx (Int32.ofNat a) ∈ lw_tbl) (hdg : decode (q_m j).1.2.1 pc = .ok (.ldc_w idx, 3)) (h : q_V p l e R s m args below meth c Qf dC dI kA A L xs n0 ad0 j (pc + 3, ls, .int (Int32.ofNat a) :: st, μ, uc, us)) : q_V p l e R s m args below meth c Qf dC dI kA A L xs n0 ad0 j (pc, ls, st, μ, uc, us) := fun ad H locs lsR r => lv_ldcw F.1.1 F.1.2.1 F.1.2.2.2 (q_hts F hw rfl) hdg (h ad H locs lsR r)
theorem q_i_ldc2 (F : q_Fr p R s m args meth c dC dI kA A L b0 xs n0 ad0 j) (hw : Cond.constantLong (q_own j) idx (Int64.ofNat a) ∈ lw_tbl) (hdg : decode (q_m j).1.2.1 pc = .ok (.ldc2_w idx, 3)) (h : q_V p l e R s m args below meth c Qf dC dI kA A L xs n0 ad0 j (pc + 3, ls, .long (Int64.ofNat a) :: st, μ, uc, us)) : q_V p l e R s m args below meth c Qf dC dI kA A L xs n0 ad0 j (pc, ls, st, μ, uc, us) := fun ad H locs lsR r => lv_ldc2 F.1.1 F.1.2.1 F.1.2.2.2 (q_hts F hw rfl) hdg (h ad H locs lsR r)
end OPS
end
section
theorem q_clo_rn {n : Nat} {ad ad' : Nat → Nat} (ha : ∀ k, k < n → ad' k = ad k) {ls : List (Option Value)} {st : List Value} (h : q_clo n ls st = true) : st.map (q_rn ad') = st.map (q_rn ad) ∧ ∀ (lg : List Nat) (lsR : Array Slot) (nL : Nat), q_LS ad lg ls lsR nL → q_LS ad' lg ls lsR nL := by
  unfold q_clo at h
  rw [Bool.and_eq_true, List.all_eq_true, List.all_eq_true] at h
  have key : ∀ v : Value, q_vlt n v = true → q_rn ad' v = q_rn ad v := by
    intro v hv
    cases v <;> first | rfl | skip
    rename_i t
    exact congrArg Value.ref (ha t (Nat.ble_eq.mp hv))
  refine ⟨List.map_congr_left fun v hv => key v (h.2 v hv), fun lg lsR nL h' => ⟨h'.1, h'.2.1, h'.2.2.1, fun i v hi => ?_⟩⟩
  obtain ⟨h1, h2⟩ := h'.2.2.2 i v hi
  refine ⟨?_, h2⟩
  rw [key v (h.1 (some v) (List.mem_of_getElem? hi))]
  exact h1
theorem q_cell_set {ad : Nat → Nat} {kA : Nat → ClassId} {μ μ' : q_Mem} {o a b n : Nat} {v : Value} (ha : a < 11) (hb : b < q_N a) (hk : ∀ k, k ≠ b → q_fv ad μ' o a k = q_fv ad μ o a k) (hv : q_fv ad μ' o a b = v) : q_cell ad kA μ' o (a, n) = .inr (a, ((List.range (q_N a)).map fun k => q_fv ad μ o a k).set b v) := by
  unfold q_cell
  rw [if_pos (show a ≤ 10 by omega)]
  congr 2
  apply List.ext_getElem?
  intro i
  rw [List.getElem?_map, List.getElem?_set]
  by_cases hi : b = i
  · subst hi
    rw [if_pos rfl, if_pos (by simpa using hb), List.getElem?_range hb, Option.map_some, hv]
  · rw [if_neg hi, List.getElem?_map]
    by_cases hl : i < q_N a
    · rw [List.getElem?_range hl, Option.map_some, Option.map_some, hk i (fun e => hi e.symm)]
    · rw [List.getElem?_eq_none (by simpa using hl)]
      rfl
section HEAP
variable {p : Program} {l : Launch} {e : Env} {R : Room} {s : State} {m : MethodId} {args : Array Value} {below : List Frame} {meth : Method} {c : Code} {Qf : State → Prop} {dC : Nat → ClassId} {dI : Nat → Nat → Nat} {kA : Nat → ClassId} {A : Nat → Prop} {L b0 : Nat} {xs : Nat → Int32} {n0 : Nat} {ad0 : Nat → Nat} {j pc a b uc us idx : Nat} {ls : List (Option Value)} {st : List Value} {μ : q_Mem} {x y : Int32} {x8 y8 : Int64} {v w : Value} {off k : Int}
theorem q_i_get (F : q_Fr p R s m args meth c dC dI kA A L b0 xs n0 ad0 j) (ha : a < 11) (hb : b < q_N a) (hw : Cond.fieldLink (q_own j) idx (q_T a b).1 (q_T a b).2.1 (q_T a b).2.2.1 ∈ lw_tbl) {o : Nat} (ho : q_isO μ.1 o a = true) (hv : ∀ ad, q_fv ad μ o a b = q_rn ad v) (hdg : decode (q_m j).1.2.1 pc = .ok (.getfield idx, 3)) (h : (q_V p l e R s m args below meth c Qf dC dI kA A L xs n0 ad0 j) (pc + 3, ls, v :: st, μ, uc, us)) : (q_V p l e R s m args below meth c Qf dC dI kA A L xs n0 ad0 j) (pc, ls, .ref o :: st, μ, uc, us) := fun ad H locs lsR r => by
  obtain ⟨n, hn⟩ := q_isO_spec ho
  obtain ⟨h0, hwd⟩ := q_world_at (ad := ad) (kA := kA) r.1.1 hn (show a ≠ 99 by omega)
  have hce : q_cell ad kA μ o (a, n) = .inr (a, (List.range (q_N a)).map fun k => q_fv ad μ o a k) := by
    unfold q_cell
    rw [if_pos (show a ≤ 10 by omega)]
  rw [hce] at hwd
  refine va_get F.1.1 F.1.2.1 F.2.1 (q_uwg a ha) F.1.2.2.2 F.2.2.1.1 r.2.1.1 (o - 1) hwd (q_clc a ha) b hb (q_hts F hw rfl) (fun x h => h) ?_ hdg (h ad H locs lsR r)
  rw [List.getElem?_map, List.getElem?_range hb, Option.map_some, hv]
theorem q_i_put {μ' : q_Mem} (F : q_Fr p R s m args meth c dC dI kA A L b0 xs n0 ad0 j) (ha : a < 11) (hb : b < q_N a) (hw : Cond.fieldLink (q_own j) idx (q_T a b).1 (q_T a b).2.1 (q_T a b).2.2.1 ∈ lw_tbl) (hfi : (q_T a b).2.2.2 = true → (q_T a b).1 = q_own j ∧ (q_m j).1.1.name = "<init>") {o : Nat} (ho : q_isO μ.1 o a = true) (hok : o ≠ 0 → q_ok L xs μ → q_ok L xs μ') (hs : μ'.1 = μ.1) (hx : ∀ ad o' q', o' ≠ o → q_cell ad kA μ' o' q' = q_cell ad kA μ o' q') (hk : ∀ ad k, k ≠ b → q_fv ad μ' o a k = q_fv ad μ o a k) (hv : ∀ ad, q_fv ad μ' o a b = q_rn ad v) (hn : ∀ ad, narrow (q_tyf a b) (q_rn ad v) = q_rn ad v) (hfit : ∀ ad, fits (q_tyf a b) (q_rn ad v) = true)
    (hdg : decode (q_m j).1.2.1 pc = .ok (.putfield idx, 3)) (h : (q_V p l e R s m args below meth c Qf dC dI kA A L xs n0 ad0 j) (pc + 3, ls, st, μ', uc, us)) : (q_V p l e R s m args below meth c Qf dC dI kA A L xs n0 ad0 j) (pc, ls, v :: .ref o :: st, μ, uc, us) := fun ad H locs lsR r => by
  obtain ⟨n, hno⟩ := q_isO_spec ho
  obtain ⟨h0, hwd⟩ := q_world_at (ad := ad) (kA := kA) r.1.1 hno (show a ≠ 99 by omega)
  have hce : q_cell ad kA μ o (a, n) = .inr (a, (List.range (q_N a)).map fun k => q_fv ad μ o a k) := by
    unfold q_cell
    rw [if_pos (show a ≤ 10 by omega)]
  rw [hce] at hwd
  have ew := q_world_set (ad := ad) (kA := kA) h0 hno hs (hx ad)
  rw [q_cell_set ha hb (hk ad) (hv ad)] at ew
  have kk : ∀ (H1 : Heap) (locs1 : List Loc), va_P (dC, dI) vwCl ((q_world ad kA μ).set (o - 1) (ad o, .inr (a, ((List.range (q_N a)).map fun k => q_fv ad μ o a k).set b (q_rn ad v)))) H1 → va_D A ((q_world ad kA μ).set (o - 1) (ad o, .inr (a, ((List.range (q_N a)).map fun k => q_fv ad μ o a k).set b (q_rn ad v)))) → va_S A s.heap H1 locs1 → W p l e R s m args below meth c H1 locs1 uc us Qf (F0 m (pc + 3) lsR (st.map (q_rn ad))) := fun H1 locs1 hP hD hS => by
    rw [← ew] at hP hD
    exact h ad H1 locs1 lsR ⟨⟨hok h0 r.1.1, by show n0 ≤ μ'.1.length; rw [hs]; exact r.1.2.1, r.1.2.2⟩, ⟨hP, hD, hS⟩, r.2.2⟩
  have hl : b < ((List.range (q_N a)).map fun k => q_fv ad μ o a k).length := by simpa using hb
  cases hfin : (q_T a b).2.2.2 with
  | false => exact va_put F.1.1 F.1.2.1 F.2.1 (q_uwg a ha) (q_tyf a) (q_tys a ha) (q_nms a ha) F.1.2.2.2 F.2.2.1.1 r.2.1.1 r.2.1.2.1 r.2.1.2.2 (o - 1) hwd (q_clc a ha) b hb (q_hts F hw rfl) (fun x h => h) hfin (q_tys a ha b hb) (hn ad) (hfit ad) hl hdg kk
  | true => exact va_putF F.1.1 F.1.2.1 F.2.1 (q_uwg a ha) (q_tyf a) (q_tys a ha) (q_nms a ha) F.1.2.2.2 F.2.2.1.1 r.2.1.1 r.2.1.2.1 r.2.1.2.2 (o - 1) hwd (q_clc a ha) b hb (q_hts F hw rfl) (fun x h => h) hfin (F.2.2.2.2.2.2 (hfi hfin).2) (hfi hfin).1 (q_tys a ha b hb) (hn ad) (hfit ad) hl hdg kk
theorem q_i_iaload (F : q_Fr p R s m args meth c dC dI kA A L b0 xs n0 ad0 j) {o N : Nat} (ho : q_ard j μ.1 o = some N) (hin : ¬ (x < 0 ∨ N ≤ x.toNatClampNeg)) (hdg : decode (q_m j).1.2.1 pc = .ok (.iaload, 1)) (h : (q_V p l e R s m args below meth c Qf dC dI kA A L xs n0 ad0 j) (pc + 1, ls, .int (μ.2.1 o x.toNatClampNeg) :: st, μ, uc, us)) : (q_V p l e R s m args below meth c Qf dC dI kA A L xs n0 ad0 j) (pc, ls, .int x :: .ref o :: st, μ, uc, us) := fun ad H locs lsR r => by
  rcases q_ard_spec ho with hn | ⟨hj, rfl, hn⟩
  · obtain ⟨h0, hwd⟩ := q_world_at (ad := ad) (kA := kA) r.1.1 hn (by dsimp only; decide)
    have hce : q_cell ad kA μ o (100, N) = .inl (kA 100, N, .inl (μ.2.1 o)) := rfl
    rw [hce] at hwd
    exact va_iald F.1.1 F.1.2.1 F.2.2.1.1 r.2.1.1 (o - 1) 0 hwd rfl hin hdg (h ad H locs lsR r)
  · obtain ⟨hX, hbl, hbA, had, hn0⟩ := F.2.2.2.2.1 hj
    have e1 : ad 0 = b0 := (r.1.2.2.1 0 hn0).trans had
    have e2 : N = L := by
      have h2 := r.1.1.1
      rw [hn] at h2
      cases h2
      rfl
    subst e2
    have h3 := h ad H locs lsR r
    rw [r.1.1.2.1] at h3
    show W p l e R s m args below meth c H locs uc us Qf (F0 m pc lsR (.int x :: .ref (ad 0) :: st.map (q_rn ad)))
    rw [e1]
    exact va_sld F.1.1 F.1.2.1 hX hbl hbA r.2.1.2.2 hin hdg h3
theorem q_i_laload (F : q_Fr p R s m args meth c dC dI kA A L b0 xs n0 ad0 j) {o N : Nat} (ho : q_arr μ.1 o 101 = some N) (hin : ¬ (x < 0 ∨ N ≤ x.toNatClampNeg)) (hdg : decode (q_m j).1.2.1 pc = .ok (.laload, 1)) (h : (q_V p l e R s m args below meth c Qf dC dI kA A L xs n0 ad0 j) (pc + 1, ls, .long (μ.2.2.1 o x.toNatClampNeg) :: st, μ, uc, us)) : (q_V p l e R s m args below meth c Qf dC dI kA A L xs n0 ad0 j) (pc, ls, .int x :: .ref o :: st, μ, uc, us) := fun ad H locs lsR r => by
  have hn := q_arr_spec ho
  obtain ⟨h0, hwd⟩ := q_world_at (ad := ad) (kA := kA) r.1.1 hn (by dsimp only; decide)
  have hce : q_cell ad kA μ o (101, N) = .inl (kA 101, N, .inr (.inl (μ.2.2.1 o))) := rfl
  rw [hce] at hwd
  exact va_lald F.1.1 F.1.2.1 F.2.2.1.1 r.2.1.1 (o - 1) 1 hwd rfl hin hdg (h ad H locs lsR r)
theorem q_cellA {ad : Nat → Nat} {o n : Nat} {k : Nat} (hk : q_okA k = true) : q_cell ad kA μ o (k, n) = .inl (kA k, n, .inr (.inr (.inr (.inr fun i => (μ.2.2.2 o i).map ad)))) := by
  rcases q_okA_cases hk with rfl | rfl | rfl <;> rfl
theorem q_i_aaload {t : Nat} (F : q_Fr p R s m args meth c dC dI kA A L b0 xs n0 ad0 j) {o : Nat} {N : Nat × Nat} (ho : q_arq μ.1 o = some N) (hin : ¬ (x < 0 ∨ N.2 ≤ x.toNatClampNeg)) (hR : μ.2.2.2 o x.toNatClampNeg = some t) (hdg : decode (q_m j).1.2.1 pc = .ok (.aaload, 1)) (h : (q_V p l e R s m args below meth c Qf dC dI kA A L xs n0 ad0 j) (pc + 1, ls, .ref t :: st, μ, uc, us)) : (q_V p l e R s m args below meth c Qf dC dI kA A L xs n0 ad0 j) (pc, ls, .int x :: .ref o :: st, μ, uc, us) := fun ad H locs lsR r => by
  obtain ⟨hn, hk⟩ := q_arq_spec ho
  obtain ⟨h0, hwd⟩ := q_world_at (ad := ad) (kA := kA) r.1.1 hn (by rcases q_okA_cases hk with e | e | e <;> (dsimp only; omega))
  rw [q_cellA hk] at hwd
  obtain ⟨t0, ht0⟩ := q_tyA (kA := kA) hk
  refine va_aldq F.1.1 F.1.2.1 F.2.2.1.1 r.2.1.1 (o - 1) t0 hwd ht0 hin hdg ?_
  rw [hR]
  exact h ad H locs lsR r
theorem q_i_iastore (F : q_Fr p R s m args meth c dC dI kA A L b0 xs n0 ad0 j) {o N : Nat} (ho : q_arr μ.1 o 100 = some N) (hin : ¬ (x < 0 ∨ N ≤ x.toNatClampNeg)) (hdg : decode (q_m j).1.2.1 pc = .ok (.iastore, 1)) (h : (q_V p l e R s m args below meth c Qf dC dI kA A L xs n0 ad0 j) (pc + 1, ls, st, q_sI μ o x.toNatClampNeg y, uc, us)) : (q_V p l e R s m args below meth c Qf dC dI kA A L xs n0 ad0 j) (pc, ls, .int y :: .int x :: .ref o :: st, μ, uc, us) := fun ad H locs lsR r => by
  have hn := q_arr_spec ho
  obtain ⟨h0, hwd⟩ := q_world_at (ad := ad) (kA := kA) r.1.1 hn (by dsimp only; decide)
  have hce : q_cell ad kA μ o (100, N) = .inl (kA 100, N, .inl (μ.2.1 o)) := rfl
  rw [hce] at hwd
  have e := q_wI (ad := ad) (kA := kA) (k := x.toNatClampNeg) (v := y) r.1.1 hn (by dsimp only; decide)
  have hce2 : q_cell ad kA (q_sI μ o x.toNatClampNeg y) o (100, N) = .inl (kA 100, N, .inl ((q_sI μ o x.toNatClampNeg y).2.1 o)) := rfl
  rw [hce2, q_sI_eq] at e
  refine va_iast F.1.1 F.1.2.1 F.2.2.1.1 r.2.1.1 r.2.1.2.1 r.2.1.2.2 (o - 1) 0 hwd rfl hin hdg fun H1 locs1 hP hD hS => ?_
  rw [← e] at hP hD
  exact h ad H1 locs1 lsR ⟨⟨q_ok_sI r.1.1 h0, r.1.2⟩, ⟨hP, hD, hS⟩, r.2.2⟩
theorem q_i_lastore (F : q_Fr p R s m args meth c dC dI kA A L b0 xs n0 ad0 j) {o N : Nat} (ho : q_arr μ.1 o 101 = some N) (hin : ¬ (x < 0 ∨ N ≤ x.toNatClampNeg)) (hdg : decode (q_m j).1.2.1 pc = .ok (.lastore, 1)) (h : (q_V p l e R s m args below meth c Qf dC dI kA A L xs n0 ad0 j) (pc + 1, ls, st, q_sL μ o x.toNatClampNeg x8, uc, us)) : (q_V p l e R s m args below meth c Qf dC dI kA A L xs n0 ad0 j) (pc, ls, .long x8 :: .int x :: .ref o :: st, μ, uc, us) := fun ad H locs lsR r => by
  have hn := q_arr_spec ho
  obtain ⟨h0, hwd⟩ := q_world_at (ad := ad) (kA := kA) r.1.1 hn (by dsimp only; decide)
  have hce : q_cell ad kA μ o (101, N) = .inl (kA 101, N, .inr (.inl (μ.2.2.1 o))) := rfl
  rw [hce] at hwd
  have e := q_wL (ad := ad) (kA := kA) (k := x.toNatClampNeg) (v := x8) r.1.1 hn (by dsimp only; decide)
  have hce2 : q_cell ad kA (q_sL μ o x.toNatClampNeg x8) o (101, N) = .inl (kA 101, N, .inr (.inl ((q_sL μ o x.toNatClampNeg x8).2.2.1 o))) := rfl
  rw [hce2, q_sL_eq] at e
  refine va_last F.1.1 F.1.2.1 F.2.2.1.1 r.2.1.1 r.2.1.2.1 r.2.1.2.2 (o - 1) 1 hwd rfl hin hdg fun H1 locs1 hP hD hS => ?_
  rw [← e] at hP hD
  exact h ad H1 locs1 lsR ⟨⟨q_ok_sL r.1.1, r.1.2⟩, ⟨hP, hD, hS⟩, r.2.2⟩
theorem q_i_aastore (F : q_Fr p R s m args meth c dC dI kA A L b0 xs n0 ad0 j) {o t : Nat} {N : Nat × Nat} (ho : q_arq μ.1 o = some N) (ht : q_isO μ.1 t N.1 = true) (hin : ¬ (x < 0 ∨ N.2 ≤ x.toNatClampNeg)) (hdg : decode (q_m j).1.2.1 pc = .ok (.aastore, 1)) (h : (q_V p l e R s m args below meth c Qf dC dI kA A L xs n0 ad0 j) (pc + 1, ls, st, q_sR μ o x.toNatClampNeg (some t), uc, us)) : (q_V p l e R s m args below meth c Qf dC dI kA A L xs n0 ad0 j) (pc, ls, .ref t :: .int x :: .ref o :: st, μ, uc, us) := fun ad H locs lsR r => by
  obtain ⟨hn, hk⟩ := q_arq_spec ho
  have hk2 := q_okA_cases hk
  obtain ⟨h0, hwd⟩ := q_world_at (ad := ad) (kA := kA) r.1.1 hn (by dsimp only; omega)
  rw [q_cellA hk] at hwd
  obtain ⟨nt, hnt⟩ := q_isO_spec ht
  have hN : N.1 < 11 := by omega
  obtain ⟨h0t, hwt⟩ := q_world_at (ad := ad) (kA := kA) r.1.1 hnt (by dsimp only; omega)
  have hct : q_cell ad kA μ t (N.1, nt) = .inr (N.1, (List.range (q_N N.1)).map fun k => q_fv ad μ t N.1 k) := by
    unfold q_cell
    rw [if_pos (show N.1 ≤ 10 by omega)]
  rw [hct] at hwt
  obtain ⟨t0, ht0⟩ := q_tyA (kA := kA) hk
  have e3 : 102 + N.1 - 102 = N.1 := by omega
  rw [e3] at ht0
  have e := q_wR (ad := ad) (kA := kA) (k := x.toNatClampNeg) (v := some t) r.1.1 hn (by dsimp only; omega)
  rw [q_cellA hk] at e
  have e4 : (fun i => ((q_sR μ o x.toNatClampNeg (some t)).2.2.2 o i).map ad) = va_up (fun i => (μ.2.2.2 o i).map ad) x.toNatClampNeg (some (ad t)) := by
    funext i
    simp only [q_sR, va_up, true_and]
    split <;> rfl
  rw [e4] at e
  refine va_astq F.1.1 F.1.2.1 F.2.2.1.1 r.2.1.1 r.2.1.2.1 r.2.1.2.2 (o - 1) t0 (t - 1) N.1 hwd ht0 hwt (q_clc N.1 hN) hin hdg fun H1 locs1 hP hD hS => ?_
  rw [← e] at hP hD
  exact h ad H1 locs1 lsR ⟨⟨q_ok_sR r.1.1 (List.getElem?_eq_some_iff.mp hnt).1, r.1.2⟩, ⟨hP, hD, hS⟩, r.2.2⟩
theorem q_i_arraylength (F : q_Fr p R s m args meth c dC dI kA A L b0 xs n0 ad0 j) {o N : Nat} (ho : q_arl j μ.1 o = some N) (hdg : decode (q_m j).1.2.1 pc = .ok (.arraylength, 1)) (h : (q_V p l e R s m args below meth c Qf dC dI kA A L xs n0 ad0 j) (pc + 1, ls, .int (Int32.ofNat N) :: st, μ, uc, us)) : (q_V p l e R s m args below meth c Qf dC dI kA A L xs n0 ad0 j) (pc, ls, .ref o :: st, μ, uc, us) := fun ad H locs lsR r => by
  rcases q_arl_spec ho with ⟨k, hn, hk⟩ | ⟨hj, rfl, hn⟩
  · rcases hk with rfl | rfl | hk
    · obtain ⟨h0, hwd⟩ := q_world_at (ad := ad) (kA := kA) r.1.1 hn (by dsimp only; decide)
      have hce : q_cell ad kA μ o (100, N) = .inl (kA 100, N, .inl (μ.2.1 o)) := rfl
      rw [hce] at hwd
      exact va_alen F.1.1 F.1.2.1 F.2.2.1.1 r.2.1.1 (o - 1) 0 hwd rfl rfl hdg (h ad H locs lsR r)
    · obtain ⟨h0, hwd⟩ := q_world_at (ad := ad) (kA := kA) r.1.1 hn (by dsimp only; decide)
      have hce : q_cell ad kA μ o (101, N) = .inl (kA 101, N, .inr (.inl (μ.2.2.1 o))) := rfl
      rw [hce] at hwd
      exact va_alen F.1.1 F.1.2.1 F.2.2.1.1 r.2.1.1 (o - 1) 1 hwd rfl rfl hdg (h ad H locs lsR r)
    · obtain ⟨h0, hwd⟩ := q_world_at (ad := ad) (kA := kA) r.1.1 hn (by rcases q_okA_cases hk with e | e | e <;> (dsimp only; omega))
      rw [q_cellA hk] at hwd
      obtain ⟨t0, ht0⟩ := q_tyA (kA := kA) hk
      exact va_alen F.1.1 F.1.2.1 F.2.2.1.1 r.2.1.1 (o - 1) t0 hwd ht0 rfl hdg (h ad H locs lsR r)
  · obtain ⟨hX, hbl, hbA, had, hn0⟩ := F.2.2.2.2.1 hj
    have e1 : ad 0 = b0 := (r.1.2.2.1 0 hn0).trans had
    have e2 : N = L := by
      have h2 := r.1.1.1
      rw [hn] at h2
      cases h2
      rfl
    subst e2
    show W p l e R s m args below meth c H locs uc us Qf (F0 m pc lsR (.ref (ad 0) :: st.map (q_rn ad)))
    rw [e1]
    exact va_slen F.1.1 F.1.2.1 hX hbl hbA r.2.1.2.2 hdg (h ad H locs lsR r)
/-- behind a making: the new object has the next number -/
theorem q_born {H1 : Heap} {locs : List Loc} {lsR : Array Slot} {ad : Nat → Nat} {H : Heap} {kk nn q pc' uc' us' : Nat} (r : q_Re s dC dI kA A L xs n0 ad0 j ad H locs lsR ls μ) (hcl : q_clo μ.1.length ls st = true) (hmc : q_mc j ≠ 0) (hP : va_P (dC, dI) vwCl (q_world ad kA μ ++ [(q, q_cell ad kA (q_new μ kk nn) μ.1.length (kk, nn))]) H1) (hD : va_D A (q_world ad kA μ ++ [(q, q_cell ad kA (q_new μ kk nn) μ.1.length (kk, nn))])) (hS : va_S A s.heap H1 locs) (h : (q_V p l e R s m args below meth c Qf dC dI kA A L xs n0 ad0 j) (pc', ls, .ref μ.1.length :: st, q_new μ kk nn, uc', us')) : W p l e R s m args below meth c H1 locs uc' us' Qf (F0 m pc' lsR (.ref q :: st.map (q_rn ad))) := by
  have hag : ∀ k, k < μ.1.length → (fun i => if i = μ.1.length then q else ad i) k = ad k := fun k hk => by
    show (if k = μ.1.length then q else ad k) = ad k
    rw [if_neg (by omega)]
  obtain ⟨e1, e2⟩ := q_clo_rn hag hcl
  rw [← q_wnew r.1.1 kk nn q] at hP hD
  have h1 := h (fun i => if i = μ.1.length then q else ad i) H1 locs lsR ⟨⟨q_ok_new r.1.1 kk nn, by show n0 ≤ (μ.1 ++ [(kk, nn)]).length; rw [List.length_append]; exact Nat.le_trans r.1.2.1 (Nat.le_add_right _ _), fun k hk => (hag k (Nat.lt_of_lt_of_le hk r.1.2.1)).trans (r.1.2.2.1 k hk), fun h => absurd h hmc⟩, ⟨hP, hD, hS⟩, e2 _ _ _ r.2.2⟩
  have e3 : (Value.ref μ.1.length :: st).map (q_rn (fun i => if i = μ.1.length then q else ad i)) = .ref q :: st.map (q_rn ad) := by
    rw [List.map_cons, e1]
    congr 1
    show Value.ref (if μ.1.length = μ.1.length then q else ad μ.1.length) = .ref q
    rw [if_pos rfl]
  dsimp only at h1
  rw [e3] at h1
  exact h1
theorem q_i_new (F : q_Fr p R s m args meth c dC dI kA A L b0 xs n0 ad0 j) (ha : a < 11) (hw : Cond.classLink (q_own j) idx (q_cn a) ∈ lw_tbl) (hcl : q_clo μ.1.length ls st = true) (hc : uc + 1 ≤ q_mc j) (hs : us + q_N a ≤ q_ms j) (hdg : decode (q_m j).1.2.1 pc = .ok (.new idx, 3)) (h : (q_V p l e R s m args below meth c Qf dC dI kA A L xs n0 ad0 j) (pc + 3, ls, .ref μ.1.length :: st, q_new μ a (q_N a), uc + 1, us + q_N a)) : (q_V p l e R s m args below meth c Qf dC dI kA A L xs n0 ad0 j) (pc, ls, st, μ, uc, us) := fun ad H locs lsR r => by
  have hck := List.all_eq_true.mp q_ckN_ok a (List.mem_range.mpr ha)
  simp only [Bool.and_eq_true, decide_eq_true_eq] at hck
  have hce : q_cell ad kA (q_new μ a (q_N a)) μ.1.length (a, q_N a) = .inr (a, (List.range (q_N a)).map fun k => q_fv ad (q_new μ a (q_N a)) μ.1.length a k) := by
    unfold q_cell
    rw [if_pos (show a ≤ 10 by omega)]
  refine va_new (fs := (List.range (q_N a)).map fun k => q_fv ad (q_new μ a (q_N a)) μ.1.length a k) F.1.1 F.1.2.1 F.2.1 (q_uwg a ha) (q_tyf a) (q_tys a ha) F.1.2.2.2 (q_hts F hw rfl) (q_hts F hck.1 rfl) (q_hts F hck.2 rfl) F.2.2.1.1 r.2.1.1 r.2.1.2.1 r.2.1.2.2 F.2.2.2.1 (q_clc a ha) (fun k hk => ?_) (Nat.le_trans hc F.2.2.2.2.2.1.2.2.1) (Nat.le_trans hs F.2.2.2.2.2.1.2.2.2) hdg (fun q H1 hP hD hS => ?_)
  · unfold vp_V
    rw [List.getD_eq_getElem?_getD, List.getElem?_map, List.getElem?_range hk, Option.map_some, Option.getD_some]
    have hI : (q_new μ a (q_N a)).2.1 μ.1.length k = 0 := by simp [q_new]
    have hR : (q_new μ a (q_N a)).2.2.2 μ.1.length k = none := by simp [q_new]
    have hf := q_fks a ha k hk
    unfold q_fv
    rw [hI, hR]
    cases ht : q_tyf a k <;> rw [ht] at hf <;> first | exact hf.elim | rfl
  · rw [← hce] at hP hD
    exact q_born r hcl (by omega) hP hD hS h
theorem q_va_cA {ty : FieldType} {cA c0 : ClassId} (hK : va_K (dC, dI) vwCl (q_TY kA ++ [(cA, ty)]) s) {t : Nat} (ht : (q_TY kA)[t]? = some (c0, ty)) : cA = c0 := by
  have h1 := (hK.2 5 (cA, ty) rfl).2
  have ht5 : t < 5 := (List.getElem?_eq_some_iff.mp ht).1
  have h2 := (hK.2 t (c0, ty) (by rw [List.getElem?_append_left (show t < (q_TY kA).length from ht5)]; exact ht)).2
  unfold va_RA at h1 h2
  cases ty with
  | object C =>
    obtain ⟨_, _, _, _, _, g1⟩ := h1
    obtain ⟨_, _, _, _, _, g2⟩ := h2
    exact Option.some.inj (g1.symm.trans g2)
  | _ => exact Option.some.inj (Eq.trans (Eq.symm h1) h2)
theorem q_i_newI (F : q_Fr p R s m args meth c dC dI kA A L b0 xs n0 ad0 j) (hw : Cond.arrayClass .int ∈ lw_tbl) (hx : ¬ x < 0) (hx2 : x.toNatClampNeg ≤ 60000) (hcl : q_clo μ.1.length ls st = true) (hc : uc + 1 ≤ q_mc j) (hs : us + x.toNatClampNeg ≤ q_ms j) (hdg : decode (q_m j).1.2.1 pc = .ok (.newarray .int, 2)) (h : (q_V p l e R s m args below meth c Qf dC dI kA A L xs n0 ad0 j) (pc + 2, ls, .ref μ.1.length :: st, q_new μ 100 x.toNatClampNeg, uc + 1, us + x.toNatClampNeg)) : (q_V p l e R s m args below meth c Qf dC dI kA A L xs n0 ad0 j) (pc, ls, .int x :: st, μ, uc, us) := fun ad H locs lsR r => by
  refine va_newa (atype := .int) (ty := .int) (a0 := (x.toNatClampNeg, .inl fun _ => 0)) (N' := x.toNatClampNeg) F.1.1 F.1.2.1 (q_hts F hw rfl) rfl F.2.2.1.1 r.2.1.1 r.2.1.2.1 r.2.1.2.2 F.2.2.2.1 (fun _ => rfl) hx rfl (by show x.toNatClampNeg * 4 ≤ _; omega) (Nat.le_trans hc F.2.2.2.2.2.1.2.2.1) (Nat.le_trans hs F.2.2.2.2.2.1.2.2.2) hdg (fun q cA H1 hK hP hD hS => ?_)
  have ec := q_va_cA hK (t := 0) rfl
  subst ec
  have hce : q_cell ad kA (q_new μ 100 x.toNatClampNeg) μ.1.length (100, x.toNatClampNeg) = .inl (kA 100, x.toNatClampNeg, .inl fun _ => 0) := by
    have e : (q_new μ 100 x.toNatClampNeg).2.1 μ.1.length = fun _ => 0 := by
      funext b
      simp [q_new]
    show Sum.inl (kA 100, x.toNatClampNeg, Sum.inl ((q_new μ 100 x.toNatClampNeg).2.1 μ.1.length)) = _
    rw [e]
  rw [← hce] at hP hD
  exact q_born r hcl (by omega) hP hD hS h
theorem q_i_newJ (F : q_Fr p R s m args meth c dC dI kA A L b0 xs n0 ad0 j) (hw : Cond.arrayClass .long ∈ lw_tbl) (hx : ¬ x < 0) (hx2 : x.toNatClampNeg ≤ 60000) (hcl : q_clo μ.1.length ls st = true) (hc : uc + 1 ≤ q_mc j) (hs : us + x.toNatClampNeg ≤ q_ms j) (hdg : decode (q_m j).1.2.1 pc = .ok (.newarray .long, 2)) (h : (q_V p l e R s m args below meth c Qf dC dI kA A L xs n0 ad0 j) (pc + 2, ls, .ref μ.1.length :: st, q_new μ 101 x.toNatClampNeg, uc + 1, us + x.toNatClampNeg)) : (q_V p l e R s m args below meth c Qf dC dI kA A L xs n0 ad0 j) (pc, ls, .int x :: st, μ, uc, us) := fun ad H locs lsR r => by
  refine va_newa (atype := .long) (ty := .long) (a0 := (x.toNatClampNeg, .inr (.inl fun _ => 0))) (N' := x.toNatClampNeg) F.1.1 F.1.2.1 (q_hts F hw rfl) rfl F.2.2.1.1 r.2.1.1 r.2.1.2.1 r.2.1.2.2 F.2.2.2.1 (fun _ => rfl) hx rfl (by show x.toNatClampNeg * 8 ≤ _; omega) (Nat.le_trans hc F.2.2.2.2.2.1.2.2.1) (Nat.le_trans hs F.2.2.2.2.2.1.2.2.2) hdg (fun q cA H1 hK hP hD hS => ?_)
  have ec := q_va_cA hK (t := 1) rfl
  subst ec
  have hce : q_cell ad kA (q_new μ 101 x.toNatClampNeg) μ.1.length (101, x.toNatClampNeg) = .inl (kA 101, x.toNatClampNeg, .inr (.inl fun _ => 0)) := by
    have e : (q_new μ 101 x.toNatClampNeg).2.2.1 μ.1.length = fun _ => 0 := by
      funext b
      simp [q_new]
    show Sum.inl (kA 101, x.toNatClampNeg, Sum.inr (Sum.inl ((q_new μ 101 x.toNatClampNeg).2.2.1 μ.1.length))) = _
    rw [e]
  rw [← hce] at hP hD
  exact q_born r hcl (by omega) hP hD hS h
theorem q_i_newA (F : q_Fr p R s m args meth c dC dI kA A L b0 xs n0 ad0 j) (ha : q_okA (102 + a) = true) (hao : va_AO (q_cn a) s) (hw : Cond.classLink (q_own j) idx (q_cn a) ∈ lw_tbl) (hx : ¬ x < 0) (hx2 : x.toNatClampNeg ≤ 60000) (hcl : q_clo μ.1.length ls st = true) (hc : uc + 1 ≤ q_mc j) (hs : us + x.toNatClampNeg ≤ q_ms j) (hdg : decode (q_m j).1.2.1 pc = .ok (.anewarray idx, 3)) (h : (q_V p l e R s m args below meth c Qf dC dI kA A L xs n0 ad0 j) (pc + 3, ls, .ref μ.1.length :: st, q_new μ (102 + a) x.toNatClampNeg, uc + 1, us + x.toNatClampNeg)) : (q_V p l e R s m args below meth c Qf dC dI kA A L xs n0 ad0 j) (pc, ls, .int x :: st, μ, uc, us) := fun ad H locs lsR r => by
  refine va_newq (N' := x.toNatClampNeg) F.1.1 F.1.2.1 F.1.2.2.2 (q_hts F hw rfl) hao F.2.2.1.1 r.2.1.1 r.2.1.2.1 r.2.1.2.2 F.2.2.2.1 hx rfl (by omega) (Nat.le_trans hc F.2.2.2.2.2.1.2.2.1) (Nat.le_trans hs F.2.2.2.2.2.1.2.2.2) hdg (fun q cA H1 hK hP hD hS => ?_)
  obtain ⟨t0, ht0⟩ := q_tyA (kA := kA) ha
  have e3 : 102 + a - 102 = a := by omega
  rw [e3] at ht0
  have ec := q_va_cA hK ht0
  subst ec
  have hce : q_cell ad kA (q_new μ (102 + a) x.toNatClampNeg) μ.1.length (102 + a, x.toNatClampNeg) = .inl (kA (102 + a), x.toNatClampNeg, .inr (.inr (.inr (.inr fun _ => none)))) := by
    rw [q_cellA ha]
    have e : ∀ i, (q_new μ (102 + a) x.toNatClampNeg).2.2.2 μ.1.length i = none := fun i => by simp [q_new]
    simp only [e, Option.map_none]
  rw [← hce] at hP hD
  exact q_born r hcl (by omega) hP hD hS h
end HEAP
end
section
def q_ws (y : Nat) : List Cond := .code (q_m y).1.1 (q_m y).1.2.1 (q_m y).1.2.2.1 (q_m y).1.2.2.2 :: q_gw
def q_rm (d y : Nat) : Room := { frames := d, cells := q_mc y, slots := q_ms y, locals := 64 * d }
def q_rv (ret : Option FieldType) (v : Value) : Option Value := match ret with
  | none => none
  | some _ => some v
def q_Po (dC : Nat → ClassId) (dI : Nat → Nat → Nat) (kA : Nat → ClassId) (L : Nat) (xs : Nat → Int32) (y : Nat) (Q : Value → q_Mem → Prop) (μ : q_Mem) (ad : Nat → Nat) (sz : Nat) : Array Value → State → Outcome → State → Prop := fun _ st oc t => (∃ (v : Value) (μ' : q_Mem) (ad' : Nat → Nat), oc = .returned (q_rv (q_m y).1.2.2.2 v) ∧ Q v μ' ∧ q_ok L xs μ' ∧ μ.1.length ≤ μ'.1.length ∧ (∀ k, k < μ.1.length → ad' k = ad k) ∧ (q_mc y = 0 → ad' = ad) ∧ va_P (dC, dI) vwCl (q_world ad' kA μ') t.heap ∧ va_D (va_A (q_world ad kA μ) sz) (q_world ad' kA μ')) ∧ va_F (va_A (q_world ad kA μ) sz) st t
def q_Pr (dC : Nat → ClassId) (dI : Nat → Nat → Nat) (kA : Nat → ClassId) (as : List Value) (μ : q_Mem) (ad : Nat → Nat) (sz : Nat) : Array Value → State → Prop := va_Pc (as.map (q_rn ad)) fun U => U.heap.size = sz ∧ va_P (dC, dI) vwCl (q_world ad kA μ) U.heap ∧ q_KK dC dI kA U ∧ va_D (fun _ => True) (q_world ad kA μ)
def q_MetS (l : Launch) (dC : Nat → ClassId) (dI : Nat → Nat → Nat) (kA : Nat → ClassId) (L : Nat) (xs : Nat → Int32) (d y : Nat) (as : List Value) (μ : q_Mem) (Q : Value → q_Mem → Prop) : Prop := ∀ (ad : Nat → Nat) (sz : Nat), q_ok L xs μ → Met l (q_m y).1.1 (q_ws y) (q_rm d y) (q_Pr dC dI kA as μ ad sz) (q_Po dC dI kA L xs y Q μ ad sz) (q_mc y) (q_ms y) (va_A (q_world ad kA μ) sz)
theorem q_Pr_blind {dC : Nat → ClassId} {dI : Nat → Nat → Nat} {kA : Nat → ClassId} {as : List Value} {μ : q_Mem} {ad : Nat → Nat} {sz : Nat} : FrameBlind (q_Pr dC dI kA as μ ad sz) := fun a U g mk q => by
  obtain ⟨q0, q1, qP, qK, qD⟩ := q
  exact ⟨q0, q1, qP, q_KK.same (s := U) (U := U.calling g mk a) qK rfl, qD⟩
theorem q_pop_spec {n : Nat} {st as rest : List Value} (h : q_pop n st = some (as, rest)) : as.length = n ∧ st = as.reverse ++ rest := by
  unfold q_pop at h
  split at h
  · rename_i hb
    cases h
    have hl := Nat.ble_eq.mp hb
    exact ⟨by simp [hl], by simp⟩
  · cases h
/-- what the tables say of method y -/
theorem q_ckM_get {y : Nat} (hy : y < 226) : q_ckM y = true := List.all_eq_true.mp q_ckM_ok y (List.mem_range.mpr hy)
theorem q_code_in {y : Nat} (hy : y < 226) : Cond.code (q_m y).1.1 (q_m y).1.2.1 (q_m y).1.2.2.1 (q_m y).1.2.2.2 ∈ lw_tbl := q_tb_in (List.mem_of_getElem? (q_cw_ok y hy))
theorem q_good {y : Nat} (hy : y < 226) : GoodIn q_gw (q_ws y) := by
  intro w hw
  rcases List.mem_cons.mp hw with rfl | h
  · exact ⟨q_gw_in (q_code_in hy) rfl, Or.inl rfl⟩
  · exact ⟨h, good_of_word (List.mem_filter.mp h).2⟩
section CALLS
variable {p : Program} {l : Launch} {e : Env} {R : Room} {s : State} {m : MethodId} {args : Array Value} {below : List Frame} {meth : Method} {c : Code} {Qf : State → Prop} {dC : Nat → ClassId} {dI : Nat → Nat → Nat} {kA : Nat → ClassId} {A : Nat → Prop} {L b0 : Nat} {xs : Nat → Int32} {n0 : Nat} {ad0 : Nat → Nat} {j pc a b uc us idx y d o : Nat} {ls : List (Option Value)} {st rest as : List Value} {μ : q_Mem} {x z : Int32} {Q : Value → q_Mem → Prop}
theorem q_after {ad : Nat → Nat} {H : Heap} {locs : List Loc} {lsR : Array Slot} {stk : List Value} {aa : Array Value} (hA : ∀ q, s.heap.size ≤ q → A q) (r : q_Re s dC dI kA A L xs n0 ad0 j ad H locs lsR ls μ) (hrun : va_Run p l e R s m args below meth c H locs uc us (q_mc y) (q_ms y) (F0 m pc lsR stk) (rest.map (q_rn ad)) (q_Po dC dI kA L xs y Q μ ad H.size aa) (va_A (q_world ad kA μ) H.size)) (hcl : q_mc y = 0 ∨ q_clo μ.1.length ls rest = true) (hmj : q_mc y ≤ q_mc j)
    (hQ : ∀ v μ', Q v μ' → q_back False (q_m y).1.2.2.2 v fun rr => (q_V p l e R s m args below meth c Qf dC dI kA A L xs n0 ad0 j) (pc + 3, ls, rr ++ rest, μ', uc + q_mc y, us + q_ms y)) : W p l e R s m args below meth c H locs uc us Qf (F0 m pc lsR stk) := by
  intro T hT X
  obtain ⟨v, st₀, t, T', Lc, h0, X', hL, e1, e2, ⟨⟨w, μ', ad', hv, hq, hok', hlen, hag, had, hP', hD'⟩, hz, hk⟩, st⟩ := hrun T hT X
  have hv2 : v = q_rv (q_m y).1.2.2.2 w := by injection hv
  subst hv2
  rw [h0] at hz hk
  obtain ⟨⟨hok, hn0, hagn, hmc⟩, ⟨hP, hD, hS⟩, hLS⟩ := r
  have hF : ∀ q, va_A (q_world ad kA μ) H.size q → A q := by
    intro q h
    rcases h with ⟨k, ev, h⟩ | h
    · exact hD.2 k (q, ev) h
    · exact hA q (Nat.le_trans hS.1 h)
  have hS' : va_S A s.heap T'.heap (locs ++ Lc) := ⟨Nat.le_trans hS.1 (by rw [e1]; exact hz), fun q h1 h2 => by
      rw [e1, hk q (Nat.lt_of_lt_of_le h1 hS.1) (fun z => h2 (hF q z))]
      exact hS.2.1 q h1 h2, fun q hq => by
      rcases List.mem_append.mp hq with h | h
      · exact hS.2.2 q h
      · exact hF _ (hL q h)⟩
  have hrn : rest.map (q_rn ad') = rest.map (q_rn ad) ∧ q_LS ad' (q_m j).2.2.1 ls lsR (q_m j).1.2.2.1 := by
    rcases hcl with h | h
    · have := had h
      subst this
      exact ⟨rfl, hLS⟩
    · obtain ⟨g1, g2⟩ := q_clo_rn hag h
      exact ⟨g1, g2 _ _ _ hLS⟩
  have r' : q_Re s dC dI kA A L xs n0 ad0 j ad' T'.heap (locs ++ Lc) lsR ls μ' := ⟨⟨hok', Nat.le_trans hn0 hlen, fun k hk => (hag k (Nat.lt_of_lt_of_le hk hn0)).trans (hagn k hk), fun h => (had (Nat.le_zero.mp (h ▸ hmj))).trans (hmc h)⟩, ⟨by rw [e1]; exact hP', hD'.weaken (fun _ q _ h => hF q.1 h), hS'⟩, hrn.2⟩
  have hV := hQ w μ' hq
  have key : ∀ rr : List Value, ((q_V p l e R s m args below meth c Qf dC dI kA A L xs n0 ad0 j) (pc + 3, ls, rr ++ rest, μ', uc + q_mc y, us + q_ms y)) → (q_rv (q_m y).1.2.2.2 w).toList = rr.map (q_rn ad') → ∃ t, Steps p.tables e below (T.setTop (F0 m pc lsR stk)) t ∧ Qf t := by
    intro rr hh he
    have h1 := hh ad' T'.heap (locs ++ Lc) lsR r'
    dsimp only at h1
    rw [List.map_append, hrn.1, ← he] at h1
    obtain ⟨t2, a1, b1⟩ := h1 T' rfl X'
    exact ⟨t2, st t2 a1, b1⟩
  cases hr : (q_m y).1.2.2.2 with
  | none =>
    rw [hr] at hV key
    exact key [] hV rfl
  | some ty =>
    rw [hr] at hV key
    cases ty <;> first | exact hV.elim | skip
    · obtain ⟨x, rfl, hV⟩ := q_onI_spec hV
      exact key [.int x] hV rfl
    · obtain ⟨x, rfl, hV⟩ := q_onJ_spec hV
      exact key [.long x] hV rfl
    · obtain ⟨x, rfl, hV⟩ := q_onI_spec hV
      exact key [.int x] hV rfl
theorem q_roomy (hy : y < 226) (hR : d + 1 ≤ R.frames ∧ 64 * (d + 1) ≤ R.locals) : (q_rm d y).frames + 1 ≤ R.frames ∧ 8 + ((q_m y).1.2.2.1 + 11) + (q_rm d y).locals ≤ R.locals := by
  have h := q_ckM_get hy
  unfold q_ckM at h
  simp only [Bool.and_eq_true] at h
  have h4 := Nat.ble_eq.mp h.2.2.2.1
  have e1 : (q_rm d y).frames = d := rfl
  have e2 : (q_rm d y).locals = 64 * d := rfl
  rw [e1, e2]
  omega
theorem q_callB (F : q_Fr p R s m args meth c dC dI kA A L b0 xs n0 ad0 j) (hy : y < 226) (hR : d + 1 ≤ R.frames ∧ 64 * (d + 1) ≤ R.locals) (hw : Cond.methodLink (q_own j) idx (q_m y).1.1 ∈ lw_tbl) : CallB R s args (q_own j) idx (q_m y).1.1 (q_m y).1.2.1 (q_m y).1.2.2.1 (q_m y).1.2.2.2 (q_ws y) (q_rm d y) (q_mc y) (q_ms y) (q_m y).2.1.1 := by
  have h := q_ckM_get hy
  unfold q_ckM at h
  simp only [Bool.and_eq_true, decide_eq_true_eq] at h
  exact callB_of (q_m y).2.1.1 F.2.1 (q_good hy) rfl rfl rfl (q_hts F (q_tb_in (List.mem_of_getElem? h.2.2.2.2.1)) rfl) (q_hts F hw rfl) ⟨h.2.1.1, h.2.1.2, h.2.2.1⟩ (q_roomy hy hR)
theorem q_fix (F : q_Fr p R s m args meth c dC dI kA A L b0 xs n0 ad0 j) : CallFix p m c (q_m j).1.2.1 (q_m j).1.2.2.1 s args q_gw (q_own j) := ⟨F.1.1, F.1.2.1, F.1.2.2.1, F.1.2.2.2, F.2.1⟩
theorem q_room {ad : Nat → Nat} {lsR : Array Slot} {stk : List Value} (h : Nat.ble (q_cats rest) 8 = true) : 2 * (F0 m pc lsR stk).monitorRoom + ((rest.map (q_rn ad)).map fun v => v.category).sum ≤ 8 := lv_room (by rw [q_cats_rn]; exact Nat.ble_eq.mp h)
theorem q_i_callV (F : q_Fr p R s m args meth c dC dI kA A L b0 xs n0 ad0 j) (hM : q_MetS l dC dI kA L xs d y (.ref o :: as) μ Q) (hy : y < 226) (hk : (q_m y).2.1.2.1 = 0) (hR : d + 1 ≤ R.frames ∧ 64 * (d + 1) ≤ R.locals) (hw : Cond.methodLink (q_own j) idx (q_m y).1.1 ∈ lw_tbl) (ho : q_isO μ.1 o (q_m y).2.1.2.2.1 = true) (has : as.length = (q_m y).2.1.1) (hst : st = as.reverse ++ .ref o :: rest) (hcl : q_mc y = 0 ∨ q_clo μ.1.length ls rest = true) (hcat : Nat.ble (q_cats rest) 8 = true) (hc : uc + q_mc y ≤ q_mc j) (hs : us + q_ms y ≤ q_ms j)
    (hdg : decode (q_m j).1.2.1 pc = .ok (.invokevirtual idx, 3)) (hQ : ∀ v μ', Q v μ' → q_back False (q_m y).1.2.2.2 v fun rr => (q_V p l e R s m args below meth c Qf dC dI kA A L xs n0 ad0 j) (pc + 3, ls, rr ++ rest, μ', uc + q_mc y, us + q_ms y)) : (q_V p l e R s m args below meth c Qf dC dI kA A L xs n0 ad0 j) (pc, ls, st, μ, uc, us) := fun ad H locs lsR r => by
  have h := q_ckM_get hy
  unfold q_ckM at h
  rw [hk] at h
  simp only [Bool.and_eq_true, decide_eq_true_eq] at h
  obtain ⟨hin, hse, hco, hcn⟩ := h.2.2.2.2.2
  have hC : (q_m y).2.1.2.2.1 < 11 := Nat.ble_eq.mp hco
  obtain ⟨n, hn⟩ := q_isO_spec ho
  obtain ⟨h0, hwd⟩ := q_world_at (ad := ad) (kA := kA) r.1.1 hn (show (q_m y).2.1.2.2.1 ≠ 99 by omega)
  have hce : q_cell ad kA μ o ((q_m y).2.1.2.2.1, n) = .inr ((q_m y).2.1.2.2.1, (List.range (q_N (q_m y).2.1.2.2.1)).map fun k => q_fv ad μ o (q_m y).2.1.2.2.1 k) := by
    unfold q_cell
    rw [if_pos (show (q_m y).2.1.2.2.1 ≤ 10 by omega)]
  rw [hce] at hwd
  have hrc := va_recv F.2.2.1.1 r.2.1.1 (q_clc _ hC) hwd
  rw [hcn] at hrc
  refine q_after F.2.2.2.1 r (va_runV (As := as.map (q_rn ad)) (q_fix F) (hM ad H.size r.1.1) ⟨q_callB F hy hR hw, q_hts F (q_tb_in (List.mem_of_getElem? hin)) rfl, q_hts F (q_tb_in (List.mem_of_getElem? hse)) rfl⟩ ⟨q_Pr_blind, hrc, fun U hU hW => ⟨rfl, by rw [hU], by rw [hU]; exact r.2.1.1, F.2.2.1.warm hW, r.2.1.2.1.weaken (fun _ _ _ _ => trivial)⟩⟩ rfl (by rw [List.length_map]; exact has) r.2.2.2.1 (by rw [hst, List.map_append, List.map_reverse]; rfl) (q_room hcat) hdg ⟨Nat.le_trans hc F.2.2.2.2.2.1.2.2.1, Nat.le_trans hs F.2.2.2.2.2.1.2.2.2⟩) hcl (by omega) hQ
theorem q_i_callS (F : q_Fr p R s m args meth c dC dI kA A L b0 xs n0 ad0 j) (hM : q_MetS l dC dI kA L xs d y as μ Q) (hy : y < 226) (hk : (q_m y).2.1.2.1 = 1) (hR : d + 1 ≤ R.frames ∧ 64 * (d + 1) ≤ R.locals) (hw : Cond.methodLink (q_own j) idx (q_m y).1.1 ∈ lw_tbl) (has : as.length = (q_m y).2.1.1) (hst : st = as.reverse ++ rest) (hcl : q_mc y = 0 ∨ q_clo μ.1.length ls rest = true) (hcat : Nat.ble (q_cats rest) 8 = true) (hc : uc + q_mc y ≤ q_mc j) (hs : us + q_ms y ≤ q_ms j)
    (hdg : decode (q_m j).1.2.1 pc = .ok (.invokestatic idx, 3)) (hQ : ∀ v μ', Q v μ' → q_back False (q_m y).1.2.2.2 v fun rr => (q_V p l e R s m args below meth c Qf dC dI kA A L xs n0 ad0 j) (pc + 3, ls, rr ++ rest, μ', uc + q_mc y, us + q_ms y)) : (q_V p l e R s m args below meth c Qf dC dI kA A L xs n0 ad0 j) (pc, ls, st, μ, uc, us) := fun ad H locs lsR r => by
  have h := q_ckM_get hy
  unfold q_ckM at h
  rw [hk] at h
  simp only [Bool.and_eq_true, decide_eq_true_eq] at h
  exact q_after F.2.2.2.1 r (va_runS (As := as.map (q_rn ad)) (q_fix F) (hM ad H.size r.1.1) ⟨q_callB F hy hR hw, q_hts F (q_tb_in (List.mem_of_getElem? h.2.2.2.2.2)) rfl⟩ ⟨q_Pr_blind, fun U hU hW => ⟨rfl, by rw [hU], by rw [hU]; exact r.2.1.1, F.2.2.1.warm hW, r.2.1.2.1.weaken (fun _ _ _ _ => trivial)⟩⟩ rfl (by rw [List.length_map]; exact has) r.2.2.2.1 (by rw [hst, List.map_append, List.map_reverse]) (q_room hcat) hdg ⟨Nat.le_trans hc F.2.2.2.2.2.1.2.2.1, Nat.le_trans hs F.2.2.2.2.2.1.2.2.2⟩) hcl (by omega) hQ
theorem q_i_callI (F : q_Fr p R s m args meth c dC dI kA A L b0 xs n0 ad0 j) (hM : q_MetS l dC dI kA L xs d y (.ref o :: as) μ Q) (hy : y < 226) (hk : (q_m y).2.1.2.1 = 2) (hR : d + 1 ≤ R.frames ∧ 64 * (d + 1) ≤ R.locals) (hw : Cond.methodLink (q_own j) idx (q_m y).1.1 ∈ lw_tbl ∨ Cond.methodLinkNest (q_own j) idx (q_m y).1.1 "PluginChains" ∈ lw_tbl) (has : as.length = (q_m y).2.1.1) (hst : st = as.reverse ++ .ref o :: rest) (hcl : q_mc y = 0 ∨ q_clo μ.1.length ls rest = true) (hcat : Nat.ble (q_cats rest) 8 = true) (hc : uc + q_mc y ≤ q_mc j) (hs : us + q_ms y ≤ q_ms j)
    (hdg : decode (q_m j).1.2.1 pc = .ok (.invokespecial idx, 3)) (hQ : ∀ v μ', Q v μ' → q_back False (q_m y).1.2.2.2 v fun rr => (q_V p l e R s m args below meth c Qf dC dI kA A L xs n0 ad0 j) (pc + 3, ls, rr ++ rest, μ', uc + q_mc y, us + q_ms y)) : (q_V p l e R s m args below meth c Qf dC dI kA A L xs n0 ad0 j) (pc, ls, st, μ, uc, us) := fun ad H locs lsR r => by
  have h := q_ckM_get hy
  unfold q_ckM at h
  rw [hk] at h
  simp only [Bool.and_eq_true, decide_eq_true_eq] at h
  obtain ⟨hin, hnm, hre⟩ := h.2.2.2.2.2
  have hws : q_ws y = .code (q_m y).1.1 (q_m y).1.2.1 (q_m y).1.2.2.1 none :: q_gw := by unfold q_ws; rw [hre]
  have hini := q_hts F (q_tb_in (List.mem_of_getElem? h.2.2.2.2.1)) rfl
  have hinst := q_hts F (q_tb_in (List.mem_of_getElem? hin)) rfl
  have hd : (q_m y).1.1.cls ≠ "java/lang/invoke/MethodHandle" ∧ (q_m y).1.1.cls ≠ "java/lang/invoke/VarHandle" ∧ (parseMethodDescriptor (q_m y).1.1.desc).map (fun d => d.parameters.length) = some (q_m y).2.1.1 := ⟨h.2.1.1, h.2.1.2, h.2.2.1⟩
  have hp : PreS s H (q_Pr dC dI kA (.ref o :: as) μ ad H.size) (.ref (ad o) :: as.map (q_rn ad)) := ⟨q_Pr_blind, fun U hU hW => ⟨rfl, by rw [hU], by rw [hU]; exact r.2.1.1, F.2.2.1.warm hW, r.2.1.2.1.weaken (fun _ _ _ _ => trivial)⟩⟩
  have hstk : (F0 m pc lsR (st.map (q_rn ad))).stack = (as.map (q_rn ad)).reverse ++ .ref (ad o) :: rest.map (q_rn ad) := by
    show st.map (q_rn ad) = _
    rw [hst, List.map_append, List.map_reverse]
    rfl
  rcases hw with hw | hw
  · exact q_after F.2.2.2.1 r (va_runI (As := as.map (q_rn ad)) (q_fix F) (hM ad H.size r.1.1) ⟨callB_of (ret := none) (q_m y).2.1.1 F.2.1 (q_good hy) hws rfl rfl hini (q_hts F hw rfl) hd (q_roomy hy hR), hnm, hinst⟩ hp rfl (by rw [List.length_map]; exact has) r.2.2.2.1 hstk (q_room hcat) hdg ⟨Nat.le_trans hc F.2.2.2.2.2.1.2.2.1, Nat.le_trans hs F.2.2.2.2.2.1.2.2.2⟩) hcl (by omega) hQ
  · exact q_after F.2.2.2.1 r (va_runIN (As := as.map (q_rn ad)) (q_fix F) (hM ad H.size r.1.1) ⟨va_cnB (ret := none) (q_m y).2.1.1 F.2.1 (q_good hy) hws rfl rfl (F.2.2.1.2.1 _ (List.mem_filter.mpr ⟨hw, rfl⟩)) hini hd (q_roomy hy hR), hnm, hinst⟩ hp rfl (by rw [List.length_map]; exact has) r.2.2.2.1 hstk (q_room hcat) hdg ⟨Nat.le_trans hc F.2.2.2.2.2.1.2.2.1, Nat.le_trans hs F.2.2.2.2.2.1.2.2.2⟩) hcl (by omega) hQ
theorem q_i_objInit (F : q_Fr p R s m args meth c dC dI kA A L b0 xs n0 ad0 j) (hw : Cond.methodLink (q_own j) idx Lib.objectInit ∈ lw_tbl) (hcat : Nat.ble (q_cats st) 8 = true) (hdg : decode (q_m j).1.2.1 pc = .ok (.invokespecial idx, 3)) (h : (q_V p l e R s m args below meth c Qf dC dI kA A L xs n0 ad0 j) (pc + 3, ls, st, μ, uc, us)) : (q_V p l e R s m args below meth c Qf dC dI kA A L xs n0 ad0 j) (pc, ls, .ref o :: st, μ, uc, us) := fun ad H locs lsR r => by
  refine W.objInit F.1.1 F.1.2.1 F.1.2.2.2 (q_hts F hw rfl) (q_hts F q_mmw.2.2.2.2.2.2.1 rfl) (q_hts F q_mmc.2.2 rfl) rfl (r.2.2.2.1.trans F.1.2.2.1.symm) rfl hdg F.2.2.2.2.2.1.1 ?_ (h ad H locs lsR r)
  have h1 := q_cats_rn ad st
  have h2 := Nat.ble_eq.mp hcat
  have h3 := F.2.2.2.2.2.1.2.1
  show 2 * 0 + ((st.map (q_rn ad)).map fun v => v.category).sum + 12 ≤ R.locals
  omega
theorem q_i_max (F : q_Fr p R s m args meth c dC dI kA A L b0 xs n0 ad0 j) (hw : Cond.methodLink (q_own j) idx Lib.Math.max.name ∈ lw_tbl) (hcat : Nat.ble (q_cats st) 8 = true) (hc : uc ≤ q_mc j) (hs : us ≤ q_ms j) (hdg : decode (q_m j).1.2.1 pc = .ok (.invokestatic idx, 3)) (h : (q_V p l e R s m args below meth c Qf dC dI kA A L xs n0 ad0 j) (pc + 3, ls, .int (if x < z then z else x) :: st, μ, uc, us)) : (q_V p l e R s m args below meth c Qf dC dI kA A L xs n0 ad0 j) (pc, ls, .int z :: .int x :: st, μ, uc, us) := fun ad H locs lsR r => by
  refine va_mmax F.1.1 F.1.2.1 (F.1.2.2.1.trans r.2.2.2.1.symm) F.1.2.2.2 (q_hts F hw rfl) (q_hts F q_mmw.1 rfl) (q_hts F q_mmw.2.2.1 rfl) (q_hts F q_mmc.1 rfl) F.2.2.2.2.2.1.1 ?_ (Nat.le_trans hc F.2.2.2.2.2.1.2.2.1) (Nat.le_trans hs F.2.2.2.2.2.1.2.2.2) hdg (h ad H locs lsR r)
  have h1 := q_cats_rn ad st
  have h2 := Nat.ble_eq.mp hcat
  have h3 := F.2.2.2.2.2.1.2.1
  omega
theorem q_i_min (F : q_Fr p R s m args meth c dC dI kA A L b0 xs n0 ad0 j) (hw : Cond.methodLink (q_own j) idx Lib.Math.min.name ∈ lw_tbl) (hcat : Nat.ble (q_cats st) 8 = true) (hc : uc ≤ q_mc j) (hs : us ≤ q_ms j) (hdg : decode (q_m j).1.2.1 pc = .ok (.invokestatic idx, 3)) (h : (q_V p l e R s m args below meth c Qf dC dI kA A L xs n0 ad0 j) (pc + 3, ls, .int (if z < x then z else x) :: st, μ, uc, us)) : (q_V p l e R s m args below meth c Qf dC dI kA A L xs n0 ad0 j) (pc, ls, .int z :: .int x :: st, μ, uc, us) := fun ad H locs lsR r => by
  refine va_mmin F.1.1 F.1.2.1 (F.1.2.2.1.trans r.2.2.2.1.symm) F.1.2.2.2 (q_hts F hw rfl) (q_hts F q_mmw.2.1 rfl) (q_hts F q_mmw.2.2.1 rfl) (q_hts F q_mmc.2.1 rfl) F.2.2.2.2.2.1.1 ?_ (Nat.le_trans hc F.2.2.2.2.2.1.2.2.1) (Nat.le_trans hs F.2.2.2.2.2.1.2.2.2) hdg (h ad H locs lsR r)
  have h1 := q_cats_rn ad st
  have h2 := Nat.ble_eq.mp hcat
  have h3 := F.2.2.2.2.2.1.2.1
  omega
theorem q_natw : nativeFrameWords "java/lang/System" "arraycopy" 5 ≤ 20 := by decide +kernel
theorem q_i_copyI {sp dp n : Int32} {o' n1 n2 : Nat} (F : q_Fr p R s m args meth c dC dI kA A L b0 xs n0 ad0 j) (hw : Cond.methodLink (q_own j) idx arraycopyName ∈ lw_tbl) (hcat : Nat.ble (q_cats st) 8 = true) (h0 : q_arr μ.1 o 100 = some n1) (h1 : q_arr μ.1 o' 100 = some n2) (hh : ¬ sp < 0 ∧ ¬ dp < 0 ∧ ¬ n < 0 ∧ sp.toNatClampNeg + n.toNatClampNeg ≤ n1 ∧ dp.toNatClampNeg + n.toNatClampNeg ≤ n2) (hdg : decode (q_m j).1.2.1 pc = .ok (.invokestatic idx, 3)) (h : (q_V p l e R s m args below meth c Qf dC dI kA A L xs n0 ad0 j) (pc + 3, ls, st, q_cI μ o o' sp.toNatClampNeg dp.toNatClampNeg n.toNatClampNeg, uc, us)) : (q_V p l e R s m args below meth c Qf dC dI kA A L xs n0 ad0 j) (pc, ls, .int n :: .int dp :: .ref o' :: .int sp :: .ref o :: st, μ, uc, us) := fun ad H locs lsR r => by
  have g1 := q_arr_spec h0
  have g2 := q_arr_spec h1
  obtain ⟨z1, w1⟩ := q_world_at (ad := ad) (kA := kA) r.1.1 g1 (by dsimp only; decide)
  obtain ⟨z2, w2⟩ := q_world_at (ad := ad) (kA := kA) r.1.1 g2 (by dsimp only; decide)
  have c1 : q_cell ad kA μ o (100, n1) = .inl (kA 100, n1, .inl (μ.2.1 o)) := rfl
  have c2 : q_cell ad kA μ o' (100, n2) = .inl (kA 100, n2, .inl (μ.2.1 o')) := rfl
  rw [c1] at w1
  rw [c2] at w2
  have ew := q_world_set (ad := ad) (kA := kA) (μ' := q_cI μ o o' sp.toNatClampNeg dp.toNatClampNeg n.toNatClampNeg) z2 g2 rfl (fun a q ha => q_cell_congr (by funext b; simp [q_cI, ha]) rfl rfl)
  have c3 : q_cell ad kA (q_cI μ o o' sp.toNatClampNeg dp.toNatClampNeg n.toNatClampNeg) o' (100, n2) = .inl (kA 100, n2, .inl (va_cpy (μ.2.1 o) (μ.2.1 o') sp.toNatClampNeg dp.toNatClampNeg n.toNatClampNeg)) := by
    have ee : (q_cI μ o o' sp.toNatClampNeg dp.toNatClampNeg n.toNatClampNeg).2.1 o' = va_cpy (μ.2.1 o) (μ.2.1 o') sp.toNatClampNeg dp.toNatClampNeg n.toNatClampNeg := by
      funext b
      simp [q_cI]
    show Sum.inl (kA 100, n2, Sum.inl ((q_cI μ o o' sp.toNatClampNeg dp.toNatClampNeg n.toNatClampNeg).2.1 o')) = _
    rw [ee]
  rw [c3] at ew
  have hr2 := F.2.2.2.2.2.1
  have k1 := q_cats_rn ad st
  have k2 := Nat.ble_eq.mp hcat
  have k3 := q_natw
  refine va_copyi F.1.1 F.1.2.1 (F.1.2.2.1.trans r.2.2.2.1.symm) F.1.2.2.2 (q_hts F hw rfl) (q_hts F q_mmw.2.2.2.1 rfl) (q_hts F q_mmw.2.2.2.2.1 rfl) (q_hts F q_mmw.2.2.2.2.2.1 rfl) F.2.2.1.1 r.2.1.1 r.2.1.2.1 r.2.1.2.2 (o - 1) (o' - 1) 0 0 w1 w2 rfl rfl rfl hh.1 hh.2.1 hh.2.2.1 hh.2.2.2.1 hh.2.2.2.2 (fun _ _ => rfl) hr2.1 (by omega) hdg fun H1 locs1 hP hD hS => ?_
  rw [← ew] at hP hD
  exact h ad H1 locs1 lsR ⟨⟨⟨r.1.1.1, fun i => by
    show (if 0 = o' then _ else μ.2.1 0 i) = xs i
    rw [if_neg (Ne.symm z2)]
    exact r.1.1.2.1 i, r.1.1.2.2⟩, r.1.2⟩, ⟨hP, hD, hS⟩, r.2.2⟩
theorem q_i_copyL {sp dp n : Int32} {o' n1 n2 : Nat} (F : q_Fr p R s m args meth c dC dI kA A L b0 xs n0 ad0 j) (hw : Cond.methodLink (q_own j) idx arraycopyName ∈ lw_tbl) (hcat : Nat.ble (q_cats st) 8 = true) (h0 : q_arr μ.1 o 101 = some n1) (h1 : q_arr μ.1 o' 101 = some n2) (hh : ¬ sp < 0 ∧ ¬ dp < 0 ∧ ¬ n < 0 ∧ sp.toNatClampNeg + n.toNatClampNeg ≤ n1 ∧ dp.toNatClampNeg + n.toNatClampNeg ≤ n2) (hdg : decode (q_m j).1.2.1 pc = .ok (.invokestatic idx, 3)) (h : (q_V p l e R s m args below meth c Qf dC dI kA A L xs n0 ad0 j) (pc + 3, ls, st, q_cL μ o o' sp.toNatClampNeg dp.toNatClampNeg n.toNatClampNeg, uc, us)) : (q_V p l e R s m args below meth c Qf dC dI kA A L xs n0 ad0 j) (pc, ls, .int n :: .int dp :: .ref o' :: .int sp :: .ref o :: st, μ, uc, us) := fun ad H locs lsR r => by
  have g1 := q_arr_spec h0
  have g2 := q_arr_spec h1
  obtain ⟨z1, w1⟩ := q_world_at (ad := ad) (kA := kA) r.1.1 g1 (by dsimp only; decide)
  obtain ⟨z2, w2⟩ := q_world_at (ad := ad) (kA := kA) r.1.1 g2 (by dsimp only; decide)
  have c1 : q_cell ad kA μ o (101, n1) = .inl (kA 101, n1, .inr (.inl (μ.2.2.1 o))) := rfl
  have c2 : q_cell ad kA μ o' (101, n2) = .inl (kA 101, n2, .inr (.inl (μ.2.2.1 o'))) := rfl
  rw [c1] at w1
  rw [c2] at w2
  have ew := q_world_set (ad := ad) (kA := kA) (μ' := q_cL μ o o' sp.toNatClampNeg dp.toNatClampNeg n.toNatClampNeg) z2 g2 rfl (fun a q ha => q_cell_congr rfl (by funext b; simp [q_cL, ha]) rfl)
  have c3 : q_cell ad kA (q_cL μ o o' sp.toNatClampNeg dp.toNatClampNeg n.toNatClampNeg) o' (101, n2) = .inl (kA 101, n2, .inr (.inl (va_cpy (μ.2.2.1 o) (μ.2.2.1 o') sp.toNatClampNeg dp.toNatClampNeg n.toNatClampNeg))) := by
    have ee : (q_cL μ o o' sp.toNatClampNeg dp.toNatClampNeg n.toNatClampNeg).2.2.1 o' = va_cpy (μ.2.2.1 o) (μ.2.2.1 o') sp.toNatClampNeg dp.toNatClampNeg n.toNatClampNeg := by
      funext b
      simp [q_cL]
    show Sum.inl (kA 101, n2, Sum.inr (Sum.inl ((q_cL μ o o' sp.toNatClampNeg dp.toNatClampNeg n.toNatClampNeg).2.2.1 o'))) = _
    rw [ee]
  rw [c3] at ew
  have hr2 := F.2.2.2.2.2.1
  have k1 := q_cats_rn ad st
  have k2 := Nat.ble_eq.mp hcat
  have k3 := q_natw
  refine va_copyl F.1.1 F.1.2.1 (F.1.2.2.1.trans r.2.2.2.1.symm) F.1.2.2.2 (q_hts F hw rfl) (q_hts F q_mmw.2.2.2.1 rfl) (q_hts F q_mmw.2.2.2.2.1 rfl) (q_hts F q_mmw.2.2.2.2.2.1 rfl) F.2.2.1.1 r.2.1.1 r.2.1.2.1 r.2.1.2.2 (o - 1) (o' - 1) 1 1 w1 w2 rfl rfl rfl hh.1 hh.2.1 hh.2.2.1 hh.2.2.2.1 hh.2.2.2.2 (fun _ _ => rfl) hr2.1 (by omega) hdg fun H1 locs1 hP hD hS => ?_
  rw [← ew] at hP hD
  exact h ad H1 locs1 lsR ⟨⟨r.1.1, r.1.2⟩, ⟨hP, hD, hS⟩, r.2.2⟩
end CALLS
end
section
section MASTER
variable {p : Program} {l : Launch} {e : Env} {R : Room} {s : State} {m : MethodId} {args : Array Value} {below : List Frame} {meth : Method} {c : Code} {Qf : State → Prop} {dC : Nat → ClassId} {dI : Nat → Nat → Nat} {kA : Nat → ClassId} {A : Nat → Prop} {L b0 : Nat} {xs : Nat → Int32} {n0 : Nat} {ad0 : Nat → Nat} {j d : Nat}
/-- what a return must do -/
def q_RH (p : Program) (l : Launch) (e : Env) (R : Room) (s : State) (m : MethodId) (args : Array Value) (below : List Frame) (meth : Method) (c : Code) (Qf : State → Prop) (dC : Nat → ClassId) (dI : Nat → Nat → Nat) (kA : Nat → ClassId) (A : Nat → Prop) (L : Nat) (xs : Nat → Int32) (n0 : Nat) (ad0 : Nat → Nat) (j : Nat) (rt : Value → q_Mem → Nat → Nat → Prop) : Prop :=
  (∀ (pc : Nat) (ls : List (Option Value)) (x : Int32) (μ : q_Mem) (uc us : Nat) (ty : FieldType), (q_m j).1.2.2.2 = some ty → narrow ty (.int x) = .int x → rt (.int x) μ uc us → uc ≤ q_mc j → us ≤ q_ms j → decode (q_m j).1.2.1 pc = .ok (.ireturn, 1) → q_V p l e R s m args below meth c Qf dC dI kA A L xs n0 ad0 j (pc, ls, [.int x], μ, uc, us)) ∧
  (∀ (pc : Nat) (ls : List (Option Value)) (x : Int64) (μ : q_Mem) (uc us : Nat), (q_m j).1.2.2.2 = some .long → rt (.long x) μ uc us → uc ≤ q_mc j → us ≤ q_ms j → decode (q_m j).1.2.1 pc = .ok (.lreturn, 1) → q_V p l e R s m args below meth c Qf dC dI kA A L xs n0 ad0 j (pc, ls, [.long x], μ, uc, us)) ∧
  (∀ (pc : Nat) (ls : List (Option Value)) (μ : q_Mem) (uc us : Nat), (q_m j).1.2.2.2 = none → rt .null μ uc us → uc ≤ q_mc j → us ≤ q_ms j → decode (q_m j).1.2.1 pc = .ok (.return_, 1) → q_V p l e R s m args below meth c Qf dC dI kA A L xs n0 ad0 j (pc, ls, [], μ, uc, us))
theorem q_ble2 {a b c d : Nat} (h : (Nat.ble a b && Nat.ble c d) = true) : a ≤ b ∧ c ≤ d := by rw [Bool.and_eq_true] at h; exact ⟨Nat.le_of_ble_eq_true h.1, Nat.le_of_ble_eq_true h.2⟩
theorem q_fk_int {t : FieldType} (h : q_fk t = 0) : t = .int := by cases t <;> first | rfl | cases h
theorem q_fk_bool {t : FieldType} (h : q_fk t = 1) : t = .boolean := by cases t <;> first | rfl | cases h
theorem q_fk_ref {t : FieldType} (h : q_fk t = 2) : (∃ n, t = .object n) ∨ ∃ n, t = .array n := by cases t <;> first | exact Or.inl ⟨_, rfl⟩ | exact Or.inr ⟨_, rfl⟩ | cases h
theorem q_nb {x : Int32} (h : x = 0 ∨ x = 1) : narrow .boolean (.int x) = .int x := by rcases h with rfl | rfl <;> decide
theorem q_fb {x : Int32} (h : x = 0 ∨ x = 1) : fits .boolean (.int x) = true := by rcases h with rfl | rfl <;> decide
theorem q_fvI_ne {ad : Nat → Nat} {μ : q_Mem} {o a b k : Nat} {x : Int32} (hk : k ≠ b) : q_fv ad (q_sI μ o b x) o a k = q_fv ad μ o a k := by
  unfold q_fv
  have e1 : (q_sI μ o b x).2.1 o k = μ.2.1 o k := by simp [q_sI, hk]
  have e2 : (q_sI μ o b x).2.2.2 o k = μ.2.2.2 o k := rfl
  rw [e1, e2]
theorem q_fvR_ne {ad : Nat → Nat} {μ : q_Mem} {o a b k : Nat} {x : Option Nat} (hk : k ≠ b) : q_fv ad (q_sR μ o b x) o a k = q_fv ad μ o a k := by
  unfold q_fv
  have e1 : (q_sR μ o b x).2.2.2 o k = μ.2.2.2 o k := by simp [q_sR, hk]
  have e2 : (q_sR μ o b x).2.1 o k = μ.2.1 o k := rfl
  rw [e1, e2]
theorem q_fvI_eq {ad : Nat → Nat} {μ : q_Mem} {o a b : Nat} {x : Int32} (hf : q_fk (q_tyf a b) = 0 ∨ q_fk (q_tyf a b) = 1) : q_fv ad (q_sI μ o b x) o a b = q_rn ad (.int x) := by
  unfold q_fv
  have e1 : (q_sI μ o b x).2.1 o b = x := by simp [q_sI]
  rcases hf with hf | hf <;> (rw [e1, hf]; rfl)
theorem q_fvR_eq {ad : Nat → Nat} {μ : q_Mem} {o a b x : Nat} (hf : q_fk (q_tyf a b) = 2) : q_fv ad (q_sR μ o b (some x)) o a b = q_rn ad (.ref x) := by
  unfold q_fv
  have e1 : (q_sR μ o b (some x)).2.2.2 o b = some x := by simp [q_sR]
  rw [e1, hf]
  rfl
theorem q_snd_ex (F : q_Fr p R s m args meth c dC dI kA A L b0 xs n0 ad0 j) (hR : d + 1 ≤ R.frames ∧ 64 * (d + 1) ≤ R.locals) {cl : Nat → List Value → q_Mem → (Value → q_Mem → Prop) → Prop} (hcl : ∀ y as μ Q, cl y as μ Q → q_MetS l dC dI kA L xs d y as μ Q) {rt : Value → q_Mem → Nat → Nat → Prop} (hrt : q_RH p l e R s m args below meth c Qf dC dI kA A L xs n0 ad0 j rt) {pc n a b pl uc us : Nat} {ls : List (Option Value)} {st : List Value} {μ : q_Mem} (i : Instr) (hck : q_ckI j pc (i, n, a, b, pl) = true)
    (h : q_ex False (fun c _ x => c ∧ x) (fun c _ x y => (c → x) ∧ (¬ c → y)) cl rt j (q_V p l e R s m args below meth c Qf dC dI kA A L xs n0 ad0 j) i n a b pc ls st μ uc us) : q_V p l e R s m args below meth c Qf dC dI kA A L xs n0 ad0 j (pc, ls, st, μ, uc, us) := by
  obtain ⟨hdg, hln⟩ := q_ck_dec hck
  cases i
  case iconst k =>
    have hn : n = 1 := hln.elim (fun h0 => absurd h0 (show ¬ ((1 : Nat) = 0) from by decide)) (fun h0 => h0.symm)
    subst hn
    exact q_i_iconst F hdg h
  case bipush k =>
    have hn : n = 2 := hln.elim (fun h0 => absurd h0 (show ¬ ((2 : Nat) = 0) from by decide)) (fun h0 => h0.symm)
    subst hn
    exact q_i_bipush F hdg h
  case sipush k =>
    have hn : n = 3 := hln.elim (fun h0 => absurd h0 (show ¬ ((3 : Nat) = 0) from by decide)) (fun h0 => h0.symm)
    subst hn
    exact q_i_sipush F hdg h
  case lconst k =>
    have hn : n = 1 := hln.elim (fun h0 => absurd h0 (show ¬ ((1 : Nat) = 0) from by decide)) (fun h0 => h0.symm)
    subst hn
    exact q_i_lconst F hdg h
  case ldc idx =>
    have hn : n = 2 := hln.elim (fun h0 => absurd h0 (show ¬ ((2 : Nat) = 0) from by decide)) (fun h0 => h0.symm)
    subst hn
    simp only [q_ckI, Bool.and_eq_true, decide_eq_true_eq] at hck
    exact q_i_ldc F (q_tb_in (List.mem_of_getElem? hck.2.2)) hdg h
  case ldc_w idx =>
    have hn : n = 3 := hln.elim (fun h0 => absurd h0 (show ¬ ((3 : Nat) = 0) from by decide)) (fun h0 => h0.symm)
    subst hn
    simp only [q_ckI, Bool.and_eq_true, decide_eq_true_eq] at hck
    exact q_i_ldcw F (q_tb_in (List.mem_of_getElem? hck.2.2)) hdg h
  case ldc2_w idx =>
    have hn : n = 3 := hln.elim (fun h0 => absurd h0 (show ¬ ((3 : Nat) = 0) from by decide)) (fun h0 => h0.symm)
    subst hn
    simp only [q_ckI, Bool.and_eq_true, decide_eq_true_eq] at hck
    exact q_i_ldc2 F (q_tb_in (List.mem_of_getElem? hck.2.2)) hdg h
  case iload_n k =>
    have hn : n = 1 := hln.elim (fun h0 => absurd h0 (show ¬ ((1 : Nat) = 0) from by decide)) (fun h0 => h0.symm)
    subst hn
    dsimp only [q_ex] at h
    split at h
    · exact q_i_iload_n (t := 0) F (by assumption) hdg h
    · exact h.elim
  case iload k =>
    have hn : n = 2 := hln.elim (fun h0 => absurd h0 (show ¬ ((2 : Nat) = 0) from by decide)) (fun h0 => h0.symm)
    subst hn
    dsimp only [q_ex] at h
    split at h
    · exact q_i_iload (t := 0) F (by assumption) hdg h
    · exact h.elim
  case lload_n k =>
    have hn : n = 1 := hln.elim (fun h0 => absurd h0 (show ¬ ((1 : Nat) = 0) from by decide)) (fun h0 => h0.symm)
    subst hn
    dsimp only [q_ex] at h
    split at h
    · exact q_i_lload_n (t := 0) F (by assumption) hdg h
    · exact h.elim
  case lload k =>
    have hn : n = 2 := hln.elim (fun h0 => absurd h0 (show ¬ ((2 : Nat) = 0) from by decide)) (fun h0 => h0.symm)
    subst hn
    dsimp only [q_ex] at h
    split at h
    · exact q_i_lload (t := 0) F (by assumption) hdg h
    · exact h.elim
  case aload_n k =>
    have hn : n = 1 := hln.elim (fun h0 => absurd h0 (show ¬ ((1 : Nat) = 0) from by decide)) (fun h0 => h0.symm)
    subst hn
    dsimp only [q_ex] at h
    split at h
    · exact q_i_aload_n F (by assumption) hdg h
    · exact h.elim
  case aload k =>
    have hn : n = 2 := hln.elim (fun h0 => absurd h0 (show ¬ ((2 : Nat) = 0) from by decide)) (fun h0 => h0.symm)
    subst hn
    dsimp only [q_ex] at h
    split at h
    · exact q_i_aload F (by assumption) hdg h
    · exact h.elim
  case istore_n k =>
    have hn : n = 1 := hln.elim (fun h0 => absurd h0 (show ¬ ((1 : Nat) = 0) from by decide)) (fun h0 => h0.symm)
    subst hn
    dsimp only [q_ex] at h
    split at h
    · obtain ⟨h1, h2⟩ := q_onB_spec h
      exact q_i_istore_n (t := 0) F h1 hdg h2
    · exact h.elim
  case istore k =>
    have hn : n = 2 := hln.elim (fun h0 => absurd h0 (show ¬ ((2 : Nat) = 0) from by decide)) (fun h0 => h0.symm)
    subst hn
    dsimp only [q_ex] at h
    split at h
    · obtain ⟨h1, h2⟩ := q_onB_spec h
      exact q_i_istore (t := 0) F h1 hdg h2
    · exact h.elim
  case astore_n k =>
    have hn : n = 1 := hln.elim (fun h0 => absurd h0 (show ¬ ((1 : Nat) = 0) from by decide)) (fun h0 => h0.symm)
    subst hn
    dsimp only [q_ex] at h
    split at h
    · obtain ⟨h1, h2⟩ := q_onB_spec h
      exact q_i_astore_n F h1 hdg h2
    · exact h.elim
  case astore k =>
    have hn : n = 2 := hln.elim (fun h0 => absurd h0 (show ¬ ((2 : Nat) = 0) from by decide)) (fun h0 => h0.symm)
    subst hn
    dsimp only [q_ex] at h
    split at h
    · obtain ⟨h1, h2⟩ := q_onB_spec h
      exact q_i_astore F h1 hdg h2
    · exact h.elim
  case lstore_n k =>
    have hn : n = 1 := hln.elim (fun h0 => absurd h0 (show ¬ ((1 : Nat) = 0) from by decide)) (fun h0 => h0.symm)
    subst hn
    dsimp only [q_ex] at h
    split at h
    · obtain ⟨h1, h2⟩ := q_onB_spec h
      rw [Bool.and_eq_true] at h1
      exact q_i_lstore_n F h1.1 h1.2 hdg h2
    · exact h.elim
  case lstore k =>
    have hn : n = 2 := hln.elim (fun h0 => absurd h0 (show ¬ ((2 : Nat) = 0) from by decide)) (fun h0 => h0.symm)
    subst hn
    dsimp only [q_ex] at h
    split at h
    · obtain ⟨h1, h2⟩ := q_onB_spec h
      rw [Bool.and_eq_true] at h1
      exact q_i_lstore F h1.1 h1.2 hdg h2
    · exact h.elim
  case iinc k q =>
    have hn : n = 3 := hln.elim (fun h0 => absurd h0 (show ¬ ((3 : Nat) = 0) from by decide)) (fun h0 => h0.symm)
    subst hn
    dsimp only [q_ex] at h
    split at h
    · obtain ⟨h1, h2⟩ := q_onB_spec h
      exact q_i_iinc F (by assumption) h1 hdg h2
    · exact h.elim
  case iadd =>
    have hn : n = 1 := hln.elim (fun h0 => absurd h0 (show ¬ ((1 : Nat) = 0) from by decide)) (fun h0 => h0.symm)
    subst hn
    dsimp only [q_ex] at h
    split at h
    · exact q_i_iadd F hdg h
    · exact h.elim
  case isub =>
    have hn : n = 1 := hln.elim (fun h0 => absurd h0 (show ¬ ((1 : Nat) = 0) from by decide)) (fun h0 => h0.symm)
    subst hn
    dsimp only [q_ex] at h
    split at h
    · exact q_i_isub F hdg h
    · exact h.elim
  case imul =>
    have hn : n = 1 := hln.elim (fun h0 => absurd h0 (show ¬ ((1 : Nat) = 0) from by decide)) (fun h0 => h0.symm)
    subst hn
    dsimp only [q_ex] at h
    split at h
    · exact q_i_imul F hdg h
    · exact h.elim
  case iand =>
    have hn : n = 1 := hln.elim (fun h0 => absurd h0 (show ¬ ((1 : Nat) = 0) from by decide)) (fun h0 => h0.symm)
    subst hn
    dsimp only [q_ex] at h
    split at h
    · exact q_i_iand F hdg h
    · exact h.elim
  case ior =>
    have hn : n = 1 := hln.elim (fun h0 => absurd h0 (show ¬ ((1 : Nat) = 0) from by decide)) (fun h0 => h0.symm)
    subst hn
    dsimp only [q_ex] at h
    split at h
    · exact q_i_ior F hdg h
    · exact h.elim
  case ixor =>
    have hn : n = 1 := hln.elim (fun h0 => absurd h0 (show ¬ ((1 : Nat) = 0) from by decide)) (fun h0 => h0.symm)
    subst hn
    dsimp only [q_ex] at h
    split at h
    · exact q_i_ixor F hdg h
    · exact h.elim
  case ishl =>
    have hn : n = 1 := hln.elim (fun h0 => absurd h0 (show ¬ ((1 : Nat) = 0) from by decide)) (fun h0 => h0.symm)
    subst hn
    dsimp only [q_ex] at h
    split at h
    · exact q_i_ishl F hdg h
    · exact h.elim
  case ishr =>
    have hn : n = 1 := hln.elim (fun h0 => absurd h0 (show ¬ ((1 : Nat) = 0) from by decide)) (fun h0 => h0.symm)
    subst hn
    dsimp only [q_ex] at h
    split at h
    · exact q_i_ishr F hdg h
    · exact h.elim
  case iushr =>
    have hn : n = 1 := hln.elim (fun h0 => absurd h0 (show ¬ ((1 : Nat) = 0) from by decide)) (fun h0 => h0.symm)
    subst hn
    dsimp only [q_ex] at h
    split at h
    · exact q_i_iushr F hdg h
    · exact h.elim
  case ineg =>
    have hn : n = 1 := hln.elim (fun h0 => absurd h0 (show ¬ ((1 : Nat) = 0) from by decide)) (fun h0 => h0.symm)
    subst hn
    dsimp only [q_ex] at h
    split at h
    · exact q_i_ineg F hdg h
    · exact h.elim
  case ladd =>
    have hn : n = 1 := hln.elim (fun h0 => absurd h0 (show ¬ ((1 : Nat) = 0) from by decide)) (fun h0 => h0.symm)
    subst hn
    dsimp only [q_ex] at h
    split at h
    · exact q_i_ladd F hdg h
    · exact h.elim
  case lsub =>
    have hn : n = 1 := hln.elim (fun h0 => absurd h0 (show ¬ ((1 : Nat) = 0) from by decide)) (fun h0 => h0.symm)
    subst hn
    dsimp only [q_ex] at h
    split at h
    · exact q_i_lsub F hdg h
    · exact h.elim
  case lmul =>
    have hn : n = 1 := hln.elim (fun h0 => absurd h0 (show ¬ ((1 : Nat) = 0) from by decide)) (fun h0 => h0.symm)
    subst hn
    dsimp only [q_ex] at h
    split at h
    · exact q_i_lmul F hdg h
    · exact h.elim
  case land =>
    have hn : n = 1 := hln.elim (fun h0 => absurd h0 (show ¬ ((1 : Nat) = 0) from by decide)) (fun h0 => h0.symm)
    subst hn
    dsimp only [q_ex] at h
    split at h
    · exact q_i_land F hdg h
    · exact h.elim
  case lor =>
    have hn : n = 1 := hln.elim (fun h0 => absurd h0 (show ¬ ((1 : Nat) = 0) from by decide)) (fun h0 => h0.symm)
    subst hn
    dsimp only [q_ex] at h
    split at h
    · exact q_i_lor F hdg h
    · exact h.elim
  case lshl =>
    have hn : n = 1 := hln.elim (fun h0 => absurd h0 (show ¬ ((1 : Nat) = 0) from by decide)) (fun h0 => h0.symm)
    subst hn
    dsimp only [q_ex] at h
    split at h
    · exact q_i_lshl F hdg h
    · exact h.elim
  case lcmp =>
    have hn : n = 1 := hln.elim (fun h0 => absurd h0 (show ¬ ((1 : Nat) = 0) from by decide)) (fun h0 => h0.symm)
    subst hn
    dsimp only [q_ex] at h
    split at h
    · exact q_i_lcmp F hdg h
    · exact h.elim
  case i2l =>
    have hn : n = 1 := hln.elim (fun h0 => absurd h0 (show ¬ ((1 : Nat) = 0) from by decide)) (fun h0 => h0.symm)
    subst hn
    dsimp only [q_ex] at h
    split at h
    · exact q_i_i2l F hdg h
    · exact h.elim
  case l2i =>
    have hn : n = 1 := hln.elim (fun h0 => absurd h0 (show ¬ ((1 : Nat) = 0) from by decide)) (fun h0 => h0.symm)
    subst hn
    dsimp only [q_ex] at h
    split at h
    · exact q_i_l2i F hdg h
    · exact h.elim
  case i2b =>
    have hn : n = 1 := hln.elim (fun h0 => absurd h0 (show ¬ ((1 : Nat) = 0) from by decide)) (fun h0 => h0.symm)
    subst hn
    dsimp only [q_ex] at h
    split at h
    · exact q_i_i2b F hdg h
    · exact h.elim
  case i2s =>
    have hn : n = 1 := hln.elim (fun h0 => absurd h0 (show ¬ ((1 : Nat) = 0) from by decide)) (fun h0 => h0.symm)
    subst hn
    dsimp only [q_ex] at h
    split at h
    · exact q_i_i2s F hdg h
    · exact h.elim
  case idiv =>
    have hn : n = 1 := hln.elim (fun h0 => absurd h0 (show ¬ ((1 : Nat) = 0) from by decide)) (fun h0 => h0.symm)
    subst hn
    dsimp only [q_ex] at h
    split at h
    · exact q_i_idiv h.1 F hdg h.2
    · exact h.elim
  case irem =>
    have hn : n = 1 := hln.elim (fun h0 => absurd h0 (show ¬ ((1 : Nat) = 0) from by decide)) (fun h0 => h0.symm)
    subst hn
    dsimp only [q_ex] at h
    split at h
    · exact q_i_irem h.1 F hdg h.2
    · exact h.elim
  case dup =>
    have hn : n = 1 := hln.elim (fun h0 => absurd h0 (show ¬ ((1 : Nat) = 0) from by decide)) (fun h0 => h0.symm)
    subst hn
    dsimp only [q_ex] at h
    split at h
    · obtain ⟨h1, h2⟩ := q_onB_spec h
      exact q_i_dup (eq_of_beq h1) F hdg h2
    · exact h.elim
  case pop =>
    have hn : n = 1 := hln.elim (fun h0 => absurd h0 (show ¬ ((1 : Nat) = 0) from by decide)) (fun h0 => h0.symm)
    subst hn
    dsimp only [q_ex] at h
    split at h
    · obtain ⟨h1, h2⟩ := q_onB_spec h
      exact q_i_pop (eq_of_beq h1) F hdg h2
    · exact h.elim
  case dup_x1 =>
    have hn : n = 1 := hln.elim (fun h0 => absurd h0 (show ¬ ((1 : Nat) = 0) from by decide)) (fun h0 => h0.symm)
    subst hn
    dsimp only [q_ex] at h
    split at h
    · obtain ⟨h1, h2⟩ := q_onB_spec h
      rw [Bool.and_eq_true] at h1
      exact q_i_dup_x1 (eq_of_beq h1.1) (eq_of_beq h1.2) F hdg h2
    · exact h.elim
  case dup2 =>
    have hn : n = 1 := hln.elim (fun h0 => absurd h0 (show ¬ ((1 : Nat) = 0) from by decide)) (fun h0 => h0.symm)
    subst hn
    dsimp only [q_ex] at h
    split at h
    · obtain ⟨h1, h2⟩ := q_onB_spec h
      rw [Bool.and_eq_true] at h1
      exact q_i_dup2 (eq_of_beq h1.1) (eq_of_beq h1.2) F hdg h2
    · exact h.elim
  case goto off =>
    have hn : n = 3 := hln.elim (fun h0 => absurd h0 (show ¬ ((3 : Nat) = 0) from by decide)) (fun h0 => h0.symm)
    subst hn
    simp only [q_ckI, Bool.and_eq_true, decide_eq_true_eq] at hck
    exact q_i_goto F hck.2.2 hdg h
  case ifCond cc off =>
    have hn : n = 3 := hln.elim (fun h0 => absurd h0 (show ¬ ((3 : Nat) = 0) from by decide)) (fun h0 => h0.symm)
    subst hn
    simp only [q_ckI, Bool.and_eq_true, decide_eq_true_eq] at hck
    dsimp only [q_ex] at h
    split at h
    · cases cc
      · exact q_i_ifCond_eq F hck.2.2 hdg h
      · exact q_i_ifCond_ne F hck.2.2 hdg h
      · exact q_i_ifCond_lt F hck.2.2 hdg h
      · exact q_i_ifCond_ge F hck.2.2 hdg h
      · exact q_i_ifCond_gt F hck.2.2 hdg h
      · exact q_i_ifCond_le F hck.2.2 hdg h
    · exact h.elim
  case if_icmp cc off =>
    have hn : n = 3 := hln.elim (fun h0 => absurd h0 (show ¬ ((3 : Nat) = 0) from by decide)) (fun h0 => h0.symm)
    subst hn
    simp only [q_ckI, Bool.and_eq_true, decide_eq_true_eq] at hck
    dsimp only [q_ex] at h
    split at h
    · cases cc
      · exact q_i_if_icmp_eq F hck.2.2 hdg h
      · exact q_i_if_icmp_ne F hck.2.2 hdg h
      · exact q_i_if_icmp_lt F hck.2.2 hdg h
      · exact q_i_if_icmp_ge F hck.2.2 hdg h
      · exact q_i_if_icmp_gt F hck.2.2 hdg h
      · exact q_i_if_icmp_le F hck.2.2 hdg h
    · exact h.elim
  case tableswitch d lo hi os =>
    simp only [q_ckI, Bool.and_eq_true, decide_eq_true_eq] at hck
    dsimp only [q_ex] at h
    split at h
    · exact q_i_table F hdg hck.2.2 h
    · exact h.elim
  case lookupswitch d ps =>
    have hck2 := hck
    unfold q_ckI at hck2
    rw [Bool.and_eq_true, Bool.and_eq_true] at hck2
    dsimp only [q_ex] at h
    split at h
    · exact q_i_lookup F hdg hck2.2.2 h
    · exact h.elim
  case ireturn =>
    have hn : n = 1 := hln.elim (fun h0 => absurd h0 (show ¬ ((1 : Nat) = 0) from by decide)) (fun h0 => h0.symm)
    subst hn
    dsimp only [q_ex] at h
    split at h
    · split at h
      · rename_i hr
        obtain ⟨h1, h2⟩ := q_onB_spec h
        exact hrt.1 _ _ _ _ _ _ _ hr rfl h2 (q_ble2 h1).1 (q_ble2 h1).2 hdg
      · rename_i hr
        obtain ⟨h1, h2⟩ := q_onB_spec h
        exact hrt.1 _ _ _ _ _ _ _ hr (by rcases h2.1 with rfl | rfl <;> decide) h2.2 (q_ble2 h1).1 (q_ble2 h1).2 hdg
      · exact h.elim
    · exact h.elim
  case lreturn =>
    have hn : n = 1 := hln.elim (fun h0 => absurd h0 (show ¬ ((1 : Nat) = 0) from by decide)) (fun h0 => h0.symm)
    subst hn
    dsimp only [q_ex] at h
    split at h
    · split at h
      · rename_i hr
        obtain ⟨h1, h2⟩ := q_onB_spec h
        exact hrt.2.1 _ _ _ _ _ _ hr h2 (q_ble2 h1).1 (q_ble2 h1).2 hdg
      · exact h.elim
    · exact h.elim
  case return_ =>
    have hn : n = 1 := hln.elim (fun h0 => absurd h0 (show ¬ ((1 : Nat) = 0) from by decide)) (fun h0 => h0.symm)
    subst hn
    dsimp only [q_ex] at h
    split at h
    · split at h
      · rename_i hr
        obtain ⟨h1, h2⟩ := q_onB_spec h
        exact hrt.2.2 _ _ _ _ _ hr h2 (q_ble2 h1).1 (q_ble2 h1).2 hdg
      · exact h.elim
    · exact h.elim
  case getfield idx =>
    have hn : n = 3 := hln.elim (fun h0 => absurd h0 (show ¬ ((3 : Nat) = 0) from by decide)) (fun h0 => h0.symm)
    subst hn
    simp only [q_ckI, Bool.and_eq_true, decide_eq_true_eq] at hck
    dsimp only [q_ex] at h
    split at h
    · obtain ⟨h1, h2⟩ := q_onB_spec h
      split at h2
      · rename_i hf
        exact q_i_get F hck.2.2.1 hck.2.2.2.1 (q_tb_in (List.mem_of_getElem? hck.2.2.2.2)) h1 (fun ad => by unfold q_fv; rw [hf]; rfl) hdg h2
      · rename_i hf
        exact q_i_get F hck.2.2.1 hck.2.2.2.1 (q_tb_in (List.mem_of_getElem? hck.2.2.2.2)) h1 (fun ad => by unfold q_fv; rw [hf]; rfl) hdg h2
      · rename_i hf
        obtain ⟨t, h3, h4⟩ := q_onS_spec h2
        exact q_i_get F hck.2.2.1 hck.2.2.2.1 (q_tb_in (List.mem_of_getElem? hck.2.2.2.2)) h1 (fun ad => by unfold q_fv; rw [hf, h3]; rfl) hdg h4
      · exact h2.elim
    · exact h.elim
  case putfield idx =>
    have hn : n = 3 := hln.elim (fun h0 => absurd h0 (show ¬ ((3 : Nat) = 0) from by decide)) (fun h0 => h0.symm)
    subst hn
    simp only [q_ckI, Bool.and_eq_true, Bool.or_eq_true, Bool.not_eq_true', decide_eq_true_eq] at hck
    obtain ⟨-, -, ⟨ha, hb, hw⟩, hfi⟩ := hck
    try dsimp only at ha hb hw hfi
    have hw := q_tb_in (List.mem_of_getElem? hw)
    have hfi : (q_T a b).2.2.2 = true → (q_T a b).1 = q_own j ∧ (q_m j).1.1.name = "<init>" := fun q => by
      rcases hfi with h0 | h0
      · rw [q] at h0; cases h0
      · exact h0
    dsimp only [q_ex] at h
    split at h
    · rename_i v o st2
      obtain ⟨h1, h2⟩ := q_onB_spec h
      split at h2
      · rename_i hf
        obtain ⟨x, rfl, h3⟩ := q_onI_spec h2
        exact q_i_put (μ' := q_sI μ o b x) F ha hb hw hfi h1 (fun h0 hk => q_ok_sI hk h0) rfl (fun ad o2 q2 hne => q_cell_congr (q_sI_ne hne) rfl rfl) (fun ad k hk => q_fvI_ne hk) (fun ad => q_fvI_eq (Or.inl hf)) (fun ad => by rw [q_fk_int hf]; rfl) (fun ad => by rw [q_fk_int hf]; rfl) hdg h3
      · rename_i hf
        obtain ⟨x, rfl, h3⟩ := q_onI_spec h2
        exact q_i_put (μ' := q_sI μ o b x) F ha hb hw hfi h1 (fun h0 hk => q_ok_sI hk h0) rfl (fun ad o2 q2 hne => q_cell_congr (q_sI_ne hne) rfl rfl) (fun ad k hk => q_fvI_ne hk) (fun ad => q_fvI_eq (Or.inr hf)) (fun ad => by rw [q_fk_bool hf]; exact q_nb h3.1) (fun ad => by rw [q_fk_bool hf]; exact q_fb h3.1) hdg h3.2
      · rename_i hf
        obtain ⟨x, rfl, h3⟩ := q_onR_spec h2
        obtain ⟨h4, h5⟩ := q_onB_spec h3
        exact q_i_put (μ' := q_sR μ o b (some x)) F ha hb hw hfi h1 (fun h0 hk => q_ok_sR hk (Nat.ble_eq.mp h4)) rfl (fun ad o2 q2 hne => q_cell_congr rfl rfl (q_sR_ne hne)) (fun ad k hk => q_fvR_ne hk) (fun ad => q_fvR_eq hf) (fun ad => by rcases q_fk_ref hf with ⟨q, hq⟩ | ⟨q, hq⟩ <;> (rw [hq]; rfl)) (fun ad => by rcases q_fk_ref hf with ⟨q, hq⟩ | ⟨q, hq⟩ <;> (rw [hq]; rfl)) hdg h5
      · exact h2.elim
    · exact h.elim
  case iaload =>
    have hn : n = 1 := hln.elim (fun h0 => absurd h0 (show ¬ ((1 : Nat) = 0) from by decide)) (fun h0 => h0.symm)
    subst hn
    dsimp only [q_ex] at h
    split at h
    · obtain ⟨N, h1, h2⟩ := q_onS_spec h
      exact q_i_iaload F h1 h2.1 hdg h2.2
    · exact h.elim
  case laload =>
    have hn : n = 1 := hln.elim (fun h0 => absurd h0 (show ¬ ((1 : Nat) = 0) from by decide)) (fun h0 => h0.symm)
    subst hn
    dsimp only [q_ex] at h
    split at h
    · obtain ⟨N, h1, h2⟩ := q_onS_spec h
      exact q_i_laload F h1 h2.1 hdg h2.2
    · exact h.elim
  case iastore =>
    have hn : n = 1 := hln.elim (fun h0 => absurd h0 (show ¬ ((1 : Nat) = 0) from by decide)) (fun h0 => h0.symm)
    subst hn
    dsimp only [q_ex] at h
    split at h
    · obtain ⟨N, h1, h2⟩ := q_onS_spec h
      exact q_i_iastore F h1 h2.1 hdg h2.2
    · exact h.elim
  case lastore =>
    have hn : n = 1 := hln.elim (fun h0 => absurd h0 (show ¬ ((1 : Nat) = 0) from by decide)) (fun h0 => h0.symm)
    subst hn
    dsimp only [q_ex] at h
    split at h
    · obtain ⟨N, h1, h2⟩ := q_onS_spec h
      exact q_i_lastore F h1 h2.1 hdg h2.2
    · exact h.elim
  case arraylength =>
    have hn : n = 1 := hln.elim (fun h0 => absurd h0 (show ¬ ((1 : Nat) = 0) from by decide)) (fun h0 => h0.symm)
    subst hn
    dsimp only [q_ex] at h
    split at h
    · obtain ⟨N, h1, h2⟩ := q_onS_spec h
      exact q_i_arraylength F h1 hdg h2
    · exact h.elim
  case aaload =>
    have hn : n = 1 := hln.elim (fun h0 => absurd h0 (show ¬ ((1 : Nat) = 0) from by decide)) (fun h0 => h0.symm)
    subst hn
    dsimp only [q_ex] at h
    split at h
    · obtain ⟨N, h1, h2⟩ := q_onS_spec h
      obtain ⟨t, h3, h4⟩ := q_onS_spec h2.2
      exact q_i_aaload F h1 h2.1 h3 hdg h4
    · exact h.elim
  case aastore =>
    have hn : n = 1 := hln.elim (fun h0 => absurd h0 (show ¬ ((1 : Nat) = 0) from by decide)) (fun h0 => h0.symm)
    subst hn
    dsimp only [q_ex] at h
    split at h
    · obtain ⟨N, h1, h2⟩ := q_onS_spec h
      obtain ⟨h3, h4⟩ := q_onB_spec h2
      exact q_i_aastore F h1 h3 h4.1 hdg h4.2
    · exact h.elim
  case new idx =>
    have hn : n = 3 := hln.elim (fun h0 => absurd h0 (show ¬ ((3 : Nat) = 0) from by decide)) (fun h0 => h0.symm)
    subst hn
    simp only [q_ckI, Bool.and_eq_true, decide_eq_true_eq] at hck
    dsimp only [q_ex] at h
    obtain ⟨h1, h2⟩ := q_onB_spec h
    rw [Bool.and_eq_true] at h1
    exact q_i_new F hck.2.2.1 (q_tb_in (List.mem_of_getElem? hck.2.2.2)) h1.1 (q_ble2 h1.2).1 (q_ble2 h1.2).2 hdg h2
  case newarray t =>
    have hn : n = 2 := hln.elim (fun h0 => absurd h0 (show ¬ ((2 : Nat) = 0) from by decide)) (fun h0 => h0.symm)
    subst hn
    dsimp only [q_ex] at h
    split at h
    · obtain ⟨h0, h⟩ := h
      obtain ⟨h1, h2⟩ := q_onB_spec h
      rw [Bool.and_eq_true] at h1
      split at h2
      · exact q_i_newI F q_mmw.2.2.2.2.2.2.2.1 h0.1 h0.2 h1.1 (q_ble2 h1.2).1 (q_ble2 h1.2).2 hdg h2
      · exact q_i_newJ F q_mmw.2.2.2.2.2.2.2.2.1 h0.1 h0.2 h1.1 (q_ble2 h1.2).1 (q_ble2 h1.2).2 hdg h2
      · exact h2.elim
    · exact h.elim
  case anewarray idx =>
    have hn : n = 3 := hln.elim (fun h0 => absurd h0 (show ¬ ((3 : Nat) = 0) from by decide)) (fun h0 => h0.symm)
    subst hn
    simp only [q_ckI, Bool.and_eq_true, Bool.or_eq_true, beq_iff_eq, decide_eq_true_eq] at hck
    dsimp only [q_ex] at h
    split at h
    · obtain ⟨h0, h⟩ := h
      obtain ⟨h1, h2⟩ := q_onB_spec h
      rw [Bool.and_eq_true] at h1
      have hao : va_AO (q_cn a) s ∧ q_okA (102 + a) = true := by
        rcases hck.2.2.1 with rfl | rfl | rfl
        · exact ⟨F.2.2.1.2.2.1, rfl⟩
        · exact ⟨F.2.2.1.2.2.2.1, rfl⟩
        · exact ⟨F.2.2.1.2.2.2.2, rfl⟩
      exact q_i_newA F hao.2 hao.1 (q_tb_in (List.mem_of_getElem? hck.2.2.2)) h0.1 h0.2 h1.1 (q_ble2 h1.2).1 (q_ble2 h1.2).2 hdg h2
    · exact h.elim
  case invokevirtual idx =>
    have hn : n = 3 := hln.elim (fun h0 => absurd h0 (show ¬ ((3 : Nat) = 0) from by decide)) (fun h0 => h0.symm)
    subst hn
    simp only [q_ckI, Bool.and_eq_true, beq_iff_eq, decide_eq_true_eq] at hck
    dsimp only [q_ex] at h
    obtain ⟨⟨as, rs⟩, h1, h2⟩ := q_onS_spec h
    dsimp only at h2
    split at h2
    · rename_i o rest
      obtain ⟨ho, h2⟩ := q_onB_spec h2
      unfold q_call at h2
      obtain ⟨h3, h4⟩ := q_onB_spec h2
      rw [Bool.and_eq_true, Bool.and_eq_true] at h3
      have hcc : q_mc a = 0 ∨ q_clo μ.1.length ls rest = true := by
        rcases Bool.or_eq_true_iff.mp h3.1 with h5 | h5
        · exact Or.inl (eq_of_beq h5)
        · exact Or.inr h5
      obtain ⟨g1, g2⟩ := q_pop_spec h1
      exact q_i_callV F (hcl _ _ _ _ h4) hck.2.2.1.1 hck.2.2.1.2 hR (q_tb_in (List.mem_of_getElem? hck.2.2.2)) ho g1 g2 hcc h3.2.1 (q_ble2 h3.2.2).1 (q_ble2 h3.2.2).2 hdg (fun v μ2 hq => hq)
    · exact h2.elim
  case invokestatic idx =>
    have hn : n = 3 := hln.elim (fun h0 => absurd h0 (show ¬ ((3 : Nat) = 0) from by decide)) (fun h0 => h0.symm)
    subst hn
    dsimp only [q_ex] at h
    split at h
    · rename_i e1
      have e1 : a = 301 := eq_of_beq e1
      subst e1
      simp only [q_ckI, Bool.and_eq_true, decide_eq_true_eq, if_true] at hck
      have hw := q_tb_in (List.mem_of_getElem? hck.2.2)
      unfold q_copy at h
      split at h
      · obtain ⟨hcat, h⟩ := q_onB_spec h
        split at h
        · rename_i ha
          obtain ⟨n2, h1, h2⟩ := q_onS_spec h
          exact q_i_copyI F hw hcat ha h1 h2.1 hdg h2.2
        · obtain ⟨n1, h0, h⟩ := q_onS_spec h
          obtain ⟨n2, h1, h2⟩ := q_onS_spec h
          exact q_i_copyL F hw hcat h0 h1 h2.1 hdg h2.2
      · exact h.elim
    · rename_i e1
      split at h
      · rename_i e2
        have e2 : a = 302 := eq_of_beq e2
        subst e2
        simp only [q_ckI, Bool.and_eq_true, decide_eq_true_eq] at hck
        have hw := q_tb_in (List.mem_of_getElem? (of_decide_eq_true hck.2.2))
        split at h
        · obtain ⟨h1, h2⟩ := q_onB_spec h
          rw [Bool.and_eq_true] at h1
          exact q_i_max F hw h1.1 (q_ble2 h1.2).1 (q_ble2 h1.2).2 hdg h2
        · exact h.elim
      · rename_i e2
        split at h
        · rename_i e3
          have e3 : a = 303 := eq_of_beq e3
          subst e3
          simp only [q_ckI, Bool.and_eq_true, decide_eq_true_eq] at hck
          have hw := q_tb_in (List.mem_of_getElem? (of_decide_eq_true hck.2.2))
          split at h
          · obtain ⟨h1, h2⟩ := q_onB_spec h
            rw [Bool.and_eq_true] at h1
            exact q_i_min F hw h1.1 (q_ble2 h1.2).1 (q_ble2 h1.2).2 hdg h2
          · exact h.elim
        · rename_i e3
          have n1 : a ≠ 301 := ne_of_beq_false e1
          have n2 : a ≠ 302 := ne_of_beq_false e2
          have n3 : a ≠ 303 := ne_of_beq_false e3
          simp only [q_ckI, Bool.and_eq_true, decide_eq_true_eq, if_neg n1, if_neg n2, if_neg n3, beq_iff_eq] at hck
          obtain ⟨⟨as, rest⟩, h1, h2⟩ := q_onS_spec h
          unfold q_call at h2
          obtain ⟨h3, h4⟩ := q_onB_spec h2
          dsimp only at h3 h4
          rw [Bool.and_eq_true, Bool.and_eq_true] at h3
          have hcc : q_mc a = 0 ∨ q_clo μ.1.length ls rest = true := by
            rcases Bool.or_eq_true_iff.mp h3.1 with h5 | h5
            · exact Or.inl (eq_of_beq h5)
            · exact Or.inr h5
          obtain ⟨g1, g2⟩ := q_pop_spec h1
          exact q_i_callS F (hcl _ _ _ _ h4) hck.2.2.1.1 hck.2.2.1.2 hR (q_tb_in (List.mem_of_getElem? hck.2.2.2)) g1 g2 hcc h3.2.1 (q_ble2 h3.2.2).1 (q_ble2 h3.2.2).2 hdg (fun v μ2 hq => hq)
  case invokespecial idx =>
    have hn : n = 3 := hln.elim (fun h0 => absurd h0 (show ¬ ((3 : Nat) = 0) from by decide)) (fun h0 => h0.symm)
    subst hn
    dsimp only [q_ex] at h
    split at h
    · rename_i e1
      have e1 : a = 300 := eq_of_beq e1
      subst e1
      simp only [q_ckI, Bool.and_eq_true, decide_eq_true_eq, if_true] at hck
      split at h
      · obtain ⟨h1, h2⟩ := q_onB_spec h
        exact q_i_objInit F (q_tb_in (List.mem_of_getElem? hck.2.2)) h1 hdg h2
      · exact h.elim
    · rename_i e1
      have n1 : a ≠ 300 := ne_of_beq_false e1
      simp only [q_ckI, Bool.and_eq_true, decide_eq_true_eq, if_neg n1, beq_iff_eq] at hck
      have hw : Cond.methodLink (q_own j) idx (q_m a).1.1 ∈ lw_tbl ∨ Cond.methodLinkNest (q_own j) idx (q_m a).1.1 "PluginChains" ∈ lw_tbl := by
        have h9 := hck.2.2.2
        split at h9
        · exact Or.inr (q_tb_in (List.mem_of_getElem? (of_decide_eq_true h9)))
        · exact Or.inl (q_tb_in (List.mem_of_getElem? (of_decide_eq_true h9)))
      obtain ⟨⟨as, rs⟩, h1, h2⟩ := q_onS_spec h
      dsimp only at h2
      split at h2
      · rename_i o rest
        unfold q_call at h2
        obtain ⟨h3, h4⟩ := q_onB_spec h2
        rw [Bool.and_eq_true, Bool.and_eq_true] at h3
        have hcc : q_mc a = 0 ∨ q_clo μ.1.length ls rest = true := by
          rcases Bool.or_eq_true_iff.mp h3.1 with h5 | h5
          · exact Or.inl (eq_of_beq h5)
          · exact Or.inr h5
        obtain ⟨g1, g2⟩ := q_pop_spec h1
        exact q_i_callI F (hcl _ _ _ _ h4) hck.2.2.1.1 hck.2.2.1.2 hR hw g1 g2 hcc h3.2.1 (q_ble2 h3.2.2).1 (q_ble2 h3.2.2).2 hdg (fun v μ2 hq => hq)
      · exact h2.elim
  all_goals exact h.elim
end MASTER
end
section
/-! soundness of whole frames: what q_W says of a method is its contract -/
section FRAMES
variable {p : Program} {l : Launch} {e : Env} {R : Room} {s : State} {m : MethodId} {args : Array Value} {below : List Frame} {meth : Method} {c : Code} {Qf : State → Prop} {dC : Nat → ClassId} {dI : Nat → Nat → Nat} {kA : Nat → ClassId} {A : Nat → Prop} {L b0 : Nat} {xs : Nat → Int32} {n0 : Nat} {ad0 : Nat → Nat} {j d : Nat}
/-- from any state of a frame that the small machine brings to its end -/
theorem q_snd_X (hj : j < 227) (F : q_Fr p R s m args meth c dC dI kA A L b0 xs n0 ad0 j) (hR : d + 1 ≤ R.frames ∧ 64 * (d + 1) ≤ R.locals) {cl : Nat → List Value → q_Mem → (Value → q_Mem → Prop) → Prop} (hcl : ∀ y as μ Q, cl y as μ Q → q_MetS l dC dI kA L xs d y as μ Q) {rt : Value → q_Mem → Nat → Nat → Prop} (hrt : q_RH p l e R s m args below meth c Qf dC dI kA A L xs n0 ad0 j rt) {z : q_St} (h : q_X cl rt j z) : q_V p l e R s m args below meth c Qf dC dI kA A L xs n0 ad0 j z := by
  refine h _ fun t ht => ?_
  obtain ⟨pc, ls, st, μ, uc, us⟩ := t
  obtain ⟨⟨i, n, a, b, pl⟩, he, hx⟩ := q_onS_spec ht
  exact q_snd_ex F hR hcl hrt i (q_ckI_all j hj pc _ he) hx
end FRAMES
theorem q_lg_cons (v : Value) (t : List Value) : lg_sl (v :: t) = (if v.category = 2 then [.val v, .second] else [.val v]) ++ lg_sl t := rfl
theorem q_lay_len (as : List Value) : (q_lay as).length = (lg_sl as).length := by
  induction as with
  | nil => rfl
  | cons v t ih =>
    rw [q_lg_cons, List.length_append, ← ih]
    cases v <;> simp [q_lay, Value.category] <;> omega
theorem q_lay_get : ∀ (as : List Value) (i k : Nat) (v : Value) (n : Nat), (q_lay as ++ List.replicate n none)[k]? = some (some v) → (i + k, v) ∈ lv_args i as
  | [], i, k, v, n, h => by
    simp only [q_lay, List.nil_append] at h
    rw [List.getElem?_replicate] at h
    split at h <;> cases h
  | w :: t, i, k, v, n, h => by
    unfold lv_args
    have key1 : ∀ (hc : w.category = 1), (some w :: (q_lay t ++ List.replicate n none))[k]? = some (some v) → (i + k, v) ∈ (i, w) :: lv_args (if w.category = 2 then i + 2 else i + 1) t := by
      intro hc h
      cases k with
      | zero =>
        cases h
        exact List.mem_cons_self
      | succ k =>
        rw [List.getElem?_cons_succ] at h
        have h2 := q_lay_get t (i + 1) k v n h
        rw [if_neg (by omega)]
        refine List.mem_cons_of_mem _ ?_
        have e : i + (k + 1) = i + 1 + k := by omega
        rw [e]
        exact h2
    have key2 : ∀ (hc : w.category = 2), (some w :: none :: (q_lay t ++ List.replicate n none))[k]? = some (some v) → (i + k, v) ∈ (i, w) :: lv_args (if w.category = 2 then i + 2 else i + 1) t := by
      intro hc h
      cases k with
      | zero =>
        cases h
        exact List.mem_cons_self
      | succ k =>
        cases k with
        | zero => cases h
        | succ k =>
          have h1 : (q_lay t ++ List.replicate n none)[k]? = some (some v) := h
          have h2 := q_lay_get t (i + 2) k v n h1
          refine List.mem_cons_of_mem _ ?_
          rw [if_pos hc]
          have e : i + (k + 1 + 1) = i + 2 + k := by omega
          rw [e]
          exact h2
    cases w <;> first | exact key1 rfl h | exact key2 rfl h
theorem q_lv_args_rn (ad : Nat → Nat) : ∀ (as : List Value) (i : Nat), lv_args i (as.map (q_rn ad)) = (lv_args i as).map (fun q => (q.1, q_rn ad q.2))
  | [], _ => rfl
  | v :: t, i => by
    simp only [List.map_cons, lv_args]
    rw [q_rn_cat, q_lv_args_rn ad t]
theorem q_lg_rn (ad : Nat → Nat) (as : List Value) : (lg_sl (as.map (q_rn ad))).length = (lg_sl as).length := by
  induction as with
  | nil => rfl
  | cons v t ih =>
    rw [List.map_cons, q_lg_cons, q_lg_cons, List.length_append, List.length_append, ih, q_rn_cat]
    split <;> rfl
theorem q_LS_entry {ad : Nat → Nat} {lg : List Nat} {as : List Value} {nL : Nat} (h : (q_lay as).length ≤ nL) (hg : q_lgok lg as = true) : q_LS ad lg (q_lay as ++ List.replicate (nL - (q_lay as).length) none) ((lg_sl (as.map (q_rn ad)) ++ List.replicate (nL - (lg_sl (as.map (q_rn ad))).length) Slot.unset).toArray) nL := by
  have hl := lv_entry (as.map (q_rn ad)) (n := nL) (by rw [q_lg_rn, ← q_lay_len]; exact h)
  refine ⟨by rw [List.length_append, List.length_replicate]; omega, hl.1, hl.2.1, fun i v hi => ?_⟩
  have h1 := q_lay_get as 0 i v _ hi
  rw [Nat.zero_add] at h1
  refine ⟨?_, fun hc => ?_⟩
  · have h2 := hl.2.2 (i, q_rn ad v) (by rw [q_lv_args_rn]; exact List.mem_map.mpr ⟨(i, v), h1, rfl⟩)
    exact h2
  · have h3 := List.all_eq_true.mp hg (i, v) h1
    simp only [Bool.or_eq_true, Bool.not_eq_true', beq_eq_false_iff_ne] at h3
    exact h3.resolve_left (fun h => h hc)
end
section
set_option maxHeartbeats 4000000 in
/-- THE SMALL MACHINE IS SOUND: what it says of a method is a contract of the method -/
theorem q_sound (l : Launch) (dC : Nat → ClassId) (dI : Nat → Nat → Nat) (kA : Nat → ClassId) (L : Nat) (xs : Nat → Int32) : ∀ (d y : Nat) (as : List Value) (μ : q_Mem) (Q : Value → q_Mem → Prop), q_W d y as μ Q → q_MetS l dC dI kA L xs d y as μ Q := by
  intro d
  induction d with
  | zero => exact fun y as μ Q h => h.elim
  | succ d ih =>
    intro y as μ Q h ad sz hok
    obtain ⟨⟨hj, hlen, hlg⟩, hX⟩ := h
    have hj : y < 226 := Nat.ble_eq.mp hj
    have hlen : (q_lay as).length ≤ (q_m y).1.2.2.1 := Nat.ble_eq.mp hlen
    have hM := q_ckM_get hj
    unfold q_ckM at hM
    rw [Bool.and_eq_true] at hM
    refine va_MetF (cc := (q_m y).1.2.1) (maxL := (q_m y).1.2.2.1) (ret := (q_m y).1.2.2.2) hM.1 rfl ?_
    intro p e s m args below meth c s₁ B hml hv
    obtain ⟨rfl, hsz, hP, hK, hD0⟩ := hv
    subst hsz
    have hts := atoms_spec (ws := q_ws y) B.pre
    have hlocks := B.notSynchronized
    have F : q_Fr p (q_rm (d + 1) y) s m (as.map (q_rn ad)).toArray meth c dC dI kA (va_A (q_world ad kA μ) s.heap.size) L 0 xs μ.1.length ad y :=
      ⟨⟨B.exec, B.bytes, hml, findClass_of_methodNamed B.named⟩, fun w hw => hts w (List.mem_cons_of_mem _ hw), hK, fun q hq => Or.inr hq, fun h => absurd h (by omega), ⟨Nat.le_add_left 1 d, by show 64 ≤ 64 * (d + 1); omega, Nat.le_refl _, Nat.le_refl _⟩, fun h => (name_of_methodNamed B.named B.method).1.trans h⟩
    have hrt : q_RH p l e (q_rm (d + 1) y) s m (as.map (q_rn ad)).toArray below meth c (MQ below (q_Po dC dI kA L xs y Q μ ad s.heap.size) (as.map (q_rn ad)).toArray s (q_mc y) (q_ms y) (va_A (q_world ad kA μ) s.heap.size)) dC dI kA (va_A (q_world ad kA μ) s.heap.size) L xs μ.1.length ad y (fun v μ' _ _ => Q v μ') := by
      refine ⟨fun pc ls x μ' uc us ty hr hn hq hc hs hdg => fun ad' H locs lsR r => W.widen hc hs (W.zret B.exec B.bytes (B.returns.trans hr) hn (fun t ht hW => ⟨⟨.int x, μ', ad', by rw [hr]; rfl, hq, r.1.1, r.1.2.1, r.1.2.2.1, r.1.2.2.2, by rw [ht]; exact r.2.1.1, r.2.1.2.1⟩, r.2.1.2.2.F ht⟩) (fun q hq => r.2.1.2.2.2.2 q hq) hdg), fun pc ls x μ' uc us hr hq hc hs hdg => fun ad' H locs lsR r => W.widen hc hs (W.lret B.exec B.bytes (B.returns.trans hr) (fun t ht hW => ⟨⟨.long x, μ', ad', by rw [hr]; rfl, hq, r.1.1, r.1.2.1, r.1.2.2.1, r.1.2.2.2, by rw [ht]; exact r.2.1.1, r.2.1.2.1⟩, r.2.1.2.2.F ht⟩) (fun q hq => r.2.1.2.2.2.2 q hq) hdg), fun pc ls μ' uc us hr hq hc hs hdg => fun ad' H locs lsR r => W.widen hc hs (W.vret B.exec B.bytes (B.returns.trans hr) (fun t ht hW => ⟨⟨.null, μ', ad', by rw [hr]; rfl, hq, r.1.1, r.1.2.1, r.1.2.2.1, r.1.2.2.2, by rw [ht]; exact r.2.1.1, r.2.1.2.1⟩, r.2.1.2.2.F ht⟩) (fun q hq => r.2.1.2.2.2.2 q hq) hdg)⟩
    have hV := q_snd_X (by omega) F ⟨Nat.le_refl _, Nat.le_refl _⟩ ih hrt hX
    have h1 := hV ad s.heap [] _ ⟨⟨hok, Nat.le_refl _, fun _ _ => rfl, fun _ => rfl⟩, ⟨hP, hD0.self, va_S.rf⟩, q_LS_entry hlen hlg⟩
    rw [lg_entry_eq]
    exact h1
end
section
/-! THE CLAIM OUT OF ONE WALK OF THE LAW'S BODY. Your part is whole_start (and what it stands on); all else here is the same for every law, but numbers. -/
def R_law : String := "PluginChainsLaw"
def lw_P (b : Addr) (xs : List Int32) (args : Array Value) (s : State) : Prop := args = #[.ref b] ∧ s.IntsAt b xs ∧ xs.length ≤ 3584 ∧ (Jvm.Cond.and given_1 narrow_1).before args s = true
def lw_Q (_ : Array Value) (s : State) (o : Outcome) (t : State) : Prop := o = .returned (some (.int 1)) ∧ Framed s o t [] 600000 7302250
def lw_Z (below : List Frame) (a : Array Value) (s : State) : State → Prop := fun t => ∃ o, t.status = .running ∧ Ended t below o ∧ lw_Q a s o t
/-- the law's own end, with 1 on the stack, nothing written that was there before, its room as the claim has it -/
theorem lw_ret {p : Program} {l : Launch} {e : Env} {s : State} {m : MethodId} {below : List Frame} {meth : Method} {c : Code} {b : Nat} (hx : p.tables.exec = Jvm.exec) (hb : c.code = code) (hr : meth.sig.returnType = ret) (hlocks : meth.locks = false) {pc : Nat} {H : Heap} {ls : Array Slot} (hdg : decode code pc = .ok (.ireturn, 1)) : W p l e room_1 s m #[Value.ref b] below meth c H [] 600000 7302250 (lw_Z below #[Value.ref b] s) (F0 m pc ls [.int 1]) := by
  intro T hT X
  obtain ⟨fs, hret, hrun, hended, hW, hframe⟩ := X.leave (v := some (.int 1)) (hlocks := hlocks) (fun h => by rw [hr] at h; cases h)
  have hmeth' : T.vm.method? m = some meth := X.method'
  refine ⟨T.setFrames fs, ?_, .returned (some (.int 1)), hrun, hended, rfl, ⟨_, rfl⟩, hW, hframe⟩
  jvm_step X.here [X.here.top, hx, hb, hdg, hmeth', hr, ret, narrow_b1]
  (try refine ⟨rfl, ?_⟩); (try refine ⟨rfl, ?_⟩)
  first | (intro acts; rw [hret _ acts rfl rfl rfl]) | rw [hret _ _ rfl rfl rfl]
  exact Steps.refl _
/-- what holds at the law's entry: the machine, the code, the tables' words (any of lw_tbl by 'hts w (by decide +kernel)'), the script of L ints xs at the cell b, what the Statement gives of the start (any of its parts by flat_of_before) -/
def lw_At (p : Program) (s : State) (m : MethodId) (meth : Method) (c : Code) (b L : Nat) (xs : Nat → Int32) : Prop :=
  p.tables.exec = Jvm.exec ∧ c.code = code ∧ meth.sig.returnType = ret ∧ c.maxLocals = 4 ∧ s.vm.findClass R_law = some m.cls ∧ (∀ w ∈ lw_tbl, w.before #[Value.ref b] s = true) ∧ va_X b L xs s s.heap ∧ b < s.heap.size ∧ meth.locks = false ∧ (Jvm.Cond.and given_1 narrow_1).before #[Value.ref b] s = true

def q_mu0 (L : Nat) (xs : Nat → Int32) : q_Mem := ([(99, L)], (fun o i => if o = 0 then xs i else 0), (fun _ _ => 0), fun _ _ => none)
theorem q_arrAt {s : State} {args : Array Value} {ty : FieldType} (h : (Cond.arrayClass ty).before args s = true) (hn : ∀ C, ty ≠ .object C) : ∃ cA, ArrOfT s cA ty ∧ va_RA s cA ty := by
  obtain ⟨cA, k, comp, h1, h2, h3⟩ := Cond.arrayClass_spec h
  refine ⟨cA, fun n z => ⟨fun k h => (by cases h), k, h2, comp, h3⟩, ?_⟩
  cases ty <;> first | exact absurd rfl (hn _) | exact h1
theorem q_arrAo {s : State} {C : String} (h : va_AO C s) : ∃ cA, ArrOfT s cA (.object C) ∧ va_RA s cA (.object C) := by
  obtain ⟨comp, cA, k, h1, h2, h3, h4, h5⟩ := Cond.arrayOver_spec h
  exact ⟨cA, fun n z => ⟨fun k h => (by cases h), k, h3, comp, h4⟩, k, comp, h3, h4, h1, h5⟩
theorem q_KK_start {s : State} {b : Nat} (hts : ∀ w ∈ lw_tbl, w.before #[Value.ref b] s = true) : ∃ (dC : Nat → ClassId) (dI : Nat → Nat → Nat) (kA : Nat → ClassId), q_KK dC dI kA s := by
  have hk : ∀ k : Nat, ∃ x : ClassId × (Nat → Nat), k < 11 → u_Kn s (q_cn k) (q_T k) (q_N k) x.1 x.2 := by
    intro k
    by_cases hk : k < 11
    · have hck := List.all_eq_true.mp q_ckN_ok k (List.mem_range.mpr hk)
      simp only [Bool.and_eq_true, decide_eq_true_eq] at hck
      obtain ⟨cC, iS, h⟩ := u_known (C := q_cn k) (T := q_T k) (N := q_N k) (n := q_N k) hts (q_uws k hk) (hts _ hck.1)
      exact ⟨(cC, iS), fun _ => h⟩
    · exact ⟨(0, fun _ => 0), fun h => absurd h hk⟩
  have ao5 : va_AO RX5 s := (va_AO.of (hts _ q_mmw.2.2.2.2.2.2.2.2.2.1))
  have ao2 : va_AO RX2 s := (va_AO.of (hts _ q_mmw.2.2.2.2.2.2.2.2.2.2.1))
  have ao6 : va_AO RX6 s := (va_AO.of (hts _ q_mmw.2.2.2.2.2.2.2.2.2.2.2))
  obtain ⟨c0, g0⟩ := q_arrAt (hts _ q_mmw.2.2.2.2.2.2.2.1) (fun C h => by cases h)
  obtain ⟨c1, g1⟩ := q_arrAt (hts _ q_mmw.2.2.2.2.2.2.2.2.1) (fun C h => by cases h)
  obtain ⟨c2, g2⟩ := q_arrAo ao5
  obtain ⟨c3, g3⟩ := q_arrAo ao2
  obtain ⟨c4, g4⟩ := q_arrAo ao6
  refine ⟨fun k => (Classical.choose (hk k)).1, fun k => (Classical.choose (hk k)).2, fun k => if k = 100 then c0 else if k = 101 then c1 else if k = 107 then c2 else if k = 104 then c3 else c4, ⟨fun c q hc => ?_, fun k q hq => ?_⟩, fun w hw => ?_, ao5, ao2, ao6⟩
  · have hl : c < 11 := (List.getElem?_eq_some_iff.mp hc).1
    rw [q_clc c hl] at hc
    cases hc
    exact Classical.choose_spec (hk c) hl
  · have hl : k < 5 := (List.getElem?_eq_some_iff.mp hq).1
    match k, hl with
    | 0, _ => cases hq; exact g0
    | 1, _ => cases hq; exact g1
    | 2, _ => cases hq; exact g2
    | 3, _ => cases hq; exact g3
    | 4, _ => cases hq; exact g4
  · have h2 := List.mem_filter.mp hw
    have h3 := hts w h2.1
    have h4 := h2.2
    cases w <;> first | (cases h4; done) | exact va_Nw.of rfl h3
set_option maxHeartbeats 4000000 in
/-- the law's walk out of its run on the small machine -/
theorem q_whole (HH : ∀ (L : Nat) (xs : Nat → Int32), L ≤ 3584 → q_X (q_W 100) (fun v _ _ _ => v = .int 1) 226 (0, q_ent 226 [.ref 0], [], q_mu0 L xs, 0, 0)) {p : Program} {e : Env} {s : State} {m : MethodId} {below : List Frame} {meth : Method} {c : Code} (l : Launch) {b L : Nat} {xs : Nat → Int32} (hL : L ≤ 3584) (C0 : lw_At p s m meth c b L xs) : W p l e room_1 s m #[Value.ref b] below meth c s.heap [] 0 0 (lw_Z below #[Value.ref b] s) (entryFrame m ([Value.ref b] : List Value).toArray 4) := by
  obtain ⟨hx, hb, hr, hml, hown, hts, hX, hbl, hlocks, hgv⟩ := id C0
  obtain ⟨dC, dI, kA, hKK⟩ := q_KK_start hts
  have F : q_Fr p room_1 s m #[Value.ref b] meth c dC dI kA (fun q => s.heap.size ≤ q) L b xs 1 (fun _ => b) 226 :=
    ⟨⟨hx, hb, hml, hown⟩, fun w hw => hts w (List.mem_filter.mp hw).1, hKK, fun q hq => hq, fun _ => ⟨hX, hbl, Nat.not_le.mpr hbl, rfl, Nat.one_pos⟩, ⟨Nat.le_of_ble_eq_true rfl, Nat.le_of_ble_eq_true rfl, Nat.le_of_ble_eq_true rfl, Nat.le_of_ble_eq_true rfl⟩, fun h => absurd h (by decide +kernel)⟩
  have hrt : q_RH p l e room_1 s m #[Value.ref b] below meth c (lw_Z below #[Value.ref b] s) dC dI kA (fun q => s.heap.size ≤ q) L xs 1 (fun _ => b) 226 (fun v _ _ _ => v = .int 1) := by
    refine ⟨fun pc ls x μ uc us ty _ _ hv hc hs hdg => fun ad H locs lsR r => ?_, fun pc ls x μ uc us h => absurd h (by decide +kernel), fun pc ls μ uc us h => absurd h (by decide +kernel)⟩
    have hv2 : x = 1 := by injection hv
    subst hv2
    exact va_forget r.2.1.2.2.2.2 (W.widen (Nat.le_trans hc (Nat.le_of_ble_eq_true rfl)) (Nat.le_trans hs (Nat.le_of_ble_eq_true rfl)) (lw_ret hx hb hr hlocks hdg))
  have hV := q_snd_X (d := 100) (by omega) F ⟨Nat.le_of_ble_eq_true rfl, Nat.le_of_ble_eq_true rfl⟩ (q_sound l dC dI kA L xs 100) hrt (HH L xs hL)
  have hok : q_ok L xs (q_mu0 L xs) := ⟨rfl, fun i => rfl, fun o k t h => by cases h⟩
  have h1 := hV (fun _ => b) s.heap [] _ ⟨⟨hok, Nat.le_refl _, fun _ _ => rfl, fun _ => rfl⟩, ⟨fun k q h => by simp [q_world, q_mu0] at h, ⟨fun i j p q h => by simp [q_world, q_mu0] at h, fun k q h => by simp [q_world, q_mu0] at h⟩, va_S.rf⟩, q_LS_entry (as := [.ref 0]) (by decide +kernel) (by decide +kernel)⟩
  rw [lg_entry_eq]
  exact h1
end
section
/-! one step as an equation; the memory's lasting form -/
theorem q_onB_mono {b : Bool} {x x' : Prop} (hx : x → x') (h : q_onB False b x) : q_onB False b x' := by
  obtain ⟨h1, h2⟩ := q_onB_spec h
  rw [h1]
  exact hx h2
theorem q_onS_mono {α : Type} {y : Option α} {k k' : α → Prop} (hx : ∀ a, k a → k' a) (h : q_onS False y k) : q_onS False y k' := by
  obtain ⟨a, h1, h2⟩ := q_onS_spec h
  rw [h1]
  exact hx a h2
theorem q_onI_mono {v : Value} {k k' : Int32 → Prop} (hx : ∀ a, k a → k' a) (h : q_onI False v k) : q_onI False v k' := by
  obtain ⟨a, h1, h2⟩ := q_onI_spec h
  rw [h1]
  exact hx a h2
theorem q_onJ_mono {v : Value} {k k' : Int64 → Prop} (hx : ∀ a, k a → k' a) (h : q_onJ False v k) : q_onJ False v k' := by
  obtain ⟨a, h1, h2⟩ := q_onJ_spec h
  rw [h1]
  exact hx a h2
theorem q_onR_mono {v : Value} {k k' : Nat → Prop} (hx : ∀ a, k a → k' a) (h : q_onR False v k) : q_onR False v k' := by
  obtain ⟨a, h1, h2⟩ := q_onR_spec h
  rw [h1]
  exact hx a h2
theorem q_back_mono {r : Option FieldType} {v : Value} {k k' : List Value → Prop} (hx : ∀ a, k a → k' a) (h : q_back False r v k) : q_back False r v k' := by
  unfold q_back at h ⊢
  cases r with
  | none => exact hx _ h
  | some ty => cases ty <;> first | exact h.elim | exact q_onI_mono (fun _ => hx _) h | exact q_onJ_mono (fun _ => hx _) h
theorem q_sw_mono {go go' : Int → Prop} (hg : ∀ z, go z → go' z) {d : Int} {x : Int32} : ∀ {ps : List (Int × Int)}, q_sw (fun c _ x y => (c → x) ∧ (¬ c → y)) go d x ps → q_sw (fun c _ x y => (c → x) ∧ (¬ c → y)) go' d x ps
  | [], h => hg _ h
  | (a, o) :: l, h => ⟨fun q => hg _ (h.1 q), fun q => q_sw_mono hg (h.2 q)⟩
def q_mono (cl : Nat → List Value → q_Mem → (Value → q_Mem → Prop) → Prop) : Prop := ∀ y as μ (Q Q' : Value → q_Mem → Prop), (∀ v μ', Q v μ' → Q' v μ') → cl y as μ Q → cl y as μ Q'
theorem q_ex_mono {cl : Nat → List Value → q_Mem → (Value → q_Mem → Prop) → Prop} (hcl : q_mono cl) {rt rt' : Value → q_Mem → Nat → Nat → Prop} (hrt : ∀ v μ uc us, rt v μ uc us → rt' v μ uc us) {j : Nat} {P P' : q_St → Prop} (hP : ∀ z, P z → P' z) (i : Instr) {n a b pc uc us : Nat} {ls : List (Option Value)} {st : List Value} {μ : q_Mem} (h : q_ex False (fun c _ x => c ∧ x) (fun c _ x y => (c → x) ∧ (¬ c → y)) cl rt j P i n a b pc ls st μ uc us) : q_ex False (fun c _ x => c ∧ x) (fun c _ x y => (c → x) ∧ (¬ c → y)) cl rt' j P' i n a b pc ls st μ uc us := by
  cases i
  case iconst k =>
    exact hP _ h
  case bipush k =>
    exact hP _ h
  case sipush k =>
    exact hP _ h
  case lconst k =>
    exact hP _ h
  case ldc k =>
    exact hP _ h
  case ldc_w k =>
    exact hP _ h
  case ldc2_w k =>
    exact hP _ h
  case goto k =>
    exact hP _ h
  case iload_n k =>
    dsimp only [q_ex] at h ⊢
    revert h
    generalize ls[(k : Nat)]? = q
    intro h
    split at h
    · exact hP _ h
    · exact h.elim
  case iload k =>
    dsimp only [q_ex] at h ⊢
    revert h
    generalize ls[k]? = q
    intro h
    split at h
    · exact hP _ h
    · exact h.elim
  case lload_n k =>
    dsimp only [q_ex] at h ⊢
    revert h
    generalize ls[(k : Nat)]? = q
    intro h
    split at h
    · exact hP _ h
    · exact h.elim
  case lload k =>
    dsimp only [q_ex] at h ⊢
    revert h
    generalize ls[k]? = q
    intro h
    split at h
    · exact hP _ h
    · exact h.elim
  case aload_n k =>
    dsimp only [q_ex] at h ⊢
    revert h
    generalize ls[(k : Nat)]? = q
    intro h
    split at h
    · exact hP _ h
    · exact h.elim
  case aload k =>
    dsimp only [q_ex] at h ⊢
    revert h
    generalize ls[k]? = q
    intro h
    split at h
    · exact hP _ h
    · exact h.elim
  case istore_n k =>
    dsimp only [q_ex] at h ⊢
    split at h
    · exact q_onB_mono (hP _) h
    · exact h.elim
  case istore k =>
    dsimp only [q_ex] at h ⊢
    split at h
    · exact q_onB_mono (hP _) h
    · exact h.elim
  case astore_n k =>
    dsimp only [q_ex] at h ⊢
    split at h
    · exact q_onB_mono (hP _) h
    · exact h.elim
  case astore k =>
    dsimp only [q_ex] at h ⊢
    split at h
    · exact q_onB_mono (hP _) h
    · exact h.elim
  case lstore_n k =>
    dsimp only [q_ex] at h ⊢
    split at h
    · exact q_onB_mono (hP _) h
    · exact h.elim
  case lstore k =>
    dsimp only [q_ex] at h ⊢
    split at h
    · exact q_onB_mono (hP _) h
    · exact h.elim
  case iinc k d =>
    dsimp only [q_ex] at h ⊢
    revert h
    generalize ls[k]? = q
    intro h
    split at h
    · exact q_onB_mono (hP _) h
    · exact h.elim
  case iadd =>
    dsimp only [q_ex] at h ⊢
    split at h
    · exact hP _ h
    · exact h.elim
  case isub =>
    dsimp only [q_ex] at h ⊢
    split at h
    · exact hP _ h
    · exact h.elim
  case imul =>
    dsimp only [q_ex] at h ⊢
    split at h
    · exact hP _ h
    · exact h.elim
  case iand =>
    dsimp only [q_ex] at h ⊢
    split at h
    · exact hP _ h
    · exact h.elim
  case ior =>
    dsimp only [q_ex] at h ⊢
    split at h
    · exact hP _ h
    · exact h.elim
  case ixor =>
    dsimp only [q_ex] at h ⊢
    split at h
    · exact hP _ h
    · exact h.elim
  case ishl =>
    dsimp only [q_ex] at h ⊢
    split at h
    · exact hP _ h
    · exact h.elim
  case ishr =>
    dsimp only [q_ex] at h ⊢
    split at h
    · exact hP _ h
    · exact h.elim
  case iushr =>
    dsimp only [q_ex] at h ⊢
    split at h
    · exact hP _ h
    · exact h.elim
  case ineg =>
    dsimp only [q_ex] at h ⊢
    split at h
    · exact hP _ h
    · exact h.elim
  case ladd =>
    dsimp only [q_ex] at h ⊢
    split at h
    · exact hP _ h
    · exact h.elim
  case lsub =>
    dsimp only [q_ex] at h ⊢
    split at h
    · exact hP _ h
    · exact h.elim
  case lmul =>
    dsimp only [q_ex] at h ⊢
    split at h
    · exact hP _ h
    · exact h.elim
  case land =>
    dsimp only [q_ex] at h ⊢
    split at h
    · exact hP _ h
    · exact h.elim
  case lor =>
    dsimp only [q_ex] at h ⊢
    split at h
    · exact hP _ h
    · exact h.elim
  case lshl =>
    dsimp only [q_ex] at h ⊢
    split at h
    · exact hP _ h
    · exact h.elim
  case lcmp =>
    dsimp only [q_ex] at h ⊢
    split at h
    · exact hP _ h
    · exact h.elim
  case i2l =>
    dsimp only [q_ex] at h ⊢
    split at h
    · exact hP _ h
    · exact h.elim
  case l2i =>
    dsimp only [q_ex] at h ⊢
    split at h
    · exact hP _ h
    · exact h.elim
  case i2b =>
    dsimp only [q_ex] at h ⊢
    split at h
    · exact hP _ h
    · exact h.elim
  case i2s =>
    dsimp only [q_ex] at h ⊢
    split at h
    · exact hP _ h
    · exact h.elim
  case idiv =>
    dsimp only [q_ex] at h ⊢
    split at h
    · exact ⟨h.1, hP _ h.2⟩
    · exact h.elim
  case irem =>
    dsimp only [q_ex] at h ⊢
    split at h
    · exact ⟨h.1, hP _ h.2⟩
    · exact h.elim
  case dup =>
    dsimp only [q_ex] at h ⊢
    split at h
    · exact q_onB_mono (hP _) h
    · exact h.elim
  case pop =>
    dsimp only [q_ex] at h ⊢
    split at h
    · exact q_onB_mono (hP _) h
    · exact h.elim
  case dup_x1 =>
    dsimp only [q_ex] at h ⊢
    split at h
    · exact q_onB_mono (hP _) h
    · exact h.elim
  case dup2 =>
    dsimp only [q_ex] at h ⊢
    split at h
    · exact q_onB_mono (hP _) h
    · exact h.elim
  case ifCond cc off =>
    dsimp only [q_ex] at h ⊢
    split at h
    · cases cc <;> exact ⟨fun q => hP _ (h.1 q), fun q => hP _ (h.2 q)⟩
    · exact h.elim
  case if_icmp cc off =>
    dsimp only [q_ex] at h ⊢
    split at h
    · cases cc <;> exact ⟨fun q => hP _ (h.1 q), fun q => hP _ (h.2 q)⟩
    · exact h.elim
  case tableswitch d lo hi os =>
    dsimp only [q_ex] at h ⊢
    split at h
    · exact q_sw_mono (fun z hz => q_onB_mono (hP _) hz) h
    · exact h.elim
  case lookupswitch d ps =>
    dsimp only [q_ex] at h ⊢
    split at h
    · exact q_sw_mono (fun z hz => q_onB_mono (hP _) hz) h
    · exact h.elim
  case ireturn =>
    dsimp only [q_ex] at h ⊢
    split at h
    · revert h
      generalize (q_m j).1.2.2.2 = r
      intro h
      split at h
      · exact q_onB_mono (hrt _ _ _ _) h
      · exact q_onB_mono (fun h => ⟨h.1, hrt _ _ _ _ h.2⟩) h
      · exact h.elim
    · exact h.elim
  case lreturn =>
    dsimp only [q_ex] at h ⊢
    split at h
    · revert h
      generalize (q_m j).1.2.2.2 = r
      intro h
      split at h
      · exact q_onB_mono (hrt _ _ _ _) h
      · exact h.elim
    · exact h.elim
  case return_ =>
    dsimp only [q_ex] at h ⊢
    split at h
    · revert h
      generalize (q_m j).1.2.2.2 = r
      intro h
      split at h
      · exact q_onB_mono (hrt _ _ _ _) h
      · exact h.elim
    · exact h.elim
  case getfield k =>
    dsimp only [q_ex] at h ⊢
    split at h
    · refine q_onB_mono (fun h => ?_) h
      revert h
      generalize q_fk (q_tyf a b) = f
      intro h
      split at h
      · exact hP _ h
      · exact hP _ h
      · exact q_onS_mono (fun _ => hP _) h
      · exact h.elim
    · exact h.elim
  case putfield k =>
    dsimp only [q_ex] at h ⊢
    split at h
    · refine q_onB_mono (fun h => ?_) h
      revert h
      generalize q_fk (q_tyf a b) = f
      intro h
      split at h
      · exact q_onI_mono (fun _ => hP _) h
      · exact q_onI_mono (fun _ h => ⟨h.1, hP _ h.2⟩) h
      · exact q_onR_mono (fun _ => q_onB_mono (hP _)) h
      · exact h.elim
    · exact h.elim
  case iaload =>
    dsimp only [q_ex] at h ⊢
    split at h
    · exact q_onS_mono (fun _ h => ⟨h.1, hP _ h.2⟩) h
    · exact h.elim
  case laload =>
    dsimp only [q_ex] at h ⊢
    split at h
    · exact q_onS_mono (fun _ h => ⟨h.1, hP _ h.2⟩) h
    · exact h.elim
  case iastore =>
    dsimp only [q_ex] at h ⊢
    split at h
    · exact q_onS_mono (fun _ h => ⟨h.1, hP _ h.2⟩) h
    · exact h.elim
  case lastore =>
    dsimp only [q_ex] at h ⊢
    split at h
    · exact q_onS_mono (fun _ h => ⟨h.1, hP _ h.2⟩) h
    · exact h.elim
  case aaload =>
    dsimp only [q_ex] at h ⊢
    split at h
    · exact q_onS_mono (fun _ h => ⟨h.1, q_onS_mono (fun _ => hP _) h.2⟩) h
    · exact h.elim
  case aastore =>
    dsimp only [q_ex] at h ⊢
    split at h
    · exact q_onS_mono (fun _ => q_onB_mono (fun h => ⟨h.1, hP _ h.2⟩)) h
    · exact h.elim
  case arraylength =>
    dsimp only [q_ex] at h ⊢
    split at h
    · exact q_onS_mono (fun _ => hP _) h
    · exact h.elim
  case new k =>
    dsimp only [q_ex] at h ⊢
    exact q_onB_mono (hP _) h
  case newarray t =>
    dsimp only [q_ex] at h ⊢
    split at h
    · refine ⟨h.1, q_onB_mono (fun h => ?_) h.2⟩
      cases t <;> first | exact hP _ h | exact h.elim
    · exact h.elim
  case anewarray k =>
    dsimp only [q_ex] at h ⊢
    split at h
    · exact ⟨h.1, q_onB_mono (hP _) h.2⟩
    · exact h.elim
  case invokevirtual k =>
    dsimp only [q_ex] at h ⊢
    refine q_onS_mono (fun q h => ?_) h
    revert h
    generalize q.2 = z
    intro h
    split at h
    · refine q_onB_mono (fun h => ?_) h
      unfold q_call at h ⊢
      exact q_onB_mono (fun h => hcl _ _ _ _ _ (fun v μ' => q_back_mono (fun _ => hP _)) h) h
    · exact h.elim
  case invokestatic k =>
    dsimp only [q_ex] at h ⊢
    revert h
    generalize (a == 301) = a1
    generalize (a == 302) = a2
    generalize (a == 303) = a3
    intro h
    cases a1
    · cases a2
      · cases a3
        · refine q_onS_mono (fun q h => ?_) h
          unfold q_call at h ⊢
          exact q_onB_mono (fun h => hcl _ _ _ _ _ (fun v μ' => q_back_mono (fun _ => hP _)) h) h
        · dsimp only at h ⊢
          split at h
          · exact q_onB_mono (hP _) h
          · exact h.elim
      · dsimp only at h ⊢
        split at h
        · exact q_onB_mono (hP _) h
        · exact h.elim
    · dsimp only at h ⊢
      unfold q_copy at h ⊢
      split at h
      · refine q_onB_mono (fun h => ?_) h
        revert h
        generalize q_arr μ.1 _ 100 = z
        intro h
        cases z
        · exact q_onS_mono (fun _ => q_onS_mono (fun _ h => ⟨h.1, hP _ h.2⟩)) h
        · exact q_onS_mono (fun _ h => ⟨h.1, hP _ h.2⟩) h
      · exact h.elim
  case invokespecial k =>
    dsimp only [q_ex] at h ⊢
    revert h
    generalize (a == 300) = a1
    intro h
    cases a1
    · refine q_onS_mono (fun q h => ?_) h
      revert h
      generalize q.2 = z
      intro h
      split at h
      · unfold q_call at h ⊢
        exact q_onB_mono (fun h => hcl _ _ _ _ _ (fun v μ' => q_back_mono (fun _ => hP _)) h) h
      · exact h.elim
    · dsimp only at h ⊢
      split at h
      · exact q_onB_mono (hP _) h
      · exact h.elim
  all_goals exact h.elim
theorem q_step_mono {cl : Nat → List Value → q_Mem → (Value → q_Mem → Prop) → Prop} (hcl : q_mono cl) {rt rt' : Value → q_Mem → Nat → Nat → Prop} (hrt : ∀ v μ uc us, rt v μ uc us → rt' v μ uc us) {j : Nat} {P P' : q_St → Prop} (hP : ∀ z, P z → P' z) (z : q_St) (h : q_stepP cl rt j P z) : q_stepP cl rt' j P' z := by
  obtain ⟨pc, ls, st, μ, uc, us⟩ := z
  exact q_onS_mono (fun e => q_ex_mono hcl hrt hP e.1) h
theorem q_X_of {cl : Nat → List Value → q_Mem → (Value → q_Mem → Prop) → Prop} (hcl : q_mono cl) {rt : Value → q_Mem → Nat → Nat → Prop} {j : Nat} {z : q_St} (h : q_stepP cl rt j (q_X cl rt j) z) : q_X cl rt j z := fun P hP => hP z (q_step_mono hcl (fun _ _ _ _ h => h) (fun z hz => hz P hP) z h)
theorem q_X_fix {cl : Nat → List Value → q_Mem → (Value → q_Mem → Prop) → Prop} (hcl : q_mono cl) {rt : Value → q_Mem → Nat → Nat → Prop} {j : Nat} (z : q_St) : q_X cl rt j z = q_stepP cl rt j (q_X cl rt j) z := propext ⟨fun h => h (fun z => q_stepP cl rt j (q_X cl rt j) z) (fun t ht => q_step_mono hcl (fun _ _ _ _ h => h) (fun z hz => q_X_of hcl hz) t ht), q_X_of hcl⟩
theorem q_X_rt {cl : Nat → List Value → q_Mem → (Value → q_Mem → Prop) → Prop} (hcl : q_mono cl) {rt rt' : Value → q_Mem → Nat → Nat → Prop} (hrt : ∀ v μ uc us, rt v μ uc us → rt' v μ uc us) {j : Nat} {z : q_St} (h : q_X cl rt j z) : q_X cl rt' j z := fun P hP => h P fun t ht => hP t (q_step_mono hcl hrt (fun _ h => h) t ht)
theorem q_W_mono : ∀ d, q_mono (q_W d)
  | 0 => fun _ _ _ _ _ _ h => h
  | d + 1 => fun y as μ Q Q' hQ h => ⟨h.1, q_X_rt (q_W_mono d) (fun v μ _ _ => hQ v μ) h.2⟩
/-- a call, opened -/
theorem q_W_eq {d j : Nat} {as : List Value} {μ : q_Mem} {Q : Value → q_Mem → Prop} (h : (Nat.blt j 226 && (Nat.ble (q_lay as).length (q_m j).1.2.2.1 && q_lgok (q_m j).2.2.1 as)) = true) : q_W (d + 1) j as μ Q = q_X (q_W d) (fun v μ' _ _ => Q v μ') j (0, q_ent j as, [], μ, 0, 0) := by
  rw [Bool.and_eq_true, Bool.and_eq_true] at h
  exact propext ⟨fun h1 => h1.2, fun h1 => ⟨h, h1⟩⟩
/-- many steps, up to the cuts -/
def q_run (cl : Nat → List Value → q_Mem → (Value → q_Mem → Prop) → Prop) (rt : Value → q_Mem → Nat → Nat → Prop) (j : Nat) (cuts : List Nat) : Nat → q_St → Prop
  | 0, z => q_X cl rt j z
  | n + 1, z => q_stepP cl rt j (fun z' => match z' with
    | (pc, r) => match cuts.contains pc with
      | true => q_X cl rt j (pc, r)
      | false => q_run cl rt j cuts n (pc, r)) z
theorem q_run_eq {d : Nat} {rt : Value → q_Mem → Nat → Nat → Prop} {j : Nat} (cuts : List Nat) : ∀ (n : Nat) (z : q_St), q_run (q_W d) rt j cuts n z = q_X (q_W d) rt j z
  | 0, z => rfl
  | n + 1, z => by
    rw [q_X_fix (q_W_mono d)]
    unfold q_run
    congr 1
    funext z'
    obtain ⟨pc, r⟩ := z'
    dsimp only
    rw [q_run_eq cuts n (pc, r)]
    split <;> rfl
/-- the shapes of all objects that the law makes -/
def q_SH (L : Nat) : List (Nat × Nat) := (99, L) :: [(9, 14), (108, 8), (3, 6), (107, 12), (104, 24), (5, 11), (5, 11), (5, 11), (5, 11), (5, 11), (5, 11), (5, 11), (5, 11), (5, 11), (5, 11), (5, 11), (5, 11), (2, 5), (2, 5), (2, 5), (2, 5), (2, 5), (2, 5), (2, 5), (2, 5), (2, 5), (2, 5), (2, 5), (2, 5), (2, 5), (2, 5), (2, 5), (2, 5), (2, 5), (2, 5), (2, 5), (2, 5), (2, 5), (2, 5), (2, 5), (2, 5), (3, 6), (107, 12), (104, 24), (5, 11), (5, 11), (5, 11), (5, 11), (5, 11), (5, 11), (5, 11), (5, 11), (5, 11), (5, 11), (5, 11), (5, 11), (2, 5), (2, 5), (2, 5), (2, 5), (2, 5), (2, 5), (2, 5), (2, 5), (2, 5), (2, 5), (2, 5), (2, 5), (2, 5), (2, 5), (2, 5), (2, 5), (2, 5), (2, 5), (2, 5), (2, 5), (2, 5), (2, 5), (2, 5), (2, 5), (4, 8), (100, 12), (100, 36), (8, 2), (100, 12), (1, 8), (100, 24), (100, 30), (100, 12), (1, 8), (100, 24), (100, 30), (100, 12), (7, 6), (107, 12), (6, 4), (101, 160), (5, 11), (5, 11), (5, 11), (5, 11), (5, 11), (5, 11), (5, 11), (5, 11), (5, 11), (5, 11), (5, 11), (5, 11), (0, 2), (100, 40), (100, 36), (100, 8), (6, 4), (101, 160), (6, 4), (101, 160), (6, 4), (101, 160), (6, 4), (101, 160), (6, 4), (101, 160), (6, 4), (101, 160), (6, 4), (101, 160), (6, 4), (101, 160), (10, 37), (100, 108), (100, 120), (100, 8), (100, 8), (101, 1280), (100, 36), (100, 36), (100, 12), (100, 40), (100, 12), (100, 24), (100, 30), (100, 12), (100, 30), (100, 8), (100, 232), (100, 232)]
def q_RRt : List (List (Option Nat)) := [[], [some 2, some 3, some 42, none, some 81, some 84, some 86, some 90, some 94, some 110, some 112, none, none, some 113], [some 114, some 116, some 118, some 120, some 122, some 124, some 126, some 128], [some 4, some 5], [some 6, some 7, some 8, some 9, some 10, some 11, some 12, some 13, some 14, some 15, some 16, some 17], [some 18, some 19, some 20, some 21, some 22, some 23, some 24, some 25, some 26, some 27, some 28, some 29, some 30, some 31, some 32, some 33, some 34, some 35, some 36, some 37, some 38, some 39, some 40, some 41], [], [], [], [], [], [], [], [], [], [], [], [], [], [], [], [], [], [], [], [], [], [], [], [], [], [], [], [], [], [], [], [], [], [], [], [], [some 43, some 44], [some 45, some 46, some 47, some 48, some 49, some 50, some 51, some 52, some 53, some 54, some 55, some 56], [some 57, some 58, some 59, some 60, some 61, some 62, some 63, some 64, some 65, some 66, some 67, some 68, some 69, some 70, some 71, some 72, some 73, some 74, some 75, some 76, some 77, some 78, some 79, some 80], [], [], [], [], [], [], [], [], [], [], [], [], [], [], [], [], [], [], [], [], [], [], [], [], [], [], [], [], [], [], [], [], [], [], [], [], [some 3, some 82, none, none, some 83], [], [], [some 3, some 85], [], [some 3, some 87, none, none, none, none, some 88, some 89], [], [], [], [some 3, some 91, none, none, none, none, some 92, some 93], [], [], [], [some 3, some 95, none, some 96], [some 98, some 99, some 100, some 101, some 102, some 103, some 104, some 105, some 106, some 107, some 108, some 109], [some 97], [], [], [], [], [], [], [], [], [], [], [], [], [], [some 111], [], [], [], [some 115], [], [some 117], [], [some 119], [], [some 121], [], [some 123], [], [some 125], [], [some 127], [], [some 129], [], [none, some 131, none, none, none, some 132, some 133, some 134, some 135, none, none, none, none, some 136, none, some 137, none, none, some 138, none, none, some 139, some 140, none, some 141, none, none, none, some 142, some 143, none, some 144, none, some 145, none, some 146, some 147], [], [], [], [], [], [], [], [], [], [], [], [], [], [], [], [], []]
def q_RR (t o k : Nat) : Option Nat := match o == 94 && k == 3 with
  | true => some t
  | false => (q_RRt.getD o []).getD k none
def q_mm (L : Nat) (I : Nat → Nat → Int32) (J : Nat → Nat → Int64) (t : Nat) : q_Mem := (q_SH L, I, J, q_RR t)
def q_u (I : Nat → Nat → Int32) (o k : Nat) (v : Int32) : Nat → Nat → Int32 := fun a b => if a = o ∧ b = k then v else I a b
def q_u8 (J : Nat → Nat → Int64) (o k : Nat) (v : Int64) : Nat → Nat → Int64 := fun a b => if a = o ∧ b = k then v else J a b
def q_cpI (I : Nat → Nat → Int32) (o o' sp dp n : Nat) : Nat → Nat → Int32 := fun a b => if a = o' then va_cpy (I o) (I o') sp dp n b else I a b
def q_cpL (J : Nat → Nat → Int64) (o o' sp dp n : Nat) : Nat → Nat → Int64 := fun a b => if a = o' then va_cpy (J o) (J o') sp dp n b else J a b
theorem q_sR_mm {L : Nat} {I : Nat → Nat → Int32} {J : Nat → Nat → Int64} {t x : Nat} : q_sR (q_mm L I J t) 94 3 (some x) = q_mm L I J x := by
  unfold q_sR q_mm
  congr 3
  funext a b
  unfold q_RR
  by_cases h : a = 94 ∧ b = 3
  · rw [if_pos h, h.1, h.2]
    rfl
  · rw [if_neg h]
    have e : (a == 94 && b == 3) = false := by
      rw [Bool.and_eq_false_iff]
      by_cases h1 : a = 94
      · exact Or.inr (beq_false_of_ne (fun h2 => h ⟨h1, h2⟩))
      · exact Or.inl (beq_false_of_ne h1)
    dsimp only
    rw [e]
theorem q_onB_t {X : Type} {ff x : X} : q_onB ff true x = x := rfl
theorem q_onS_s {α X : Type} {ff : X} {a : α} {k : α → X} : q_onS ff (some a) k = k a := rfl
theorem q_onI_i {X : Type} {ff : X} {a : Int32} {k : Int32 → X} : q_onI ff (.int a) k = k a := rfl
theorem q_onJ_j {X : Type} {ff : X} {a : Int64} {k : Int64 → X} : q_onJ ff (.long a) k = k a := rfl
end
section
theorem g_Host_hasPlug_e {L d : Nat} {rt : Value → q_Mem → Nat → Nat → Prop} {I : Nat → Nat → Int32} {J : Nat → Nat → Int64} {t : Nat} {x1 : Int32} : q_X (q_W d) rt 20 (0, [some (.ref 3), some (.int x1)], [], (q_mm L I J t), 0, 0) = (((x1 < 0) → (((0 : Int32) = 0 ∨ (0 : Int32) = 1) ∧ (rt (.int (0 : Int32)) (q_mm L I J t) 0 0))) ∧ (¬ (x1 < 0) → ((((I 3 2) ≤ x1) → (((0 : Int32) = 0 ∨ (0 : Int32) = 1) ∧ (rt (.int (0 : Int32)) (q_mm L I J t) 0 0))) ∧ (¬ ((I 3 2) ≤ x1) → (((1 : Int32) = 0 ∨ (1 : Int32) = 1) ∧ (rt (.int (1 : Int32)) (q_mm L I J t) 0 0)))))) := (q_run_eq [] 90 _).symm
theorem g_C_row_e {L d : Nat} {rt : Value → q_Mem → Nat → Nat → Prop} {I : Nat → Nat → Int32} {J : Nat → Nat → Int64} {t : Nat} {x1 : Int32} {x2 : Int32} {x3 : Int32} : q_X (q_W d) rt 78 (0, [some (.ref 1), some (.int x1), some (.int x2), some (.int x3)], [], (q_mm L I J t), 0, 0) = (q_W d 121 [.int x1] (q_mm L I J t) (fun v μ' => q_onI False v fun x' => q_X (q_W d) rt 78 (4, [some (.ref 1), some (.int x1), some (.int x2), some (.int x3)], [.int (x')], μ', 0, 0))) := (q_run_eq [4, 12, 23, 29, 38, 52, 64] 90 _).symm
theorem g_C_row_4 {L d : Nat} {rt : Value → q_Mem → Nat → Nat → Prop} {I : Nat → Nat → Int32} {J : Nat → Nat → Int64} {t : Nat} {x1 : Int32} {x2 : Int32} {x3 : Int32} {xs0 : Int32} : q_X (q_W d) rt 78 (4, [some (.ref 1), some (.int x1), some (.int x2), some (.int x3)], [.int xs0], (q_mm L I J t), 0, 0) = (((xs0 = 0) → (q_W d 117 [.ref 1, .int (-1 : Int32)] (q_mm L I J t) (fun v μ' => q_onI False v fun x' => q_X (q_W d) rt 78 (12, [some (.ref 1), some (.int x1), some (.int x2), some (.int x3)], [.int (x')], μ', 0, 0)))) ∧ (¬ (xs0 = 0) → (((0 ≤ x3) → (q_W d 119 [.int x2, .int (4 : Int32)] (q_mm L I J t) (fun v μ' => q_onI False v fun x' => q_X (q_W d) rt 78 (29, [some (.ref 1), some (.int x1), some (.int x2), some (.int x3)], [.int (x')], μ', 0, 0)))) ∧ (¬ (0 ≤ x3) → (q_W d 117 [.ref 1, .int (-4 : Int32)] (q_mm L I J t) (fun v μ' => q_onI False v fun x' => q_X (q_W d) rt 78 (23, [some (.ref 1), some (.int x1), some (.int x2), some (.int x3)], [.int (x')], μ', 0, 0))))))) := (q_run_eq [4, 12, 23, 29, 38, 52, 64] 90 _).symm
theorem g_C_row_12 {L d : Nat} {rt : Value → q_Mem → Nat → Nat → Prop} {I : Nat → Nat → Int32} {J : Nat → Nat → Int64} {t : Nat} {x1 : Int32} {x2 : Int32} {x3 : Int32} {xs0 : Int32} : q_X (q_W d) rt 78 (12, [some (.ref 1), some (.int x1), some (.int x2), some (.int x3)], [.int xs0], (q_mm L I J t), 0, 0) = (rt (.int xs0) (q_mm L I J t) 0 0) := (q_run_eq [4, 12, 23, 29, 38, 52, 64] 90 _).symm
theorem g_C_row_23 {L d : Nat} {rt : Value → q_Mem → Nat → Nat → Prop} {I : Nat → Nat → Int32} {J : Nat → Nat → Int64} {t : Nat} {x1 : Int32} {x2 : Int32} {x3 : Int32} {xs0 : Int32} : q_X (q_W d) rt 78 (23, [some (.ref 1), some (.int x1), some (.int x2), some (.int x3)], [.int xs0], (q_mm L I J t), 0, 0) = (rt (.int xs0) (q_mm L I J t) 0 0) := (q_run_eq [4, 12, 23, 29, 38, 52, 64] 90 _).symm
theorem g_C_row_29 {L d : Nat} {rt : Value → q_Mem → Nat → Nat → Prop} {I : Nat → Nat → Int32} {J : Nat → Nat → Int64} {t : Nat} {x1 : Int32} {x2 : Int32} {x3 : Int32} {xs0 : Int32} : q_X (q_W d) rt 78 (29, [some (.ref 1), some (.int x1), some (.int x2), some (.int x3)], [.int xs0], (q_mm L I J t), 0, 0) = (((xs0 = 0) → (q_W d 117 [.ref 1, .int (-6 : Int32)] (q_mm L I J t) (fun v μ' => q_onI False v fun x' => q_X (q_W d) rt 78 (38, [some (.ref 1), some (.int x1), some (.int x2), some (.int x3)], [.int (x')], μ', 0, 0)))) ∧ (¬ (xs0 = 0) → (((x3 ≤ (160 : Int32)) → ((¬ (x1 < 0 ∨ 8 ≤ x1.toNatClampNeg)) ∧ (q_onS False (q_RR t 2 x1.toNatClampNeg) fun r1 => q_onB False (q_isO (q_SH L) r1 6) (q_W d 47 [.ref r1, .int x2, .int x3] (q_mm L I J t) (fun _ μ' => q_X (q_W d) rt 78 (64, [some (.ref 1), some (.int x1), some (.int x2), some (.int x3)], [], μ', 0, 0)))))) ∧ (¬ (x3 ≤ (160 : Int32)) → (q_W d 117 [.ref 1, .int (-7 : Int32)] (q_mm L I J t) (fun v μ' => q_onI False v fun x' => q_X (q_W d) rt 78 (52, [some (.ref 1), some (.int x1), some (.int x2), some (.int x3)], [.int (x')], μ', 0, 0))))))) := (q_run_eq [4, 12, 23, 29, 38, 52, 64] 90 _).symm
theorem g_C_row_38 {L d : Nat} {rt : Value → q_Mem → Nat → Nat → Prop} {I : Nat → Nat → Int32} {J : Nat → Nat → Int64} {t : Nat} {x1 : Int32} {x2 : Int32} {x3 : Int32} {xs0 : Int32} : q_X (q_W d) rt 78 (38, [some (.ref 1), some (.int x1), some (.int x2), some (.int x3)], [.int xs0], (q_mm L I J t), 0, 0) = (rt (.int xs0) (q_mm L I J t) 0 0) := (q_run_eq [4, 12, 23, 29, 38, 52, 64] 90 _).symm
theorem g_C_row_52 {L d : Nat} {rt : Value → q_Mem → Nat → Nat → Prop} {I : Nat → Nat → Int32} {J : Nat → Nat → Int64} {t : Nat} {x1 : Int32} {x2 : Int32} {x3 : Int32} {xs0 : Int32} : q_X (q_W d) rt 78 (52, [some (.ref 1), some (.int x1), some (.int x2), some (.int x3)], [.int xs0], (q_mm L I J t), 0, 0) = (rt (.int xs0) (q_mm L I J t) 0 0) := (q_run_eq [4, 12, 23, 29, 38, 52, 64] 90 _).symm
theorem g_C_row_64 {L d : Nat} {rt : Value → q_Mem → Nat → Nat → Prop} {I : Nat → Nat → Int32} {J : Nat → Nat → Int64} {t : Nat} {x1 : Int32} {x2 : Int32} {x3 : Int32} : q_X (q_W d) rt 78 (64, [some (.ref 1), some (.int x1), some (.int x2), some (.int x3)], [], (q_mm L I J t), 0, 0) = (rt (.int (1 : Int32)) (q_mm L I J t) 0 0) := (q_run_eq [4, 12, 23, 29, 38, 52, 64] 90 _).symm
theorem g_Host_countIn_e {L d : Nat} {rt : Value → q_Mem → Nat → Nat → Prop} {I : Nat → Nat → Int32} {J : Nat → Nat → Int64} {t : Nat} {x1 : Int32} : q_X (q_W d) rt 23 (0, [some (.ref 3), some (.int x1), none, none], [], (q_mm L I J t), 0, 0) = (q_X (q_W d) rt 23 (4, [some (.ref 3), some (.int x1), some (.int (0 : Int32)), some (.int (0 : Int32))], [], (q_mm L I J t), 0, 0)) := (q_run_eq [4] 90 _).symm
theorem g_Host_countIn_4 {L d : Nat} {rt : Value → q_Mem → Nat → Nat → Prop} {I : Nat → Nat → Int32} {J : Nat → Nat → Int64} {t : Nat} {x1 : Int32} {x2 : Int32} {x3 : Int32} : q_X (q_W d) rt 23 (4, [some (.ref 3), some (.int x1), some (.int x2), some (.int x3)], [], (q_mm L I J t), 0, 0) = ((((I 3 2) ≤ x3) → (rt (.int x2) (q_mm L I J t) 0 0)) ∧ (¬ ((I 3 2) ≤ x3) → ((¬ (x3 < 0 ∨ 12 ≤ x3.toNatClampNeg)) ∧ (q_onS False (q_RR t 4 x3.toNatClampNeg) fun r1 => q_onB False (q_isO (q_SH L) r1 5) ((((I r1 9) = x1) → (q_X (q_W d) rt 23 (4, [some (.ref 3), some (.int x1), some (.int (x2 + (1 : Int32))), some (.int (x3 + (1 : Int32)))], [], (q_mm L I J t), 0, 0))) ∧ (¬ ((I r1 9) = x1) → (q_X (q_W d) rt 23 (4, [some (.ref 3), some (.int x1), some (.int x2), some (.int (x3 + (1 : Int32)))], [], (q_mm L I J t), 0, 0)))))))) := (q_run_eq [4] 90 _).symm
theorem g_M_isPlug_e {L d : Nat} {rt : Value → q_Mem → Nat → Nat → Prop} {I : Nat → Nat → Int32} {J : Nat → Nat → Int64} {t : Nat} {x1 : Int32} : q_X (q_W d) rt 136 (0, [some (.ref 130), some (.int x1)], [], (q_mm L I J t), 0, 0) = (q_W d 135 [.int x1, .int (0 : Int32), .int ((I 130 0) - (1 : Int32))] (q_mm L I J t) (fun v μ' => q_onI False v fun x' => q_X (q_W d) rt 136 (11, [some (.ref 130), some (.int x1)], [.int (x')], μ', 0, 0))) := (q_run_eq [11] 90 _).symm
theorem g_M_isPlug_11 {L d : Nat} {rt : Value → q_Mem → Nat → Nat → Prop} {I : Nat → Nat → Int32} {J : Nat → Nat → Int64} {t : Nat} {x1 : Int32} {xs0 : Int32} : q_X (q_W d) rt 136 (11, [some (.ref 130), some (.int x1)], [.int xs0], (q_mm L I J t), 0, 0) = ((xs0 = 0 ∨ xs0 = 1) ∧ (rt (.int xs0) (q_mm L I J t) 0 0)) := (q_run_eq [11] 90 _).symm
theorem g_M_row_e {L d : Nat} {rt : Value → q_Mem → Nat → Nat → Prop} {I : Nat → Nat → Int32} {J : Nat → Nat → Int64} {t : Nat} {x1 : Int32} {x2 : Int32} {x3 : Int32} : q_X (q_W d) rt 145 (0, [some (.ref 130), some (.int x1), some (.int x2), some (.int x3), none], [], (q_mm L I J t), 0, 0) = (q_W d 135 [.int x1, .int (0 : Int32), .int (7 : Int32)] (q_mm L I J t) (fun v μ' => q_onI False v fun x' => q_X (q_W d) rt 145 (7, [some (.ref 130), some (.int x1), some (.int x2), some (.int x3), none], [.int (x')], μ', 0, 0))) := (q_run_eq [7, 15, 26, 33, 42, 56, 77] 90 _).symm
theorem g_M_row_7 {L d : Nat} {rt : Value → q_Mem → Nat → Nat → Prop} {I : Nat → Nat → Int32} {J : Nat → Nat → Int64} {t : Nat} {x1 : Int32} {x2 : Int32} {x3 : Int32} {xs0 : Int32} : q_X (q_W d) rt 145 (7, [some (.ref 130), some (.int x1), some (.int x2), some (.int x3), none], [.int xs0], (q_mm L I J t), 0, 0) = (((xs0 = 0) → (q_W d 133 [.ref 130, .int (-1 : Int32)] (q_mm L I J t) (fun v μ' => q_onI False v fun x' => q_X (q_W d) rt 145 (15, [some (.ref 130), some (.int x1), some (.int x2), some (.int x3), none], [.int (x')], μ', 0, 0)))) ∧ (¬ (xs0 = 0) → (((0 ≤ x3) → (q_W d 135 [.int x2, .int (0 : Int32), .int (3 : Int32)] (q_mm L I J t) (fun v μ' => q_onI False v fun x' => q_X (q_W d) rt 145 (33, [some (.ref 130), some (.int x1), some (.int x2), some (.int x3), none], [.int (x')], μ', 0, 0)))) ∧ (¬ (0 ≤ x3) → (q_W d 133 [.ref 130, .int (-4 : Int32)] (q_mm L I J t) (fun v μ' => q_onI False v fun x' => q_X (q_W d) rt 145 (26, [some (.ref 130), some (.int x1), some (.int x2), some (.int x3), none], [.int (x')], μ', 0, 0))))))) := (q_run_eq [7, 15, 26, 33, 42, 56, 77] 90 _).symm
theorem g_M_row_15 {L d : Nat} {rt : Value → q_Mem → Nat → Nat → Prop} {I : Nat → Nat → Int32} {J : Nat → Nat → Int64} {t : Nat} {x1 : Int32} {x2 : Int32} {x3 : Int32} {xs0 : Int32} : q_X (q_W d) rt 145 (15, [some (.ref 130), some (.int x1), some (.int x2), some (.int x3), none], [.int xs0], (q_mm L I J t), 0, 0) = (rt (.int xs0) (q_mm L I J t) 0 0) := (q_run_eq [7, 15, 26, 33, 42, 56, 77] 90 _).symm
theorem g_M_row_26 {L d : Nat} {rt : Value → q_Mem → Nat → Nat → Prop} {I : Nat → Nat → Int32} {J : Nat → Nat → Int64} {t : Nat} {x1 : Int32} {x2 : Int32} {x3 : Int32} {xs0 : Int32} : q_X (q_W d) rt 145 (26, [some (.ref 130), some (.int x1), some (.int x2), some (.int x3), none], [.int xs0], (q_mm L I J t), 0, 0) = (rt (.int xs0) (q_mm L I J t) 0 0) := (q_run_eq [7, 15, 26, 33, 42, 56, 77] 90 _).symm
theorem g_M_row_33 {L d : Nat} {rt : Value → q_Mem → Nat → Nat → Prop} {I : Nat → Nat → Int32} {J : Nat → Nat → Int64} {t : Nat} {x1 : Int32} {x2 : Int32} {x3 : Int32} {xs0 : Int32} : q_X (q_W d) rt 145 (33, [some (.ref 130), some (.int x1), some (.int x2), some (.int x3), none], [.int xs0], (q_mm L I J t), 0, 0) = (((xs0 = 0) → (q_W d 133 [.ref 130, .int (-6 : Int32)] (q_mm L I J t) (fun v μ' => q_onI False v fun x' => q_X (q_W d) rt 145 (42, [some (.ref 130), some (.int x1), some (.int x2), some (.int x3), none], [.int (x')], μ', 0, 0)))) ∧ (¬ (xs0 = 0) → (((x3 ≤ (160 : Int32)) → ((¬ (x1 < 0 ∨ 8 ≤ x1.toNatClampNeg)) ∧ ((¬ (x1 < 0 ∨ 8 ≤ x1.toNatClampNeg)) ∧ (q_X (q_W d) rt 145 (77, [some (.ref 130), some (.int x1), some (.int x2), some (.int x3), some (.int (0 : Int32))], [], (q_mm L (q_u (q_u I 133 x1.toNatClampNeg ((100 : Int32) + x2)) 134 x1.toNatClampNeg x3) J t), 0, 0))))) ∧ (¬ (x3 ≤ (160 : Int32)) → (q_W d 133 [.ref 130, .int (-7 : Int32)] (q_mm L I J t) (fun v μ' => q_onI False v fun x' => q_X (q_W d) rt 145 (56, [some (.ref 130), some (.int x1), some (.int x2), some (.int x3), none], [.int (x')], μ', 0, 0))))))) := (q_run_eq [7, 15, 26, 33, 42, 56, 77] 90 _).symm
theorem g_M_row_42 {L d : Nat} {rt : Value → q_Mem → Nat → Nat → Prop} {I : Nat → Nat → Int32} {J : Nat → Nat → Int64} {t : Nat} {x1 : Int32} {x2 : Int32} {x3 : Int32} {xs0 : Int32} : q_X (q_W d) rt 145 (42, [some (.ref 130), some (.int x1), some (.int x2), some (.int x3), none], [.int xs0], (q_mm L I J t), 0, 0) = (rt (.int xs0) (q_mm L I J t) 0 0) := (q_run_eq [7, 15, 26, 33, 42, 56, 77] 90 _).symm
theorem g_M_row_56 {L d : Nat} {rt : Value → q_Mem → Nat → Nat → Prop} {I : Nat → Nat → Int32} {J : Nat → Nat → Int64} {t : Nat} {x1 : Int32} {x2 : Int32} {x3 : Int32} {xs0 : Int32} : q_X (q_W d) rt 145 (56, [some (.ref 130), some (.int x1), some (.int x2), some (.int x3), none], [.int xs0], (q_mm L I J t), 0, 0) = (rt (.int xs0) (q_mm L I J t) 0 0) := (q_run_eq [7, 15, 26, 33, 42, 56, 77] 90 _).symm
theorem g_M_row_77 {L d : Nat} {rt : Value → q_Mem → Nat → Nat → Prop} {I : Nat → Nat → Int32} {J : Nat → Nat → Int64} {t : Nat} {x1 : Int32} {x2 : Int32} {x3 : Int32} {x4 : Int32} : q_X (q_W d) rt 145 (77, [some (.ref 130), some (.int x1), some (.int x2), some (.int x3), some (.int x4)], [], (q_mm L I J t), 0, 0) = ((((160 : Int32) ≤ x4) → (rt (.int (1 : Int32)) (q_mm L I J t) 0 0)) ∧ (¬ ((160 : Int32) ≤ x4) → ((¬ ((((160 : Int32) * x1) + x4) < 0 ∨ 1280 ≤ (((160 : Int32) * x1) + x4).toNatClampNeg)) ∧ (q_X (q_W d) rt 145 (77, [some (.ref 130), some (.int x1), some (.int x2), some (.int x3), some (.int (x4 + (1 : Int32)))], [], (q_mm L I (q_u8 J 135 (((160 : Int32) * x1) + x4).toNatClampNeg (0 : Int64)) t), 0, 0))))) := (q_run_eq [7, 15, 26, 33, 42, 56, 77] 90 _).symm
theorem g_Plug_strengthByKind_e {L d : Nat} {rt : Value → q_Mem → Nat → Nat → Prop} {I : Nat → Nat → Int32} {J : Nat → Nat → Int64} {t : Nat} {o0 : Nat} : q_X (q_W d) rt 42 (0, [some (.ref o0), none, none], [], (q_mm L I J t), 0, 0) = (q_onB False (q_isO (q_SH L) o0 5) (q_onB False (q_isO (q_SH L) o0 5) (q_W d 222 [.int (I o0 3)] (q_mm L I J t) (fun v μ' => q_onI False v fun x' => q_X (q_W d) rt 42 (11, [some (.ref o0), none, none], [.int (x'), .int (I o0 1)], μ', 0, 0))))) := (q_run_eq [11] 90 _).symm
theorem g_Plug_strengthByKind_11 {L d : Nat} {rt : Value → q_Mem → Nat → Nat → Prop} {I : Nat → Nat → Int32} {J : Nat → Nat → Int64} {t : Nat} {o0 : Nat} {xs0 : Int32} {xs1 : Int32} : q_X (q_W d) rt 42 (11, [some (.ref o0), none, none], [.int xs0, .int xs1], (q_mm L I J t), 0, 0) = (q_onB False (q_isO (q_SH L) o0 5) (q_onB False (q_isO (q_SH L) o0 5) ((((I o0 0).toInt = 1) → (rt (.int (xs1 + xs0)) (q_mm L I J t) 0 0)) ∧ (¬ ((I o0 0).toInt = 1) → ((((I o0 0).toInt = 2) → (rt (.int (if (I o0 1) < (5 : Int32) then (5 : Int32) else (I o0 1))) (q_mm L I J t) 0 0)) ∧ (¬ ((I o0 0).toInt = 2) → ((((I o0 0).toInt = 3) → (rt (.int ((2 : Int32) * (xs1 + xs0))) (q_mm L I J t) 0 0)) ∧ (¬ ((I o0 0).toInt = 3) → ((((I o0 0).toInt = 4) → (rt (.int ((if (I o0 1) < (5 : Int32) then (5 : Int32) else (I o0 1)) + (1 : Int32))) (q_mm L I J t) 0 0)) ∧ (¬ ((I o0 0).toInt = 4) → (q_onB False (q_isO (q_SH L) o0 5) (rt (.int (I o0 1)) (q_mm L I J t) 0 0)))))))))))) := (q_run_eq [11] 90 _).symm
theorem g_Firing_restFirst_86_e {L d : Nat} {rt : Value → q_Mem → Nat → Nat → Prop} {I : Nat → Nat → Int32} {J : Nat → Nat → Int64} {t : Nat} {x1 : Int32} {o2 : Nat} {x3 : Int32} : q_X (q_W d) rt 14 (0, [some (.ref 86), some (.int x1), some (.ref o2), some (.int x3), none], [], (q_mm L I J t), 0, 0) = (q_W d 13 [.ref o2, .int x3] (q_mm L I J t) (fun v μ' => q_onI False v fun x' => q_X (q_W d) rt 14 (9, [some (.ref 86), some (.int x1), some (.ref o2), some (.int x3), none], [.int (x'), .int (x1 + (1 : Int32)), .ref 86], μ', 0, 0))) := (q_run_eq [9, 12, 109] 90 _).symm
theorem g_Firing_restFirst_86_9 {L d : Nat} {rt : Value → q_Mem → Nat → Nat → Prop} {I : Nat → Nat → Int32} {J : Nat → Nat → Int64} {t : Nat} {x1 : Int32} {o2 : Nat} {x3 : Int32} {xs0 : Int32} {xs1 : Int32} : q_X (q_W d) rt 14 (9, [some (.ref 86), some (.int x1), some (.ref o2), some (.int x3), none], [.int xs0, .int xs1, .ref 86], (q_mm L I J t), 0, 0) = (q_W d 10 [.ref 86, .int xs1, .int xs0] (q_mm L I J t) (fun v μ' => q_onI False v fun x' => q_X (q_W d) rt 14 (12, [some (.ref 86), some (.int x1), some (.ref o2), some (.int x3), none], [.int (x')], μ', 0, 0))) := (q_run_eq [9, 12, 109] 90 _).symm
theorem g_Firing_restFirst_86_12 {L d : Nat} {rt : Value → q_Mem → Nat → Nat → Prop} {I : Nat → Nat → Int32} {J : Nat → Nat → Int64} {t : Nat} {x1 : Int32} {o2 : Nat} {x3 : Int32} {xs0 : Int32} : q_X (q_W d) rt 14 (12, [some (.ref 86), some (.int x1), some (.ref o2), some (.int x3), none], [.int xs0], (q_mm L I J t), 0, 0) = ((((I 86 3) = (1 : Int32)) → (q_onB False (q_isO (q_SH L) o2 2) ((((I o2 3) = (8 : Int32)) → (q_onB False (q_isO (q_SH L) o2 2) (rt (.int (xs0 + ((q_u I 86 3 (0 : Int32)) o2 4))) (q_mm L (q_u I 86 3 (0 : Int32)) J t) 0 0))) ∧ (¬ ((I o2 3) = (8 : Int32)) → ((((I 86 3) = 0) → (q_onB False (q_isO (q_SH L) o2 2) ((((I o2 3).toInt = 1) → (q_onB False (q_isO (q_SH L) o2 2) (rt (.int (xs0 * (I o2 4))) (q_mm L I J t) 0 0))) ∧ (¬ ((I o2 3).toInt = 1) → ((((I o2 3).toInt = 2) → (q_W d 10 [.ref 86, .int (x1 + (1 : Int32)), .int xs0] (q_mm L I J t) (fun v μ' => q_onI False v fun x' => q_X (q_W d) rt 14 (109, [some (.ref 86), some (.int x1), some (.ref o2), some (.int x3), some (.int xs0)], [.int (x')], μ', 0, 0)))) ∧ (¬ ((I o2 3).toInt = 2) → ((((I o2 3).toInt = 3) → (rt (.int xs0) (q_mm L I J t) 0 0)) ∧ (¬ ((I o2 3).toInt = 3) → ((((I o2 3).toInt = 4) → (q_onB False (q_isO (q_SH L) o2 2) (rt (.int (xs0 ^^^ (I o2 4))) (q_mm L I J t) 0 0))) ∧ (¬ ((I o2 3).toInt = 4) → ((((I o2 3).toInt = 5) → (rt (.int (xs0 + (I 86 5))) (q_mm L I J t) 0 0)) ∧ (¬ ((I o2 3).toInt = 5) → (rt (.int xs0) (q_mm L I J t) 0 0))))))))))))) ∧ (¬ ((I 86 3) = 0) → (rt (.int xs0) (q_mm L I J t) 0 0))))))) ∧ (¬ ((I 86 3) = (1 : Int32)) → ((((I 86 3) = 0) → (q_onB False (q_isO (q_SH L) o2 2) ((((I o2 3).toInt = 1) → (q_onB False (q_isO (q_SH L) o2 2) (rt (.int (xs0 * (I o2 4))) (q_mm L I J t) 0 0))) ∧ (¬ ((I o2 3).toInt = 1) → ((((I o2 3).toInt = 2) → (q_W d 10 [.ref 86, .int (x1 + (1 : Int32)), .int xs0] (q_mm L I J t) (fun v μ' => q_onI False v fun x' => q_X (q_W d) rt 14 (109, [some (.ref 86), some (.int x1), some (.ref o2), some (.int x3), some (.int xs0)], [.int (x')], μ', 0, 0)))) ∧ (¬ ((I o2 3).toInt = 2) → ((((I o2 3).toInt = 3) → (rt (.int xs0) (q_mm L I J t) 0 0)) ∧ (¬ ((I o2 3).toInt = 3) → ((((I o2 3).toInt = 4) → (q_onB False (q_isO (q_SH L) o2 2) (rt (.int (xs0 ^^^ (I o2 4))) (q_mm L I J t) 0 0))) ∧ (¬ ((I o2 3).toInt = 4) → ((((I o2 3).toInt = 5) → (rt (.int (xs0 + (I 86 5))) (q_mm L I J t) 0 0)) ∧ (¬ ((I o2 3).toInt = 5) → (rt (.int xs0) (q_mm L I J t) 0 0))))))))))))) ∧ (¬ ((I 86 3) = 0) → (rt (.int xs0) (q_mm L I J t) 0 0))))) := (q_run_eq [9, 12, 109] 90 _).symm
theorem g_Firing_restFirst_86_109 {L d : Nat} {rt : Value → q_Mem → Nat → Nat → Prop} {I : Nat → Nat → Int32} {J : Nat → Nat → Int64} {t : Nat} {x1 : Int32} {o2 : Nat} {x3 : Int32} {x4 : Int32} {xs0 : Int32} : q_X (q_W d) rt 14 (109, [some (.ref 86), some (.int x1), some (.ref o2), some (.int x3), some (.int x4)], [.int xs0], (q_mm L I J t), 0, 0) = (rt (.int xs0) (q_mm L I J t) 0 0) := (q_run_eq [9, 12, 109] 90 _).symm
theorem g_Firing_restFirst_90_e {L d : Nat} {rt : Value → q_Mem → Nat → Nat → Prop} {I : Nat → Nat → Int32} {J : Nat → Nat → Int64} {t : Nat} {x1 : Int32} {o2 : Nat} {x3 : Int32} : q_X (q_W d) rt 14 (0, [some (.ref 90), some (.int x1), some (.ref o2), some (.int x3), none], [], (q_mm L I J t), 0, 0) = (q_W d 13 [.ref o2, .int x3] (q_mm L I J t) (fun v μ' => q_onI False v fun x' => q_X (q_W d) rt 14 (9, [some (.ref 90), some (.int x1), some (.ref o2), some (.int x3), none], [.int (x'), .int (x1 + (1 : Int32)), .ref 90], μ', 0, 0))) := (q_run_eq [9, 12, 109] 90 _).symm
theorem g_Firing_restFirst_90_9 {L d : Nat} {rt : Value → q_Mem → Nat → Nat → Prop} {I : Nat → Nat → Int32} {J : Nat → Nat → Int64} {t : Nat} {x1 : Int32} {o2 : Nat} {x3 : Int32} {xs0 : Int32} {xs1 : Int32} : q_X (q_W d) rt 14 (9, [some (.ref 90), some (.int x1), some (.ref o2), some (.int x3), none], [.int xs0, .int xs1, .ref 90], (q_mm L I J t), 0, 0) = (q_W d 10 [.ref 90, .int xs1, .int xs0] (q_mm L I J t) (fun v μ' => q_onI False v fun x' => q_X (q_W d) rt 14 (12, [some (.ref 90), some (.int x1), some (.ref o2), some (.int x3), none], [.int (x')], μ', 0, 0))) := (q_run_eq [9, 12, 109] 90 _).symm
theorem g_Firing_restFirst_90_12 {L d : Nat} {rt : Value → q_Mem → Nat → Nat → Prop} {I : Nat → Nat → Int32} {J : Nat → Nat → Int64} {t : Nat} {x1 : Int32} {o2 : Nat} {x3 : Int32} {xs0 : Int32} : q_X (q_W d) rt 14 (12, [some (.ref 90), some (.int x1), some (.ref o2), some (.int x3), none], [.int xs0], (q_mm L I J t), 0, 0) = ((((I 90 3) = (1 : Int32)) → (q_onB False (q_isO (q_SH L) o2 2) ((((I o2 3) = (8 : Int32)) → (q_onB False (q_isO (q_SH L) o2 2) (rt (.int (xs0 + ((q_u I 90 3 (0 : Int32)) o2 4))) (q_mm L (q_u I 90 3 (0 : Int32)) J t) 0 0))) ∧ (¬ ((I o2 3) = (8 : Int32)) → ((((I 90 3) = 0) → (q_onB False (q_isO (q_SH L) o2 2) ((((I o2 3).toInt = 1) → (q_onB False (q_isO (q_SH L) o2 2) (rt (.int (xs0 * (I o2 4))) (q_mm L I J t) 0 0))) ∧ (¬ ((I o2 3).toInt = 1) → ((((I o2 3).toInt = 2) → (q_W d 10 [.ref 90, .int (x1 + (1 : Int32)), .int xs0] (q_mm L I J t) (fun v μ' => q_onI False v fun x' => q_X (q_W d) rt 14 (109, [some (.ref 90), some (.int x1), some (.ref o2), some (.int x3), some (.int xs0)], [.int (x')], μ', 0, 0)))) ∧ (¬ ((I o2 3).toInt = 2) → ((((I o2 3).toInt = 3) → (rt (.int xs0) (q_mm L I J t) 0 0)) ∧ (¬ ((I o2 3).toInt = 3) → ((((I o2 3).toInt = 4) → (q_onB False (q_isO (q_SH L) o2 2) (rt (.int (xs0 ^^^ (I o2 4))) (q_mm L I J t) 0 0))) ∧ (¬ ((I o2 3).toInt = 4) → ((((I o2 3).toInt = 5) → (rt (.int (xs0 + (I 90 5))) (q_mm L I J t) 0 0)) ∧ (¬ ((I o2 3).toInt = 5) → (rt (.int xs0) (q_mm L I J t) 0 0))))))))))))) ∧ (¬ ((I 90 3) = 0) → (rt (.int xs0) (q_mm L I J t) 0 0))))))) ∧ (¬ ((I 90 3) = (1 : Int32)) → ((((I 90 3) = 0) → (q_onB False (q_isO (q_SH L) o2 2) ((((I o2 3).toInt = 1) → (q_onB False (q_isO (q_SH L) o2 2) (rt (.int (xs0 * (I o2 4))) (q_mm L I J t) 0 0))) ∧ (¬ ((I o2 3).toInt = 1) → ((((I o2 3).toInt = 2) → (q_W d 10 [.ref 90, .int (x1 + (1 : Int32)), .int xs0] (q_mm L I J t) (fun v μ' => q_onI False v fun x' => q_X (q_W d) rt 14 (109, [some (.ref 90), some (.int x1), some (.ref o2), some (.int x3), some (.int xs0)], [.int (x')], μ', 0, 0)))) ∧ (¬ ((I o2 3).toInt = 2) → ((((I o2 3).toInt = 3) → (rt (.int xs0) (q_mm L I J t) 0 0)) ∧ (¬ ((I o2 3).toInt = 3) → ((((I o2 3).toInt = 4) → (q_onB False (q_isO (q_SH L) o2 2) (rt (.int (xs0 ^^^ (I o2 4))) (q_mm L I J t) 0 0))) ∧ (¬ ((I o2 3).toInt = 4) → ((((I o2 3).toInt = 5) → (rt (.int (xs0 + (I 90 5))) (q_mm L I J t) 0 0)) ∧ (¬ ((I o2 3).toInt = 5) → (rt (.int xs0) (q_mm L I J t) 0 0))))))))))))) ∧ (¬ ((I 90 3) = 0) → (rt (.int xs0) (q_mm L I J t) 0 0))))) := (q_run_eq [9, 12, 109] 90 _).symm
theorem g_Firing_restFirst_90_109 {L d : Nat} {rt : Value → q_Mem → Nat → Nat → Prop} {I : Nat → Nat → Int32} {J : Nat → Nat → Int64} {t : Nat} {x1 : Int32} {o2 : Nat} {x3 : Int32} {x4 : Int32} {xs0 : Int32} : q_X (q_W d) rt 14 (109, [some (.ref 90), some (.int x1), some (.ref o2), some (.int x3), some (.int x4)], [.int xs0], (q_mm L I J t), 0, 0) = (rt (.int xs0) (q_mm L I J t) 0 0) := (q_run_eq [9, 12, 109] 90 _).symm
end
