section
-- ===== PART A: goes FIRST, ahead of the names: the tables' words, and 'selects' of the private methods out of them =====
/-- a private method of a class that the tables say can be made, by its rows of tables_1 -/
def lw_okq (q : MethodName × Nat) : Prop := (q.1.cls ≠ "java/lang/invoke/MethodHandle" ∧ q.1.cls ≠ "java/lang/invoke/VarHandle") ∧ Cond.instantiable q.1.cls q.2 ∈ tables_1 ∧ Cond.privateMethod q.1 ∈ tables_1 ∧ Cond.instanceMethod q.1 ∈ tables_1
theorem lw_p0 : lw_okq (⟨"LatticeVault", "rowOf", "(I)LLatticeVault$Row;"⟩, 13) := ⟨⟨by decide +kernel, by decide +kernel⟩, List.mem_of_getElem? (i := 16) (by decide +kernel), List.mem_of_getElem? (i := 187) (by decide +kernel), List.mem_of_getElem? (i := 188) (by decide +kernel)⟩
theorem lw_p1 : lw_okq (⟨"LatticeVault$Sponge", "mixIn", "(II)V"⟩, 4) := ⟨⟨by decide +kernel, by decide +kernel⟩, List.mem_of_getElem? (i := 46) (by decide +kernel), List.mem_of_getElem? (i := 265) (by decide +kernel), List.mem_of_getElem? (i := 266) (by decide +kernel)⟩
theorem lw_p2 : lw_okq (⟨"LatticeVault$Sponge", "doRounds", "()V"⟩, 4) := ⟨⟨by decide +kernel, by decide +kernel⟩, List.mem_of_getElem? (i := 46) (by decide +kernel), List.mem_of_getElem? (i := 269) (by decide +kernel), List.mem_of_getElem? (i := 270) (by decide +kernel)⟩
theorem lw_p3 : lw_okq (⟨"LatticeVault$Locksmith", "tellSeeds", "()V"⟩, 9) := ⟨⟨by decide +kernel, by decide +kernel⟩, List.mem_of_getElem? (i := 76) (by decide +kernel), List.mem_of_getElem? (i := 281) (by decide +kernel), List.mem_of_getElem? (i := 282) (by decide +kernel)⟩
theorem lw_p4 : lw_okq (⟨"LatticeVault$Locksmith", "drawVector", "(LLatticeVault$ParameterSet;)V"⟩, 9) := ⟨⟨by decide +kernel, by decide +kernel⟩, List.mem_of_getElem? (i := 76) (by decide +kernel), List.mem_of_getElem? (i := 299) (by decide +kernel), List.mem_of_getElem? (i := 300) (by decide +kernel)⟩
theorem lw_p5 : lw_okq (⟨"LatticeVault$Locksmith", "addProduct", "([I)V"⟩, 9) := ⟨⟨by decide +kernel, by decide +kernel⟩, List.mem_of_getElem? (i := 76) (by decide +kernel), List.mem_of_getElem? (i := 343) (by decide +kernel), List.mem_of_getElem? (i := 344) (by decide +kernel)⟩
theorem lw_p6 : lw_okq (⟨"LatticeVault$Locksmith", "tellDigest", "(LLatticeVault$Row;II)V"⟩, 9) := ⟨⟨by decide +kernel, by decide +kernel⟩, List.mem_of_getElem? (i := 76) (by decide +kernel), List.mem_of_getElem? (i := 366) (by decide +kernel), List.mem_of_getElem? (i := 367) (by decide +kernel)⟩
theorem lw_p7 : lw_okq (⟨"LatticeVault", "checkTapeAs", "(I)I"⟩, 13) := ⟨⟨by decide +kernel, by decide +kernel⟩, List.mem_of_getElem? (i := 16) (by decide +kernel), List.mem_of_getElem? (i := 380) (by decide +kernel), List.mem_of_getElem? (i := 381) (by decide +kernel)⟩
theorem lw_p8 : lw_okq (⟨"LatticeVault$Locksmith", "seedFromMessage", "(LLatticeVault$Row;I)V"⟩, 9) := ⟨⟨by decide +kernel, by decide +kernel⟩, List.mem_of_getElem? (i := 76) (by decide +kernel), List.mem_of_getElem? (i := 415) (by decide +kernel), List.mem_of_getElem? (i := 416) (by decide +kernel)⟩
theorem lw_p9 : lw_okq (⟨"LatticeVault$Locksmith", "packCompressed", "(I)V"⟩, 9) := ⟨⟨by decide +kernel, by decide +kernel⟩, List.mem_of_getElem? (i := 76) (by decide +kernel), List.mem_of_getElem? (i := 432) (by decide +kernel), List.mem_of_getElem? (i := 433) (by decide +kernel)⟩
theorem lw_p10 : lw_okq (⟨"LatticeVault$Locksmith", "lockLast", "(LLatticeVault$ParameterSet;LLatticeVault$Row;I)V"⟩, 9) := ⟨⟨by decide +kernel, by decide +kernel⟩, List.mem_of_getElem? (i := 76) (by decide +kernel), List.mem_of_getElem? (i := 439) (by decide +kernel), List.mem_of_getElem? (i := 440) (by decide +kernel)⟩
theorem lw_p11 : lw_okq (⟨"LatticeVaultModel", "turns", "()V"⟩, 19) := ⟨⟨by decide +kernel, by decide +kernel⟩, List.mem_of_getElem? (i := 551) (by decide +kernel), List.mem_of_getElem? (i := 557) (by decide +kernel), List.mem_of_getElem? (i := 558) (by decide +kernel)⟩
theorem lw_p12 : lw_okq (⟨"LatticeVaultModel", "constants", "()V"⟩, 19) := ⟨⟨by decide +kernel, by decide +kernel⟩, List.mem_of_getElem? (i := 551) (by decide +kernel), List.mem_of_getElem? (i := 564) (by decide +kernel), List.mem_of_getElem? (i := 565) (by decide +kernel)⟩
theorem lw_p13 : lw_okq (⟨"LatticeVaultModel", "powers", "()V"⟩, 19) := ⟨⟨by decide +kernel, by decide +kernel⟩, List.mem_of_getElem? (i := 551) (by decide +kernel), List.mem_of_getElem? (i := 568) (by decide +kernel), List.mem_of_getElem? (i := 569) (by decide +kernel)⟩
theorem lw_p14 : lw_okq (⟨"LatticeVaultModel", "copy", "(III)V"⟩, 19) := ⟨⟨by decide +kernel, by decide +kernel⟩, List.mem_of_getElem? (i := 551) (by decide +kernel), List.mem_of_getElem? (i := 647) (by decide +kernel), List.mem_of_getElem? (i := 648) (by decide +kernel)⟩
theorem lw_p15 : lw_okq (⟨"LatticeVaultModel", "ekBytes", "()I"⟩, 19) := ⟨⟨by decide +kernel, by decide +kernel⟩, List.mem_of_getElem? (i := 551) (by decide +kernel), List.mem_of_getElem? (i := 659) (by decide +kernel), List.mem_of_getElem? (i := 660) (by decide +kernel)⟩
def lw_privs_1 : List (MethodName × Nat) := [(⟨"LatticeVault", "rowOf", "(I)LLatticeVault$Row;"⟩, 13), (⟨"LatticeVault$Sponge", "mixIn", "(II)V"⟩, 4), (⟨"LatticeVault$Sponge", "doRounds", "()V"⟩, 4), (⟨"LatticeVault$Locksmith", "tellSeeds", "()V"⟩, 9), (⟨"LatticeVault$Locksmith", "drawVector", "(LLatticeVault$ParameterSet;)V"⟩, 9), (⟨"LatticeVault$Locksmith", "addProduct", "([I)V"⟩, 9), (⟨"LatticeVault$Locksmith", "tellDigest", "(LLatticeVault$Row;II)V"⟩, 9), (⟨"LatticeVault", "checkTapeAs", "(I)I"⟩, 13), (⟨"LatticeVault$Locksmith", "seedFromMessage", "(LLatticeVault$Row;I)V"⟩, 9), (⟨"LatticeVault$Locksmith", "packCompressed", "(I)V"⟩, 9), (⟨"LatticeVault$Locksmith", "lockLast", "(LLatticeVault$ParameterSet;LLatticeVault$Row;I)V"⟩, 9), (⟨"LatticeVaultModel", "turns", "()V"⟩, 19), (⟨"LatticeVaultModel", "constants", "()V"⟩, 19), (⟨"LatticeVaultModel", "powers", "()V"⟩, 19), (⟨"LatticeVaultModel", "copy", "(III)V"⟩, 19), (⟨"LatticeVaultModel", "ekBytes", "()I"⟩, 19)]
theorem lw_r1 : ∀ q ∈ lw_privs_1, lw_okq q := List.forall_mem_cons.mpr ⟨lw_p0, List.forall_mem_cons.mpr ⟨lw_p1, List.forall_mem_cons.mpr ⟨lw_p2, List.forall_mem_cons.mpr ⟨lw_p3, List.forall_mem_cons.mpr ⟨lw_p4, List.forall_mem_cons.mpr ⟨lw_p5, List.forall_mem_cons.mpr ⟨lw_p6, List.forall_mem_cons.mpr ⟨lw_p7, List.forall_mem_cons.mpr ⟨lw_p8, List.forall_mem_cons.mpr ⟨lw_p9, List.forall_mem_cons.mpr ⟨lw_p10, List.forall_mem_cons.mpr ⟨lw_p11, List.forall_mem_cons.mpr ⟨lw_p12, List.forall_mem_cons.mpr ⟨lw_p13, List.forall_mem_cons.mpr ⟨lw_p14, List.forall_mem_cons.mpr ⟨lw_p15, fun _ h => absurd h List.not_mem_nil⟩⟩⟩⟩⟩⟩⟩⟩⟩⟩⟩⟩⟩⟩⟩⟩
theorem lw_p16 : lw_okq (⟨"LatticeVaultModel", "byteAt", "(I)I"⟩, 19) := ⟨⟨by decide +kernel, by decide +kernel⟩, List.mem_of_getElem? (i := 551) (by decide +kernel), List.mem_of_getElem? (i := 672) (by decide +kernel), List.mem_of_getElem? (i := 673) (by decide +kernel)⟩
theorem lw_p17 : lw_okq (⟨"LatticeVaultModel", "used", "()I"⟩, 19) := ⟨⟨by decide +kernel, by decide +kernel⟩, List.mem_of_getElem? (i := 551) (by decide +kernel), List.mem_of_getElem? (i := 680) (by decide +kernel), List.mem_of_getElem? (i := 681) (by decide +kernel)⟩
theorem lw_p18 : lw_okq (⟨"LatticeVaultModel", "made", "()Z"⟩, 19) := ⟨⟨by decide +kernel, by decide +kernel⟩, List.mem_of_getElem? (i := 551) (by decide +kernel), List.mem_of_getElem? (i := 684) (by decide +kernel), List.mem_of_getElem? (i := 685) (by decide +kernel)⟩
theorem lw_p19 : lw_okq (⟨"LatticeVaultModel", "g", "(I)V"⟩, 19) := ⟨⟨by decide +kernel, by decide +kernel⟩, List.mem_of_getElem? (i := 551) (by decide +kernel), List.mem_of_getElem? (i := 688) (by decide +kernel), List.mem_of_getElem? (i := 689) (by decide +kernel)⟩
theorem lw_p20 : lw_okq (⟨"LatticeVaultModel", "absorb", "(IIIZ)V"⟩, 19) := ⟨⟨by decide +kernel, by decide +kernel⟩, List.mem_of_getElem? (i := 551) (by decide +kernel), List.mem_of_getElem? (i := 692) (by decide +kernel), List.mem_of_getElem? (i := 693) (by decide +kernel)⟩
theorem lw_p21 : lw_okq (⟨"LatticeVaultModel", "takes", "(I)V"⟩, 19) := ⟨⟨by decide +kernel, by decide +kernel⟩, List.mem_of_getElem? (i := 551) (by decide +kernel), List.mem_of_getElem? (i := 696) (by decide +kernel), List.mem_of_getElem? (i := 697) (by decide +kernel)⟩
theorem lw_p22 : lw_okq (⟨"LatticeVaultModel", "rounds", "()V"⟩, 19) := ⟨⟨by decide +kernel, by decide +kernel⟩, List.mem_of_getElem? (i := 551) (by decide +kernel), List.mem_of_getElem? (i := 700) (by decide +kernel), List.mem_of_getElem? (i := 701) (by decide +kernel)⟩
theorem lw_p23 : lw_okq (⟨"LatticeVaultModel", "round", "(I)V"⟩, 19) := ⟨⟨by decide +kernel, by decide +kernel⟩, List.mem_of_getElem? (i := 551) (by decide +kernel), List.mem_of_getElem? (i := 704) (by decide +kernel), List.mem_of_getElem? (i := 705) (by decide +kernel)⟩
theorem lw_p24 : lw_okq (⟨"LatticeVaultModel", "theta", "()V"⟩, 19) := ⟨⟨by decide +kernel, by decide +kernel⟩, List.mem_of_getElem? (i := 551) (by decide +kernel), List.mem_of_getElem? (i := 708) (by decide +kernel), List.mem_of_getElem? (i := 709) (by decide +kernel)⟩
theorem lw_p25 : lw_okq (⟨"LatticeVaultModel", "tells", "(II)V"⟩, 19) := ⟨⟨by decide +kernel, by decide +kernel⟩, List.mem_of_getElem? (i := 551) (by decide +kernel), List.mem_of_getElem? (i := 712) (by decide +kernel), List.mem_of_getElem? (i := 713) (by decide +kernel)⟩
theorem lw_p26 : lw_okq (⟨"LatticeVaultModel", "told", "()I"⟩, 19) := ⟨⟨by decide +kernel, by decide +kernel⟩, List.mem_of_getElem? (i := 551) (by decide +kernel), List.mem_of_getElem? (i := 716) (by decide +kernel), List.mem_of_getElem? (i := 717) (by decide +kernel)⟩
theorem lw_p27 : lw_okq (⟨"LatticeVaultModel", "eta1", "()I"⟩, 19) := ⟨⟨by decide +kernel, by decide +kernel⟩, List.mem_of_getElem? (i := 551) (by decide +kernel), List.mem_of_getElem? (i := 720) (by decide +kernel), List.mem_of_getElem? (i := 721) (by decide +kernel)⟩
theorem lw_p28 : lw_okq (⟨"LatticeVaultModel", "noised", "(IIII)V"⟩, 19) := ⟨⟨by decide +kernel, by decide +kernel⟩, List.mem_of_getElem? (i := 551) (by decide +kernel), List.mem_of_getElem? (i := 724) (by decide +kernel), List.mem_of_getElem? (i := 725) (by decide +kernel)⟩
theorem lw_p29 : lw_okq (⟨"LatticeVaultModel", "bringForward", "(I)V"⟩, 19) := ⟨⟨by decide +kernel, by decide +kernel⟩, List.mem_of_getElem? (i := 551) (by decide +kernel), List.mem_of_getElem? (i := 732) (by decide +kernel), List.mem_of_getElem? (i := 733) (by decide +kernel)⟩
theorem lw_p30 : lw_okq (⟨"LatticeVaultModel", "copyPol", "(II)V"⟩, 19) := ⟨⟨by decide +kernel, by decide +kernel⟩, List.mem_of_getElem? (i := 551) (by decide +kernel), List.mem_of_getElem? (i := 736) (by decide +kernel), List.mem_of_getElem? (i := 737) (by decide +kernel)⟩
theorem lw_p31 : lw_okq (⟨"LatticeVaultModel", "matrix", "(IIII)I"⟩, 19) := ⟨⟨by decide +kernel, by decide +kernel⟩, List.mem_of_getElem? (i := 551) (by decide +kernel), List.mem_of_getElem? (i := 740) (by decide +kernel), List.mem_of_getElem? (i := 741) (by decide +kernel)⟩
def lw_privs_2 : List (MethodName × Nat) := [(⟨"LatticeVaultModel", "byteAt", "(I)I"⟩, 19), (⟨"LatticeVaultModel", "used", "()I"⟩, 19), (⟨"LatticeVaultModel", "made", "()Z"⟩, 19), (⟨"LatticeVaultModel", "g", "(I)V"⟩, 19), (⟨"LatticeVaultModel", "absorb", "(IIIZ)V"⟩, 19), (⟨"LatticeVaultModel", "takes", "(I)V"⟩, 19), (⟨"LatticeVaultModel", "rounds", "()V"⟩, 19), (⟨"LatticeVaultModel", "round", "(I)V"⟩, 19), (⟨"LatticeVaultModel", "theta", "()V"⟩, 19), (⟨"LatticeVaultModel", "tells", "(II)V"⟩, 19), (⟨"LatticeVaultModel", "told", "()I"⟩, 19), (⟨"LatticeVaultModel", "eta1", "()I"⟩, 19), (⟨"LatticeVaultModel", "noised", "(IIII)V"⟩, 19), (⟨"LatticeVaultModel", "bringForward", "(I)V"⟩, 19), (⟨"LatticeVaultModel", "copyPol", "(II)V"⟩, 19), (⟨"LatticeVaultModel", "matrix", "(IIII)I"⟩, 19)]
theorem lw_r2 : ∀ q ∈ lw_privs_2, lw_okq q := List.forall_mem_cons.mpr ⟨lw_p16, List.forall_mem_cons.mpr ⟨lw_p17, List.forall_mem_cons.mpr ⟨lw_p18, List.forall_mem_cons.mpr ⟨lw_p19, List.forall_mem_cons.mpr ⟨lw_p20, List.forall_mem_cons.mpr ⟨lw_p21, List.forall_mem_cons.mpr ⟨lw_p22, List.forall_mem_cons.mpr ⟨lw_p23, List.forall_mem_cons.mpr ⟨lw_p24, List.forall_mem_cons.mpr ⟨lw_p25, List.forall_mem_cons.mpr ⟨lw_p26, List.forall_mem_cons.mpr ⟨lw_p27, List.forall_mem_cons.mpr ⟨lw_p28, List.forall_mem_cons.mpr ⟨lw_p29, List.forall_mem_cons.mpr ⟨lw_p30, List.forall_mem_cons.mpr ⟨lw_p31, fun _ h => absurd h List.not_mem_nil⟩⟩⟩⟩⟩⟩⟩⟩⟩⟩⟩⟩⟩⟩⟩⟩
theorem lw_p32 : lw_okq (⟨"LatticeVaultModel", "sampled", "(I)I"⟩, 19) := ⟨⟨by decide +kernel, by decide +kernel⟩, List.mem_of_getElem? (i := 551) (by decide +kernel), List.mem_of_getElem? (i := 744) (by decide +kernel), List.mem_of_getElem? (i := 745) (by decide +kernel)⟩
theorem lw_p33 : lw_okq (⟨"LatticeVaultModel", "product", "(IIIZ)V"⟩, 19) := ⟨⟨by decide +kernel, by decide +kernel⟩, List.mem_of_getElem? (i := 551) (by decide +kernel), List.mem_of_getElem? (i := 748) (by decide +kernel), List.mem_of_getElem? (i := 749) (by decide +kernel)⟩
theorem lw_p34 : lw_okq (⟨"LatticeVaultModel", "written", "(III)V"⟩, 19) := ⟨⟨by decide +kernel, by decide +kernel⟩, List.mem_of_getElem? (i := 551) (by decide +kernel), List.mem_of_getElem? (i := 752) (by decide +kernel), List.mem_of_getElem? (i := 753) (by decide +kernel)⟩
theorem lw_p35 : lw_okq (⟨"LatticeVaultModel", "h", "(III)V"⟩, 19) := ⟨⟨by decide +kernel, by decide +kernel⟩, List.mem_of_getElem? (i := 551) (by decide +kernel), List.mem_of_getElem? (i := 756) (by decide +kernel), List.mem_of_getElem? (i := 757) (by decide +kernel)⟩
theorem lw_p36 : lw_okq (⟨"LatticeVaultModel", "textBytes", "()I"⟩, 19) := ⟨⟨by decide +kernel, by decide +kernel⟩, List.mem_of_getElem? (i := 551) (by decide +kernel), List.mem_of_getElem? (i := 764) (by decide +kernel), List.mem_of_getElem? (i := 765) (by decide +kernel)⟩
theorem lw_p37 : lw_okq (⟨"LatticeVaultModel", "du", "()I"⟩, 19) := ⟨⟨by decide +kernel, by decide +kernel⟩, List.mem_of_getElem? (i := 551) (by decide +kernel), List.mem_of_getElem? (i := 768) (by decide +kernel), List.mem_of_getElem? (i := 769) (by decide +kernel)⟩
theorem lw_p38 : lw_okq (⟨"LatticeVaultModel", "dv", "()I"⟩, 19) := ⟨⟨by decide +kernel, by decide +kernel⟩, List.mem_of_getElem? (i := 551) (by decide +kernel), List.mem_of_getElem? (i := 772) (by decide +kernel), List.mem_of_getElem? (i := 773) (by decide +kernel)⟩
theorem lw_p39 : lw_okq (⟨"LatticeVaultModel", "group", "(III)I"⟩, 19) := ⟨⟨by decide +kernel, by decide +kernel⟩, List.mem_of_getElem? (i := 551) (by decide +kernel), List.mem_of_getElem? (i := 776) (by decide +kernel), List.mem_of_getElem? (i := 777) (by decide +kernel)⟩
theorem lw_p40 : lw_okq (⟨"LatticeVaultModel", "locks", "(I)Z"⟩, 19) := ⟨⟨by decide +kernel, by decide +kernel⟩, List.mem_of_getElem? (i := 551) (by decide +kernel), List.mem_of_getElem? (i := 784) (by decide +kernel), List.mem_of_getElem? (i := 785) (by decide +kernel)⟩
theorem lw_p41 : lw_okq (⟨"LatticeVaultModel", "zero", "(I)V"⟩, 19) := ⟨⟨by decide +kernel, by decide +kernel⟩, List.mem_of_getElem? (i := 551) (by decide +kernel), List.mem_of_getElem? (i := 788) (by decide +kernel), List.mem_of_getElem? (i := 789) (by decide +kernel)⟩
theorem lw_p42 : lw_okq (⟨"LatticeVaultModel", "bringBack", "(I)V"⟩, 19) := ⟨⟨by decide +kernel, by decide +kernel⟩, List.mem_of_getElem? (i := 551) (by decide +kernel), List.mem_of_getElem? (i := 792) (by decide +kernel), List.mem_of_getElem? (i := 793) (by decide +kernel)⟩
theorem lw_p43 : lw_okq (⟨"LatticeVaultModel", "plus", "(III)V"⟩, 19) := ⟨⟨by decide +kernel, by decide +kernel⟩, List.mem_of_getElem? (i := 551) (by decide +kernel), List.mem_of_getElem? (i := 797) (by decide +kernel), List.mem_of_getElem? (i := 798) (by decide +kernel)⟩
theorem lw_p44 : lw_okq (⟨"LatticeVaultModel", "pressed", "(II)V"⟩, 19) := ⟨⟨by decide +kernel, by decide +kernel⟩, List.mem_of_getElem? (i := 551) (by decide +kernel), List.mem_of_getElem? (i := 801) (by decide +kernel), List.mem_of_getElem? (i := 802) (by decide +kernel)⟩
theorem lw_p45 : lw_okq (⟨"LatticeVaultModel", "readPol", "(III)V"⟩, 19) := ⟨⟨by decide +kernel, by decide +kernel⟩, List.mem_of_getElem? (i := 551) (by decide +kernel), List.mem_of_getElem? (i := 807) (by decide +kernel), List.mem_of_getElem? (i := 808) (by decide +kernel)⟩
theorem lw_p46 : lw_okq (⟨"LatticeVaultModel", "stretched", "(II)V"⟩, 19) := ⟨⟨by decide +kernel, by decide +kernel⟩, List.mem_of_getElem? (i := 551) (by decide +kernel), List.mem_of_getElem? (i := 811) (by decide +kernel), List.mem_of_getElem? (i := 812) (by decide +kernel)⟩
theorem lw_p47 : lw_okq (⟨"LatticeVaultModel", "unlocks", "(I)V"⟩, 19) := ⟨⟨by decide +kernel, by decide +kernel⟩, List.mem_of_getElem? (i := 551) (by decide +kernel), List.mem_of_getElem? (i := 819) (by decide +kernel), List.mem_of_getElem? (i := 820) (by decide +kernel)⟩
def lw_privs_3 : List (MethodName × Nat) := [(⟨"LatticeVaultModel", "sampled", "(I)I"⟩, 19), (⟨"LatticeVaultModel", "product", "(IIIZ)V"⟩, 19), (⟨"LatticeVaultModel", "written", "(III)V"⟩, 19), (⟨"LatticeVaultModel", "h", "(III)V"⟩, 19), (⟨"LatticeVaultModel", "textBytes", "()I"⟩, 19), (⟨"LatticeVaultModel", "du", "()I"⟩, 19), (⟨"LatticeVaultModel", "dv", "()I"⟩, 19), (⟨"LatticeVaultModel", "group", "(III)I"⟩, 19), (⟨"LatticeVaultModel", "locks", "(I)Z"⟩, 19), (⟨"LatticeVaultModel", "zero", "(I)V"⟩, 19), (⟨"LatticeVaultModel", "bringBack", "(I)V"⟩, 19), (⟨"LatticeVaultModel", "plus", "(III)V"⟩, 19), (⟨"LatticeVaultModel", "pressed", "(II)V"⟩, 19), (⟨"LatticeVaultModel", "readPol", "(III)V"⟩, 19), (⟨"LatticeVaultModel", "stretched", "(II)V"⟩, 19), (⟨"LatticeVaultModel", "unlocks", "(I)V"⟩, 19)]
theorem lw_r3 : ∀ q ∈ lw_privs_3, lw_okq q := List.forall_mem_cons.mpr ⟨lw_p32, List.forall_mem_cons.mpr ⟨lw_p33, List.forall_mem_cons.mpr ⟨lw_p34, List.forall_mem_cons.mpr ⟨lw_p35, List.forall_mem_cons.mpr ⟨lw_p36, List.forall_mem_cons.mpr ⟨lw_p37, List.forall_mem_cons.mpr ⟨lw_p38, List.forall_mem_cons.mpr ⟨lw_p39, List.forall_mem_cons.mpr ⟨lw_p40, List.forall_mem_cons.mpr ⟨lw_p41, List.forall_mem_cons.mpr ⟨lw_p42, List.forall_mem_cons.mpr ⟨lw_p43, List.forall_mem_cons.mpr ⟨lw_p44, List.forall_mem_cons.mpr ⟨lw_p45, List.forall_mem_cons.mpr ⟨lw_p46, List.forall_mem_cons.mpr ⟨lw_p47, fun _ h => absurd h List.not_mem_nil⟩⟩⟩⟩⟩⟩⟩⟩⟩⟩⟩⟩⟩⟩⟩⟩
def lw_privs : List (MethodName × Nat) := lw_privs_1 ++ (lw_privs_2 ++ (lw_privs_3))
def lw_tbl : List Cond := k2_sels lw_privs ++ tables_1
theorem lw_privs_ok : ∀ q ∈ lw_privs, lw_okq q := by
  show ∀ q ∈ lw_privs_1 ++ (lw_privs_2 ++ (lw_privs_3)), lw_okq q
  exact List.forall_mem_append.mpr ⟨lw_r1, List.forall_mem_append.mpr ⟨lw_r2, lw_r3⟩⟩
end
section
def RX0 : String := "LatticeVault$Codes"
def TX0 : u_T := fun k => match k with
  | _ => ("", "", "", false)
def tyX0 : Nat → FieldType := fun k => match k with
  | _ => .int
abbrev wsX00 : List Cond := u_ws RX0 TX0 0
theorem nmX0 : ∀ a, a < 0 → ∀ b, b < 0 → a ≠ b → (TX0 a).2.1 ≠ (TX0 b).2.1 := by decide +kernel
theorem tyX0_ok : ∀ k, k < 0 → parseFieldDescriptor (TX0 k).2.2.1 = some (tyX0 k) := by decide +kernel
abbrev cX0_compress : ByteArray := prog_2_method_2_code
def yX0_compress : MethodName := ⟨RX0, "compress", "([II)V"⟩
abbrev cX0_decompress : ByteArray := prog_2_method_3_code
def yX0_decompress : MethodName := ⟨RX0, "decompress", "([II)V"⟩
abbrev cX0_pack : ByteArray := prog_2_method_4_code
def yX0_pack : MethodName := ⟨RX0, "pack", "([IILLatticeVault$Row;)V"⟩
abbrev cX0_unpack : ByteArray := prog_2_method_5_code
def yX0_unpack : MethodName := ⟨RX0, "unpack", "([IILLatticeVault$Row;I)V"⟩
abbrev cX0_firstGroup : ByteArray := prog_2_method_6_code
def yX0_firstGroup : MethodName := ⟨RX0, "firstGroup", "(II)I"⟩
abbrev cX0_secondGroup : ByteArray := prog_2_method_7_code
def yX0_secondGroup : MethodName := ⟨RX0, "secondGroup", "(II)I"⟩
abbrev cX0_groupsAreSmall : ByteArray := prog_2_method_8_code
def yX0_groupsAreSmall : MethodName := ⟨RX0, "groupsAreSmall", "(LLatticeVault$Row;I)Z"⟩
def RX1 : String := "LatticeVault$Locksmith"
def TX1 : u_T := fun k => match k with
  | 0 => ("LatticeVault$Locksmith", "sponge", "LLatticeVault$Sponge;", true)
  | 1 => ("LatticeVault$Locksmith", "sampler", "LLatticeVault$Sampler;", true)
  | 2 => ("LatticeVault$Locksmith", "draft", "LLatticeVault$Row;", true)
  | 3 => ("LatticeVault$Locksmith", "seeds", "LLatticeVault$Row;", true)
  | 4 => ("LatticeVault$Locksmith", "message", "LLatticeVault$Row;", true)
  | 5 => ("LatticeVault$Locksmith", "digest", "LLatticeVault$Row;", true)
  | 6 => ("LatticeVault$Locksmith", "vector", "[[I", true)
  | 7 => ("LatticeVault$Locksmith", "sum", "[I", true)
  | _ => ("LatticeVault$Locksmith", "term", "[I", true)
def tyX1 : Nat → FieldType := fun k => match k with
  | 0 => .object "LatticeVault$Sponge"
  | 1 => .object "LatticeVault$Sampler"
  | 2 => .object "LatticeVault$Row"
  | 3 => .object "LatticeVault$Row"
  | 4 => .object "LatticeVault$Row"
  | 5 => .object "LatticeVault$Row"
  | 6 => .array (.array .int)
  | 7 => .array .int
  | _ => .array .int
abbrev wsX10 : List Cond := u_ws RX1 TX1 9
theorem nmX1 : ∀ a, a < 9 → ∀ b, b < 9 → a ≠ b → (TX1 a).2.1 ≠ (TX1 b).2.1 := by decide +kernel
theorem tyX1_ok : ∀ k, k < 9 → parseFieldDescriptor (TX1 k).2.2.1 = some (tyX1 k) := by decide +kernel
abbrev cX1_init : ByteArray := prog_3_method_1_code
def yX1_init : MethodName := ⟨RX1, "<init>", "(LLatticeVault$Sponge;LLatticeVault$Sampler;)V"⟩
abbrev cX1_draft : ByteArray := prog_3_method_2_code
def yX1_draft : MethodName := ⟨RX1, "draft", "()LLatticeVault$Row;"⟩
abbrev cX1_seeds : ByteArray := prog_3_method_3_code
def yX1_seeds : MethodName := ⟨RX1, "seeds", "()LLatticeVault$Row;"⟩
abbrev cX1_makeKeys : ByteArray := prog_3_method_4_code
def yX1_makeKeys : MethodName := ⟨RX1, "makeKeys", "(LLatticeVault$ParameterSet;LLatticeVault$Row;I)Z"⟩
abbrev cX1_readMessage : ByteArray := prog_3_method_5_code
def yX1_readMessage : MethodName := ⟨RX1, "readMessage", "(LLatticeVault$ParameterSet;LLatticeVault$Row;LLatticeVault$Row;)V"⟩
abbrev cX1_unlockText : ByteArray := prog_3_method_6_code
def yX1_unlockText : MethodName := ⟨RX1, "unlockText", "(LLatticeVault$ParameterSet;LLatticeVault$Row;LLatticeVault$Row;)V"⟩
abbrev cX1_tellRefusal : ByteArray := prog_3_method_7_code
def yX1_tellRefusal : MethodName := ⟨RX1, "tellRefusal", "(LLatticeVault$ParameterSet;LLatticeVault$Row;LLatticeVault$Row;LLatticeVault$Row;)V"⟩
abbrev cX1_hashIsTrue : ByteArray := prog_3_method_8_code
def yX1_hashIsTrue : MethodName := ⟨RX1, "hashIsTrue", "(LLatticeVault$ParameterSet;LLatticeVault$Row;)Z"⟩
abbrev cX1_lockMessage : ByteArray := prog_3_method_9_code
def yX1_lockMessage : MethodName := ⟨RX1, "lockMessage", "(LLatticeVault$ParameterSet;LLatticeVault$Row;II)Z"⟩
abbrev cX1_lockLast : ByteArray := prog_3_method_10_code
def yX1_lockLast : MethodName := ⟨RX1, "lockLast", "(LLatticeVault$ParameterSet;LLatticeVault$Row;I)V"⟩
abbrev cX1_drawVector : ByteArray := prog_3_method_11_code
def yX1_drawVector : MethodName := ⟨RX1, "drawVector", "(LLatticeVault$ParameterSet;)V"⟩
abbrev cX1_addProduct : ByteArray := prog_3_method_12_code
def yX1_addProduct : MethodName := ⟨RX1, "addProduct", "([I)V"⟩
abbrev cX1_packCompressed : ByteArray := prog_3_method_13_code
def yX1_packCompressed : MethodName := ⟨RX1, "packCompressed", "(I)V"⟩
abbrev cX1_unpackStretched : ByteArray := prog_3_method_14_code
def yX1_unpackStretched : MethodName := ⟨RX1, "unpackStretched", "([ILLatticeVault$Row;II)V"⟩
abbrev cX1_seedFromMessage : ByteArray := prog_3_method_15_code
def yX1_seedFromMessage : MethodName := ⟨RX1, "seedFromMessage", "(LLatticeVault$Row;I)V"⟩
abbrev cX1_tellSeeds : ByteArray := prog_3_method_16_code
def yX1_tellSeeds : MethodName := ⟨RX1, "tellSeeds", "()V"⟩
abbrev cX1_tellDigest : ByteArray := prog_3_method_17_code
def yX1_tellDigest : MethodName := ⟨RX1, "tellDigest", "(LLatticeVault$Row;II)V"⟩
def RX2 : String := "LatticeVault$ParameterSet"
def TX2 : u_T := fun k => match k with
  | _ => ("", "", "", false)
def tyX2 : Nat → FieldType := fun k => match k with
  | _ => .int
abbrev wsX20 : List Cond := u_ws RX2 TX2 0
theorem nmX2 : ∀ a, a < 0 → ∀ b, b < 0 → a ≠ b → (TX2 a).2.1 ≠ (TX2 b).2.1 := by decide +kernel
theorem tyX2_ok : ∀ k, k < 0 → parseFieldDescriptor (TX2 k).2.2.1 = some (tyX2 k) := by decide +kernel
abbrev cX2_ofRank : ByteArray := prog_4_method_4_code
def yX2_ofRank : MethodName := ⟨RX2, "ofRank", "(I)LLatticeVault$ParameterSet;"⟩
abbrev cX2_innerLength : ByteArray := prog_4_method_5_code
def yX2_innerLength : MethodName := ⟨RX2, "innerLength", "()I"⟩
abbrev cX2_publicLength : ByteArray := prog_4_method_6_code
def yX2_publicLength : MethodName := ⟨RX2, "publicLength", "()I"⟩
abbrev cX2_privateLength : ByteArray := prog_4_method_7_code
def yX2_privateLength : MethodName := ⟨RX2, "privateLength", "()I"⟩
abbrev cX2_textLength : ByteArray := prog_4_method_8_code
def yX2_textLength : MethodName := ⟨RX2, "textLength", "()I"⟩
def RX3 : String := "LatticeVault$Ring"
def TX3 : u_T := fun k => match k with
  | _ => ("", "", "", false)
def tyX3 : Nat → FieldType := fun k => match k with
  | _ => .int
abbrev wsX30 : List Cond := u_ws RX3 TX3 0
theorem nmX3 : ∀ a, a < 0 → ∀ b, b < 0 → a ≠ b → (TX3 a).2.1 ≠ (TX3 b).2.1 := by decide +kernel
theorem tyX3_ok : ∀ k, k < 0 → parseFieldDescriptor (TX3 k).2.2.1 = some (tyX3 k) := by decide +kernel
abbrev cX3_toPairs : ByteArray := prog_5_method_2_code
def yX3_toPairs : MethodName := ⟨RX3, "toPairs", "([I)V"⟩
abbrev cX3_fromPairs : ByteArray := prog_5_method_3_code
def yX3_fromPairs : MethodName := ⟨RX3, "fromPairs", "([I)V"⟩
abbrev cX3_splitBlock : ByteArray := prog_5_method_4_code
def yX3_splitBlock : MethodName := ⟨RX3, "splitBlock", "([IIII)V"⟩
abbrev cX3_joinBlock : ByteArray := prog_5_method_5_code
def yX3_joinBlock : MethodName := ⟨RX3, "joinBlock", "([IIII)V"⟩
abbrev cX3_multiplyPairs : ByteArray := prog_5_method_6_code
def yX3_multiplyPairs : MethodName := ⟨RX3, "multiplyPairs", "([I[I[I)V"⟩
abbrev cX3_multiplyPair : ByteArray := prog_5_method_7_code
def yX3_multiplyPair : MethodName := ⟨RX3, "multiplyPair", "([I[I[III)V"⟩
abbrev cX3_addTimes : ByteArray := prog_5_method_8_code
def yX3_addTimes : MethodName := ⟨RX3, "addTimes", "([I[II)V"⟩
def RX4 : String := "LatticeVault$Row"
def TX4 : u_T := fun k => match k with
  | 0 => ("LatticeVault$Row", "words", "[I", true)
  | 1 => ("LatticeVault$Row", "room", "I", true)
  | _ => ("LatticeVault$Row", "size", "I", false)
def tyX4 : Nat → FieldType := fun k => match k with
  | 0 => .array .int
  | 1 => .int
  | _ => .int
abbrev wsX40 : List Cond := u_ws RX4 TX4 3
theorem nmX4 : ∀ a, a < 3 → ∀ b, b < 3 → a ≠ b → (TX4 a).2.1 ≠ (TX4 b).2.1 := by decide +kernel
theorem tyX4_ok : ∀ k, k < 3 → parseFieldDescriptor (TX4 k).2.2.1 = some (tyX4 k) := by decide +kernel
abbrev cX4_init : ByteArray := prog_6_method_1_code
def yX4_init : MethodName := ⟨RX4, "<init>", "(I)V"⟩
abbrev cX4_size : ByteArray := prog_6_method_2_code
def yX4_size : MethodName := ⟨RX4, "size", "()I"⟩
abbrev cX4_clear : ByteArray := prog_6_method_3_code
def yX4_clear : MethodName := ⟨RX4, "clear", "()V"⟩
abbrev cX4_cutTo : ByteArray := prog_6_method_4_code
def yX4_cutTo : MethodName := ⟨RX4, "cutTo", "(I)V"⟩
abbrev cX4_byteAt : ByteArray := prog_6_method_5_code
def yX4_byteAt : MethodName := ⟨RX4, "byteAt", "(I)I"⟩
abbrev cX4_replace : ByteArray := prog_6_method_6_code
def yX4_replace : MethodName := ⟨RX4, "replace", "(II)Z"⟩
abbrev cX4_append : ByteArray := prog_6_method_7_code
def yX4_append : MethodName := ⟨RX4, "append", "(I)V"⟩
abbrev cX4_appendWord : ByteArray := prog_6_method_8_code
def yX4_appendWord : MethodName := ⟨RX4, "appendWord", "(I)V"⟩
abbrev cX4_appendPart : ByteArray := prog_6_method_9_code
def yX4_appendPart : MethodName := ⟨RX4, "appendPart", "(LLatticeVault$Row;II)V"⟩
abbrev cX4_become : ByteArray := prog_6_method_10_code
def yX4_become : MethodName := ⟨RX4, "become", "(LLatticeVault$Row;)V"⟩
abbrev cX4_sameAs : ByteArray := prog_6_method_11_code
def yX4_sameAs : MethodName := ⟨RX4, "sameAs", "(LLatticeVault$Row;)Z"⟩
abbrev cX4_partIsSame : ByteArray := prog_6_method_12_code
def yX4_partIsSame : MethodName := ⟨RX4, "partIsSame", "(ILLatticeVault$Row;II)Z"⟩
def RX5 : String := "LatticeVault$Sampler"
def TX5 : u_T := fun k => match k with
  | _ => ("LatticeVault$Sampler", "sponge", "LLatticeVault$Sponge;", true)
def tyX5 : Nat → FieldType := fun k => match k with
  | _ => .object "LatticeVault$Sponge"
abbrev wsX50 : List Cond := u_ws RX5 TX5 1
theorem nmX5 : ∀ a, a < 1 → ∀ b, b < 1 → a ≠ b → (TX5 a).2.1 ≠ (TX5 b).2.1 := by decide +kernel
theorem tyX5_ok : ∀ k, k < 1 → parseFieldDescriptor (TX5 k).2.2.1 = some (tyX5 k) := by decide +kernel
abbrev cX5_init : ByteArray := prog_7_method_1_code
def yX5_init : MethodName := ⟨RX5, "<init>", "(LLatticeVault$Sponge;)V"⟩
abbrev cX5_drawUniform : ByteArray := prog_7_method_2_code
def yX5_drawUniform : MethodName := ⟨RX5, "drawUniform", "([ILLatticeVault$Row;IIII)I"⟩
abbrev cX5_keepIfSmall : ByteArray := prog_7_method_3_code
def yX5_keepIfSmall : MethodName := ⟨RX5, "keepIfSmall", "([III)I"⟩
abbrev cX5_drawNoise : ByteArray := prog_7_method_4_code
def yX5_drawNoise : MethodName := ⟨RX5, "drawNoise", "([ILLatticeVault$Row;III)V"⟩
def RX6 : String := "LatticeVault$Sponge"
def TX6 : u_T := fun k => match k with
  | 0 => ("LatticeVault$Sponge", "lanes", "[J", true)
  | 1 => ("LatticeVault$Sponge", "rate", "I", false)
  | 2 => ("LatticeVault$Sponge", "suffix", "I", false)
  | _ => ("LatticeVault$Sponge", "place", "I", false)
def tyX6 : Nat → FieldType := fun k => match k with
  | 0 => .array .long
  | 1 => .int
  | 2 => .int
  | _ => .int
abbrev wsX60 : List Cond := u_ws RX6 TX6 4
theorem nmX6 : ∀ a, a < 4 → ∀ b, b < 4 → a ≠ b → (TX6 a).2.1 ≠ (TX6 b).2.1 := by decide +kernel
theorem tyX6_ok : ∀ k, k < 4 → parseFieldDescriptor (TX6 k).2.2.1 = some (tyX6 k) := by decide +kernel
abbrev cX6_init : ByteArray := prog_8_method_1_code
def yX6_init : MethodName := ⟨RX6, "<init>", "()V"⟩
abbrev cX6_begin : ByteArray := prog_8_method_2_code
def yX6_begin : MethodName := ⟨RX6, "begin", "(I)V"⟩
abbrev cX6_absorbByte : ByteArray := prog_8_method_3_code
def yX6_absorbByte : MethodName := ⟨RX6, "absorbByte", "(I)V"⟩
abbrev cX6_absorb : ByteArray := prog_8_method_4_code
def yX6_absorb : MethodName := ⟨RX6, "absorb", "(LLatticeVault$Row;II)V"⟩
abbrev cX6_finish : ByteArray := prog_8_method_5_code
def yX6_finish : MethodName := ⟨RX6, "finish", "()V"⟩
abbrev cX6_tellByte : ByteArray := prog_8_method_6_code
def yX6_tellByte : MethodName := ⟨RX6, "tellByte", "()I"⟩
abbrev cX6_tellTo : ByteArray := prog_8_method_7_code
def yX6_tellTo : MethodName := ⟨RX6, "tellTo", "(LLatticeVault$Row;I)V"⟩
abbrev cX6_mixIn : ByteArray := prog_8_method_8_code
def yX6_mixIn : MethodName := ⟨RX6, "mixIn", "(II)V"⟩
abbrev cX6_doRounds : ByteArray := prog_8_method_9_code
def yX6_doRounds : MethodName := ⟨RX6, "doRounds", "()V"⟩
def RX7 : String := "LatticeVault"
def TX7 : u_T := fun k => match k with
  | 0 => ("LatticeVault", "tape", "LLatticeVault$Row;", true)
  | 1 => ("LatticeVault", "publicKey", "LLatticeVault$Row;", true)
  | 2 => ("LatticeVault", "privateKey", "LLatticeVault$Row;", true)
  | 3 => ("LatticeVault", "text", "LLatticeVault$Row;", true)
  | 4 => ("LatticeVault", "secret", "LLatticeVault$Row;", true)
  | 5 => ("LatticeVault", "out", "LLatticeVault$Row;", true)
  | 6 => ("LatticeVault", "polynomials", "[[I", true)
  | 7 => ("LatticeVault", "sponge", "LLatticeVault$Sponge;", true)
  | 8 => ("LatticeVault", "sampler", "LLatticeVault$Sampler;", true)
  | 9 => ("LatticeVault", "locksmith", "LLatticeVault$Locksmith;", true)
  | 10 => ("LatticeVault", "draft", "[I", true)
  | 11 => ("LatticeVault", "set", "LLatticeVault$ParameterSet;", false)
  | _ => ("LatticeVault", "mostRounds", "I", false)
def tyX7 : Nat → FieldType := fun k => match k with
  | 0 => .object "LatticeVault$Row"
  | 1 => .object "LatticeVault$Row"
  | 2 => .object "LatticeVault$Row"
  | 3 => .object "LatticeVault$Row"
  | 4 => .object "LatticeVault$Row"
  | 5 => .object "LatticeVault$Row"
  | 6 => .array (.array .int)
  | 7 => .object "LatticeVault$Sponge"
  | 8 => .object "LatticeVault$Sampler"
  | 9 => .object "LatticeVault$Locksmith"
  | 10 => .array .int
  | 11 => .object "LatticeVault$ParameterSet"
  | _ => .int
abbrev wsX70 : List Cond := u_ws RX7 TX7 13
theorem nmX7 : ∀ a, a < 13 → ∀ b, b < 13 → a ≠ b → (TX7 a).2.1 ≠ (TX7 b).2.1 := by decide +kernel
theorem tyX7_ok : ∀ k, k < 13 → parseFieldDescriptor (TX7 k).2.2.1 = some (tyX7 k) := by decide +kernel
abbrev cX7_init : ByteArray := prog_1_method_1_code
def yX7_init : MethodName := ⟨RX7, "<init>", "()V"⟩
abbrev cX7_feed : ByteArray := prog_1_method_2_code
def yX7_feed : MethodName := ⟨RX7, "feed", "(IIIII)I"⟩
abbrev cX7_end : ByteArray := prog_1_method_3_code
def yX7_end : MethodName := ⟨RX7, "end", "(I)I"⟩
abbrev cX7_take : ByteArray := prog_1_method_4_code
def yX7_take : MethodName := ⟨RX7, "take", "(I)I"⟩
abbrev cX7_alter : ByteArray := prog_1_method_5_code
def yX7_alter : MethodName := ⟨RX7, "alter", "(II)Z"⟩
abbrev cX7_choose : ByteArray := prog_1_method_6_code
def yX7_choose : MethodName := ⟨RX7, "choose", "(I)I"⟩
abbrev cX7_bound : ByteArray := prog_1_method_7_code
def yX7_bound : MethodName := ⟨RX7, "bound", "(I)I"⟩
abbrev cX7_length : ByteArray := prog_1_method_8_code
def yX7_length : MethodName := ⟨RX7, "length", "(I)I"⟩
abbrev cX7_at : ByteArray := prog_1_method_9_code
def yX7_at : MethodName := ⟨RX7, "at", "(II)I"⟩
abbrev cX7_make : ByteArray := prog_1_method_10_code
def yX7_make : MethodName := ⟨RX7, "make", "()I"⟩
abbrev cX7_load : ByteArray := prog_1_method_11_code
def yX7_load : MethodName := ⟨RX7, "load", "(I)I"⟩
abbrev cX7_wrap : ByteArray := prog_1_method_12_code
def yX7_wrap : MethodName := ⟨RX7, "wrap", "()I"⟩
abbrev cX7_unwrap : ByteArray := prog_1_method_13_code
def yX7_unwrap : MethodName := ⟨RX7, "unwrap", "()I"⟩
abbrev cX7_hash : ByteArray := prog_1_method_14_code
def yX7_hash : MethodName := ⟨RX7, "hash", "(II)I"⟩
abbrev cX7_put : ByteArray := prog_1_method_15_code
def yX7_put : MethodName := ⟨RX7, "put", "(III)I"⟩
abbrev cX7_number : ByteArray := prog_1_method_16_code
def yX7_number : MethodName := ⟨RX7, "number", "(II)I"⟩
abbrev cX7_forward : ByteArray := prog_1_method_17_code
def yX7_forward : MethodName := ⟨RX7, "forward", "(I)Z"⟩
abbrev cX7_back : ByteArray := prog_1_method_18_code
def yX7_back : MethodName := ⟨RX7, "back", "(I)Z"⟩
abbrev cX7_pairs : ByteArray := prog_1_method_19_code
def yX7_pairs : MethodName := ⟨RX7, "pairs", "(III)Z"⟩
abbrev cX7_add : ByteArray := prog_1_method_20_code
def yX7_add : MethodName := ⟨RX7, "add", "(III)Z"⟩
abbrev cX7_press : ByteArray := prog_1_method_21_code
def yX7_press : MethodName := ⟨RX7, "press", "(II)Z"⟩
abbrev cX7_stretch : ByteArray := prog_1_method_22_code
def yX7_stretch : MethodName := ⟨RX7, "stretch", "(II)Z"⟩
abbrev cX7_encode : ByteArray := prog_1_method_23_code
def yX7_encode : MethodName := ⟨RX7, "encode", "(II)I"⟩
abbrev cX7_decode : ByteArray := prog_1_method_24_code
def yX7_decode : MethodName := ⟨RX7, "decode", "(II)I"⟩
abbrev cX7_sample : ByteArray := prog_1_method_25_code
def yX7_sample : MethodName := ⟨RX7, "sample", "(III)I"⟩
abbrev cX7_noise : ByteArray := prog_1_method_26_code
def yX7_noise : MethodName := ⟨RX7, "noise", "(III)I"⟩
abbrev cX7_isPolynomial : ByteArray := prog_1_method_27_code
def yX7_isPolynomial : MethodName := ⟨RX7, "isPolynomial", "(I)Z"⟩
abbrev cX7_rowOf : ByteArray := prog_1_method_28_code
def yX7_rowOf : MethodName := ⟨RX7, "rowOf", "(I)LLatticeVault$Row;"⟩
abbrev cX7_checkTapeAs : ByteArray := prog_1_method_29_code
def yX7_checkTapeAs : MethodName := ⟨RX7, "checkTapeAs", "(I)I"⟩
abbrev cX7_hashLength : ByteArray := prog_1_method_30_code
def yX7_hashLength : MethodName := ⟨RX7, "hashLength", "(II)I"⟩
def RX8 : String := "LatticeVaultModel"
def TX8 : u_T := fun k => match k with
  | 0 => ("LatticeVaultModel", "mem", "[B", true)
  | 1 => ("LatticeVaultModel", "taped", "I", false)
  | 2 => ("LatticeVaultModel", "ekSize", "I", false)
  | 3 => ("LatticeVaultModel", "dkSize", "I", false)
  | 4 => ("LatticeVaultModel", "textSize", "I", false)
  | 5 => ("LatticeVaultModel", "secretSize", "I", false)
  | 6 => ("LatticeVaultModel", "outSize", "I", false)
  | 7 => ("LatticeVaultModel", "k", "I", false)
  | 8 => ("LatticeVaultModel", "most", "I", false)
  | 9 => ("LatticeVaultModel", "state", "[B", true)
  | 10 => ("LatticeVaultModel", "work", "[B", true)
  | 11 => ("LatticeVaultModel", "column", "[B", true)
  | 12 => ("LatticeVaultModel", "source", "[I", true)
  | 13 => ("LatticeVaultModel", "constant", "[B", true)
  | 14 => ("LatticeVaultModel", "place", "I", false)
  | 15 => ("LatticeVaultModel", "rate", "I", false)
  | 16 => ("LatticeVaultModel", "pol", "[I", true)
  | 17 => ("LatticeVaultModel", "power", "[I", true)
  | _ => ("LatticeVaultModel", "odd", "[I", true)
def tyX8 : Nat → FieldType := fun k => match k with
  | 0 => .array .byte
  | 1 => .int
  | 2 => .int
  | 3 => .int
  | 4 => .int
  | 5 => .int
  | 6 => .int
  | 7 => .int
  | 8 => .int
  | 9 => .array .byte
  | 10 => .array .byte
  | 11 => .array .byte
  | 12 => .array .int
  | 13 => .array .byte
  | 14 => .int
  | 15 => .int
  | 16 => .array .int
  | 17 => .array .int
  | _ => .array .int
abbrev wsX80 : List Cond := u_ws RX8 TX8 19
theorem nmX8 : ∀ a, a < 19 → ∀ b, b < 19 → a ≠ b → (TX8 a).2.1 ≠ (TX8 b).2.1 := by decide +kernel
theorem tyX8_ok : ∀ k, k < 19 → parseFieldDescriptor (TX8 k).2.2.1 = some (tyX8 k) := by decide +kernel
abbrev cX8_init : ByteArray := prog_10_method_1_code
def yX8_init : MethodName := ⟨RX8, "<init>", "()V"⟩
abbrev cX8_copy : ByteArray := prog_10_method_2_code
def yX8_copy : MethodName := ⟨RX8, "copy", "(III)V"⟩
abbrev cX8_byteAt : ByteArray := prog_10_method_3_code
def yX8_byteAt : MethodName := ⟨RX8, "byteAt", "(I)I"⟩
abbrev cX8_bit : ByteArray := prog_10_method_4_code
def yX8_bit : MethodName := ⟨RX8, "bit", "(III)I"⟩
abbrev cX8_turns : ByteArray := prog_10_method_5_code
def yX8_turns : MethodName := ⟨RX8, "turns", "()V"⟩
abbrev cX8_constants : ByteArray := prog_10_method_6_code
def yX8_constants : MethodName := ⟨RX8, "constants", "()V"⟩
abbrev cX8_theta : ByteArray := prog_10_method_7_code
def yX8_theta : MethodName := ⟨RX8, "theta", "()V"⟩
abbrev cX8_round : ByteArray := prog_10_method_8_code
def yX8_round : MethodName := ⟨RX8, "round", "(I)V"⟩
abbrev cX8_rounds : ByteArray := prog_10_method_9_code
def yX8_rounds : MethodName := ⟨RX8, "rounds", "()V"⟩
abbrev cX8_takes : ByteArray := prog_10_method_10_code
def yX8_takes : MethodName := ⟨RX8, "takes", "(I)V"⟩
abbrev cX8_absorb : ByteArray := prog_10_method_11_code
def yX8_absorb : MethodName := ⟨RX8, "absorb", "(IIIZ)V"⟩
abbrev cX8_told : ByteArray := prog_10_method_12_code
def yX8_told : MethodName := ⟨RX8, "told", "()I"⟩
abbrev cX8_tells : ByteArray := prog_10_method_13_code
def yX8_tells : MethodName := ⟨RX8, "tells", "(II)V"⟩
abbrev cX8_powers : ByteArray := prog_10_method_14_code
def yX8_powers : MethodName := ⟨RX8, "powers", "()V"⟩
abbrev cX8_ring : ByteArray := prog_10_method_15_code
def yX8_ring : MethodName := ⟨RX8, "ring", "(J)I"⟩
abbrev cX8_copyPol : ByteArray := prog_10_method_16_code
def yX8_copyPol : MethodName := ⟨RX8, "copyPol", "(II)V"⟩
abbrev cX8_zero : ByteArray := prog_10_method_17_code
def yX8_zero : MethodName := ⟨RX8, "zero", "(I)V"⟩
abbrev cX8_bringForward : ByteArray := prog_10_method_18_code
def yX8_bringForward : MethodName := ⟨RX8, "bringForward", "(I)V"⟩
abbrev cX8_bringBack : ByteArray := prog_10_method_19_code
def yX8_bringBack : MethodName := ⟨RX8, "bringBack", "(I)V"⟩
abbrev cX8_product : ByteArray := prog_10_method_20_code
def yX8_product : MethodName := ⟨RX8, "product", "(IIIZ)V"⟩
abbrev cX8_plus : ByteArray := prog_10_method_21_code
def yX8_plus : MethodName := ⟨RX8, "plus", "(III)V"⟩
abbrev cX8_pressed : ByteArray := prog_10_method_22_code
def yX8_pressed : MethodName := ⟨RX8, "pressed", "(II)V"⟩
abbrev cX8_stretched : ByteArray := prog_10_method_23_code
def yX8_stretched : MethodName := ⟨RX8, "stretched", "(II)V"⟩
abbrev cX8_written : ByteArray := prog_10_method_24_code
def yX8_written : MethodName := ⟨RX8, "written", "(III)V"⟩
abbrev cX8_group : ByteArray := prog_10_method_25_code
def yX8_group : MethodName := ⟨RX8, "group", "(III)I"⟩
abbrev cX8_readPol : ByteArray := prog_10_method_26_code
def yX8_readPol : MethodName := ⟨RX8, "readPol", "(III)V"⟩
abbrev cX8_sampled : ByteArray := prog_10_method_27_code
def yX8_sampled : MethodName := ⟨RX8, "sampled", "(I)I"⟩
abbrev cX8_matrix : ByteArray := prog_10_method_28_code
def yX8_matrix : MethodName := ⟨RX8, "matrix", "(IIII)I"⟩
abbrev cX8_noised : ByteArray := prog_10_method_29_code
def yX8_noised : MethodName := ⟨RX8, "noised", "(IIII)V"⟩
abbrev cX8_eta1 : ByteArray := prog_10_method_30_code
def yX8_eta1 : MethodName := ⟨RX8, "eta1", "()I"⟩
abbrev cX8_du : ByteArray := prog_10_method_31_code
def yX8_du : MethodName := ⟨RX8, "du", "()I"⟩
abbrev cX8_dv : ByteArray := prog_10_method_32_code
def yX8_dv : MethodName := ⟨RX8, "dv", "()I"⟩
abbrev cX8_ekBytes : ByteArray := prog_10_method_33_code
def yX8_ekBytes : MethodName := ⟨RX8, "ekBytes", "()I"⟩
abbrev cX8_textBytes : ByteArray := prog_10_method_34_code
def yX8_textBytes : MethodName := ⟨RX8, "textBytes", "()I"⟩
abbrev cX8_g : ByteArray := prog_10_method_35_code
def yX8_g : MethodName := ⟨RX8, "g", "(I)V"⟩
abbrev cX8_made : ByteArray := prog_10_method_36_code
def yX8_made : MethodName := ⟨RX8, "made", "()Z"⟩
abbrev cX8_locks : ByteArray := prog_10_method_37_code
def yX8_locks : MethodName := ⟨RX8, "locks", "(I)Z"⟩
abbrev cX8_unlocks : ByteArray := prog_10_method_38_code
def yX8_unlocks : MethodName := ⟨RX8, "unlocks", "(I)V"⟩
abbrev cX8_h : ByteArray := prog_10_method_39_code
def yX8_h : MethodName := ⟨RX8, "h", "(III)V"⟩
abbrev cX8_feed : ByteArray := prog_10_method_40_code
def yX8_feed : MethodName := ⟨RX8, "feed", "(IIIII)I"⟩
abbrev cX8_end : ByteArray := prog_10_method_41_code
def yX8_end : MethodName := ⟨RX8, "end", "(I)I"⟩
abbrev cX8_take : ByteArray := prog_10_method_42_code
def yX8_take : MethodName := ⟨RX8, "take", "(I)I"⟩
abbrev cX8_alter : ByteArray := prog_10_method_43_code
def yX8_alter : MethodName := ⟨RX8, "alter", "(II)Z"⟩
abbrev cX8_choose : ByteArray := prog_10_method_44_code
def yX8_choose : MethodName := ⟨RX8, "choose", "(I)I"⟩
abbrev cX8_bound : ByteArray := prog_10_method_45_code
def yX8_bound : MethodName := ⟨RX8, "bound", "(I)I"⟩
abbrev cX8_length : ByteArray := prog_10_method_46_code
def yX8_length : MethodName := ⟨RX8, "length", "(I)I"⟩
abbrev cX8_at : ByteArray := prog_10_method_47_code
def yX8_at : MethodName := ⟨RX8, "at", "(II)I"⟩
abbrev cX8_used : ByteArray := prog_10_method_48_code
def yX8_used : MethodName := ⟨RX8, "used", "()I"⟩
abbrev cX8_make : ByteArray := prog_10_method_49_code
def yX8_make : MethodName := ⟨RX8, "make", "()I"⟩
abbrev cX8_load : ByteArray := prog_10_method_50_code
def yX8_load : MethodName := ⟨RX8, "load", "(I)I"⟩
abbrev cX8_wrap : ByteArray := prog_10_method_51_code
def yX8_wrap : MethodName := ⟨RX8, "wrap", "()I"⟩
abbrev cX8_unwrap : ByteArray := prog_10_method_52_code
def yX8_unwrap : MethodName := ⟨RX8, "unwrap", "()I"⟩
abbrev cX8_hash : ByteArray := prog_10_method_53_code
def yX8_hash : MethodName := ⟨RX8, "hash", "(II)I"⟩
abbrev cX8_isPol : ByteArray := prog_10_method_54_code
def yX8_isPol : MethodName := ⟨RX8, "isPol", "(I)Z"⟩
abbrev cX8_put : ByteArray := prog_10_method_55_code
def yX8_put : MethodName := ⟨RX8, "put", "(III)I"⟩
abbrev cX8_number : ByteArray := prog_10_method_56_code
def yX8_number : MethodName := ⟨RX8, "number", "(II)I"⟩
abbrev cX8_forward : ByteArray := prog_10_method_57_code
def yX8_forward : MethodName := ⟨RX8, "forward", "(I)Z"⟩
abbrev cX8_back : ByteArray := prog_10_method_58_code
def yX8_back : MethodName := ⟨RX8, "back", "(I)Z"⟩
abbrev cX8_pairs : ByteArray := prog_10_method_59_code
def yX8_pairs : MethodName := ⟨RX8, "pairs", "(III)Z"⟩
abbrev cX8_add : ByteArray := prog_10_method_60_code
def yX8_add : MethodName := ⟨RX8, "add", "(III)Z"⟩
abbrev cX8_press : ByteArray := prog_10_method_61_code
def yX8_press : MethodName := ⟨RX8, "press", "(II)Z"⟩
abbrev cX8_stretch : ByteArray := prog_10_method_62_code
def yX8_stretch : MethodName := ⟨RX8, "stretch", "(II)Z"⟩
abbrev cX8_encode : ByteArray := prog_10_method_63_code
def yX8_encode : MethodName := ⟨RX8, "encode", "(II)I"⟩
abbrev cX8_decode : ByteArray := prog_10_method_64_code
def yX8_decode : MethodName := ⟨RX8, "decode", "(II)I"⟩
abbrev cX8_sample : ByteArray := prog_10_method_65_code
def yX8_sample : MethodName := ⟨RX8, "sample", "(III)I"⟩
abbrev cX8_noise : ByteArray := prog_10_method_66_code
def yX8_noise : MethodName := ⟨RX8, "noise", "(III)I"⟩
def RJx29ce0 : String := "java/lang/Enum"
def RJ6 : String := "java/lang/Integer"
abbrev cJ6_bitCount_0f7a4 : ByteArray := prog_12_method_49_code
def yJ6_bitCount_0f7a4 : MethodName := ⟨RJ6, "bitCount", "(I)I"⟩
def RJ9 : String := "java/lang/Math"
abbrev cJ9_floorMod_7cf53 : ByteArray := prog_13_method_50_code
def yJ9_floorMod_7cf53 : MethodName := ⟨RJ9, "floorMod", "(II)I"⟩
abbrev cJ9_max_7cf53 : ByteArray := prog_13_method_65_code
def yJ9_max_7cf53 : MethodName := ⟨RJ9, "max", "(II)I"⟩
def RJ10 : String := "java/lang/System"
def RJ7 : String := "java/util/Arrays"
abbrev cJ7_fill_d0a16 : ByteArray := prog_15_method_101_code
def yJ7_fill_d0a16 : MethodName := ⟨RJ7, "fill", "([JJ)V"⟩
abbrev cJ7_fill_53178 : ByteArray := prog_15_method_103_code
def yJ7_fill_53178 : MethodName := ⟨RJ7, "fill", "([II)V"⟩
def RL : String := "LatticeVaultLaw"
abbrev cL_law : ByteArray := code
def yL_law : MethodName := ⟨RL, "law", "([I)Z"⟩
abbrev vwCl : List vw_C := [(RX1, TX1, 9), (RX4, TX4, 3), (RX5, TX5, 1), (RX6, TX6, 4), (RX7, TX7, 13), (RX8, TX8, 19)]
end
section
theorem dX0_compress_0 : decode cX0_compress 0 = .ok (.iconst 1, 1) := by decide +kernel
theorem dX0_compress_1 : decode cX0_compress 1 = .ok (.iload_n 1, 1) := by decide +kernel
theorem dX0_compress_2 : decode cX0_compress 2 = .ok (.ishl, 1) := by decide +kernel
theorem dX0_compress_3 : decode cX0_compress 3 = .ok (.iconst 1, 1) := by decide +kernel
theorem dX0_compress_4 : decode cX0_compress 4 = .ok (.isub, 1) := by decide +kernel
theorem dX0_compress_5 : decode cX0_compress 5 = .ok (.istore_n 2, 1) := by decide +kernel
theorem dX0_compress_6 : decode cX0_compress 6 = .ok (.iconst 0, 1) := by decide +kernel
theorem dX0_compress_7 : decode cX0_compress 7 = .ok (.istore_n 3, 1) := by decide +kernel
theorem dX0_compress_8 : decode cX0_compress 8 = .ok (.iload_n 3, 1) := by decide +kernel
theorem dX0_compress_9 : decode cX0_compress 9 = .ok (.sipush 256, 3) := by decide +kernel
theorem dX0_compress_12 : decode cX0_compress 12 = .ok (.if_icmp .ge 29, 3) := by decide +kernel
theorem dX0_compress_15 : decode cX0_compress 15 = .ok (.aload_n 0, 1) := by decide +kernel
theorem dX0_compress_16 : decode cX0_compress 16 = .ok (.iload_n 3, 1) := by decide +kernel
theorem dX0_compress_17 : decode cX0_compress 17 = .ok (.aload_n 0, 1) := by decide +kernel
theorem dX0_compress_18 : decode cX0_compress 18 = .ok (.iload_n 3, 1) := by decide +kernel
theorem dX0_compress_19 : decode cX0_compress 19 = .ok (.iaload, 1) := by decide +kernel
theorem dX0_compress_20 : decode cX0_compress 20 = .ok (.iload_n 1, 1) := by decide +kernel
theorem dX0_compress_21 : decode cX0_compress 21 = .ok (.iconst 1, 1) := by decide +kernel
theorem dX0_compress_22 : decode cX0_compress 22 = .ok (.iadd, 1) := by decide +kernel
theorem dX0_compress_23 : decode cX0_compress 23 = .ok (.ishl, 1) := by decide +kernel
theorem dX0_compress_24 : decode cX0_compress 24 = .ok (.sipush 3329, 3) := by decide +kernel
theorem dX0_compress_27 : decode cX0_compress 27 = .ok (.iadd, 1) := by decide +kernel
theorem dX0_compress_28 : decode cX0_compress 28 = .ok (.sipush 6658, 3) := by decide +kernel
theorem dX0_compress_31 : decode cX0_compress 31 = .ok (.idiv, 1) := by decide +kernel
theorem dX0_compress_32 : decode cX0_compress 32 = .ok (.iload_n 2, 1) := by decide +kernel
theorem dX0_compress_33 : decode cX0_compress 33 = .ok (.iand, 1) := by decide +kernel
theorem dX0_compress_34 : decode cX0_compress 34 = .ok (.iastore, 1) := by decide +kernel
theorem dX0_compress_35 : decode cX0_compress 35 = .ok (.iinc 3 1, 3) := by decide +kernel
theorem dX0_compress_38 : decode cX0_compress 38 = .ok (.goto (-30), 3) := by decide +kernel
theorem dX0_compress_41 : decode cX0_compress 41 = .ok (.return_, 1) := by decide +kernel
theorem dX0_decompress_0 : decode cX0_decompress 0 = .ok (.iconst 1, 1) := by decide +kernel
theorem dX0_decompress_1 : decode cX0_decompress 1 = .ok (.iload_n 1, 1) := by decide +kernel
theorem dX0_decompress_2 : decode cX0_decompress 2 = .ok (.ishl, 1) := by decide +kernel
theorem dX0_decompress_3 : decode cX0_decompress 3 = .ok (.iconst 1, 1) := by decide +kernel
theorem dX0_decompress_4 : decode cX0_decompress 4 = .ok (.isub, 1) := by decide +kernel
theorem dX0_decompress_5 : decode cX0_decompress 5 = .ok (.istore_n 2, 1) := by decide +kernel
theorem dX0_decompress_6 : decode cX0_decompress 6 = .ok (.iconst 1, 1) := by decide +kernel
theorem dX0_decompress_7 : decode cX0_decompress 7 = .ok (.iload_n 1, 1) := by decide +kernel
theorem dX0_decompress_8 : decode cX0_decompress 8 = .ok (.iconst 1, 1) := by decide +kernel
theorem dX0_decompress_9 : decode cX0_decompress 9 = .ok (.isub, 1) := by decide +kernel
theorem dX0_decompress_10 : decode cX0_decompress 10 = .ok (.ishl, 1) := by decide +kernel
theorem dX0_decompress_11 : decode cX0_decompress 11 = .ok (.istore_n 3, 1) := by decide +kernel
theorem dX0_decompress_12 : decode cX0_decompress 12 = .ok (.iconst 0, 1) := by decide +kernel
theorem dX0_decompress_13 : decode cX0_decompress 13 = .ok (.istore 4, 2) := by decide +kernel
theorem dX0_decompress_15 : decode cX0_decompress 15 = .ok (.iload 4, 2) := by decide +kernel
theorem dX0_decompress_17 : decode cX0_decompress 17 = .ok (.sipush 256, 3) := by decide +kernel
theorem dX0_decompress_20 : decode cX0_decompress 20 = .ok (.if_icmp .ge 27, 3) := by decide +kernel
theorem dX0_decompress_23 : decode cX0_decompress 23 = .ok (.aload_n 0, 1) := by decide +kernel
theorem dX0_decompress_24 : decode cX0_decompress 24 = .ok (.iload 4, 2) := by decide +kernel
theorem dX0_decompress_26 : decode cX0_decompress 26 = .ok (.aload_n 0, 1) := by decide +kernel
theorem dX0_decompress_27 : decode cX0_decompress 27 = .ok (.iload 4, 2) := by decide +kernel
theorem dX0_decompress_29 : decode cX0_decompress 29 = .ok (.iaload, 1) := by decide +kernel
theorem dX0_decompress_30 : decode cX0_decompress 30 = .ok (.iload_n 2, 1) := by decide +kernel
theorem dX0_decompress_31 : decode cX0_decompress 31 = .ok (.iand, 1) := by decide +kernel
theorem dX0_decompress_32 : decode cX0_decompress 32 = .ok (.sipush 3329, 3) := by decide +kernel
theorem dX0_decompress_35 : decode cX0_decompress 35 = .ok (.imul, 1) := by decide +kernel
theorem dX0_decompress_36 : decode cX0_decompress 36 = .ok (.iload_n 3, 1) := by decide +kernel
theorem dX0_decompress_37 : decode cX0_decompress 37 = .ok (.iadd, 1) := by decide +kernel
theorem dX0_decompress_38 : decode cX0_decompress 38 = .ok (.iload_n 1, 1) := by decide +kernel
theorem dX0_decompress_39 : decode cX0_decompress 39 = .ok (.ishr, 1) := by decide +kernel
theorem dX0_decompress_40 : decode cX0_decompress 40 = .ok (.iastore, 1) := by decide +kernel
theorem dX0_decompress_41 : decode cX0_decompress 41 = .ok (.iinc 4 1, 3) := by decide +kernel
theorem dX0_decompress_44 : decode cX0_decompress 44 = .ok (.goto (-29), 3) := by decide +kernel
theorem dX0_decompress_47 : decode cX0_decompress 47 = .ok (.return_, 1) := by decide +kernel
theorem dX0_pack_0 : decode cX0_pack 0 = .ok (.iconst 1, 1) := by decide +kernel
theorem dX0_pack_1 : decode cX0_pack 1 = .ok (.iload_n 1, 1) := by decide +kernel
theorem dX0_pack_2 : decode cX0_pack 2 = .ok (.ishl, 1) := by decide +kernel
theorem dX0_pack_3 : decode cX0_pack 3 = .ok (.iconst 1, 1) := by decide +kernel
theorem dX0_pack_4 : decode cX0_pack 4 = .ok (.isub, 1) := by decide +kernel
theorem dX0_pack_5 : decode cX0_pack 5 = .ok (.istore_n 3, 1) := by decide +kernel
theorem dX0_pack_6 : decode cX0_pack 6 = .ok (.iconst 0, 1) := by decide +kernel
theorem dX0_pack_7 : decode cX0_pack 7 = .ok (.istore 4, 2) := by decide +kernel
theorem dX0_pack_9 : decode cX0_pack 9 = .ok (.iconst 0, 1) := by decide +kernel
theorem dX0_pack_10 : decode cX0_pack 10 = .ok (.istore 5, 2) := by decide +kernel
theorem dX0_pack_12 : decode cX0_pack 12 = .ok (.iconst 0, 1) := by decide +kernel
theorem dX0_pack_13 : decode cX0_pack 13 = .ok (.istore 6, 2) := by decide +kernel
theorem dX0_pack_15 : decode cX0_pack 15 = .ok (.iload 6, 2) := by decide +kernel
theorem dX0_pack_17 : decode cX0_pack 17 = .ok (.sipush 256, 3) := by decide +kernel
theorem dX0_pack_20 : decode cX0_pack 20 = .ok (.if_icmp .ge 55, 3) := by decide +kernel
theorem dX0_pack_23 : decode cX0_pack 23 = .ok (.iload 4, 2) := by decide +kernel
theorem dX0_pack_25 : decode cX0_pack 25 = .ok (.aload_n 0, 1) := by decide +kernel
theorem dX0_pack_26 : decode cX0_pack 26 = .ok (.iload 6, 2) := by decide +kernel
theorem dX0_pack_28 : decode cX0_pack 28 = .ok (.iaload, 1) := by decide +kernel
theorem dX0_pack_29 : decode cX0_pack 29 = .ok (.iload_n 3, 1) := by decide +kernel
theorem dX0_pack_30 : decode cX0_pack 30 = .ok (.iand, 1) := by decide +kernel
theorem dX0_pack_31 : decode cX0_pack 31 = .ok (.iload 5, 2) := by decide +kernel
theorem dX0_pack_33 : decode cX0_pack 33 = .ok (.ishl, 1) := by decide +kernel
theorem dX0_pack_34 : decode cX0_pack 34 = .ok (.ior, 1) := by decide +kernel
theorem dX0_pack_35 : decode cX0_pack 35 = .ok (.istore 4, 2) := by decide +kernel
theorem dX0_pack_37 : decode cX0_pack 37 = .ok (.iload 5, 2) := by decide +kernel
theorem dX0_pack_39 : decode cX0_pack 39 = .ok (.iload_n 1, 1) := by decide +kernel
theorem dX0_pack_40 : decode cX0_pack 40 = .ok (.iadd, 1) := by decide +kernel
theorem dX0_pack_41 : decode cX0_pack 41 = .ok (.istore 5, 2) := by decide +kernel
theorem dX0_pack_43 : decode cX0_pack 43 = .ok (.iload 5, 2) := by decide +kernel
theorem dX0_pack_45 : decode cX0_pack 45 = .ok (.bipush 8, 2) := by decide +kernel
theorem dX0_pack_47 : decode cX0_pack 47 = .ok (.if_icmp .lt 22, 3) := by decide +kernel
theorem dX0_pack_50 : decode cX0_pack 50 = .ok (.aload_n 2, 1) := by decide +kernel
theorem dX0_pack_51 : decode cX0_pack 51 = .ok (.iload 4, 2) := by decide +kernel
theorem dX0_pack_53 : decode cX0_pack 53 = .ok (.invokevirtual 9, 3) := by decide +kernel
theorem dX0_pack_56 : decode cX0_pack 56 = .ok (.iload 4, 2) := by decide +kernel
theorem dX0_pack_58 : decode cX0_pack 58 = .ok (.bipush 8, 2) := by decide +kernel
theorem dX0_pack_60 : decode cX0_pack 60 = .ok (.iushr, 1) := by decide +kernel
theorem dX0_pack_61 : decode cX0_pack 61 = .ok (.istore 4, 2) := by decide +kernel
theorem dX0_pack_63 : decode cX0_pack 63 = .ok (.iinc 5 (-8), 3) := by decide +kernel
theorem dX0_pack_66 : decode cX0_pack 66 = .ok (.goto (-23), 3) := by decide +kernel
theorem dX0_pack_69 : decode cX0_pack 69 = .ok (.iinc 6 1, 3) := by decide +kernel
theorem dX0_pack_72 : decode cX0_pack 72 = .ok (.goto (-57), 3) := by decide +kernel
theorem dX0_pack_75 : decode cX0_pack 75 = .ok (.return_, 1) := by decide +kernel
theorem dX0_unpack_0 : decode cX0_unpack 0 = .ok (.iconst 1, 1) := by decide +kernel
theorem dX0_unpack_1 : decode cX0_unpack 1 = .ok (.iload_n 1, 1) := by decide +kernel
theorem dX0_unpack_2 : decode cX0_unpack 2 = .ok (.ishl, 1) := by decide +kernel
theorem dX0_unpack_3 : decode cX0_unpack 3 = .ok (.iconst 1, 1) := by decide +kernel
theorem dX0_unpack_4 : decode cX0_unpack 4 = .ok (.isub, 1) := by decide +kernel
theorem dX0_unpack_5 : decode cX0_unpack 5 = .ok (.istore 4, 2) := by decide +kernel
theorem dX0_unpack_7 : decode cX0_unpack 7 = .ok (.iconst 0, 1) := by decide +kernel
theorem dX0_unpack_8 : decode cX0_unpack 8 = .ok (.istore 5, 2) := by decide +kernel
theorem dX0_unpack_10 : decode cX0_unpack 10 = .ok (.iconst 0, 1) := by decide +kernel
theorem dX0_unpack_11 : decode cX0_unpack 11 = .ok (.istore 6, 2) := by decide +kernel
theorem dX0_unpack_13 : decode cX0_unpack 13 = .ok (.iload_n 3, 1) := by decide +kernel
theorem dX0_unpack_14 : decode cX0_unpack 14 = .ok (.istore 7, 2) := by decide +kernel
theorem dX0_unpack_16 : decode cX0_unpack 16 = .ok (.iconst 0, 1) := by decide +kernel
theorem dX0_unpack_17 : decode cX0_unpack 17 = .ok (.istore 8, 2) := by decide +kernel
theorem dX0_unpack_19 : decode cX0_unpack 19 = .ok (.iload 8, 2) := by decide +kernel
theorem dX0_unpack_21 : decode cX0_unpack 21 = .ok (.sipush 256, 3) := by decide +kernel
theorem dX0_unpack_24 : decode cX0_unpack 24 = .ok (.if_icmp .ge 63, 3) := by decide +kernel
theorem dX0_unpack_27 : decode cX0_unpack 27 = .ok (.iload 6, 2) := by decide +kernel
theorem dX0_unpack_29 : decode cX0_unpack 29 = .ok (.iload_n 1, 1) := by decide +kernel
theorem dX0_unpack_30 : decode cX0_unpack 30 = .ok (.if_icmp .ge 26, 3) := by decide +kernel
theorem dX0_unpack_33 : decode cX0_unpack 33 = .ok (.iload 5, 2) := by decide +kernel
theorem dX0_unpack_35 : decode cX0_unpack 35 = .ok (.aload_n 2, 1) := by decide +kernel
theorem dX0_unpack_36 : decode cX0_unpack 36 = .ok (.iload 7, 2) := by decide +kernel
theorem dX0_unpack_38 : decode cX0_unpack 38 = .ok (.invokevirtual 15, 3) := by decide +kernel
theorem dX0_unpack_41 : decode cX0_unpack 41 = .ok (.iload 6, 2) := by decide +kernel
theorem dX0_unpack_43 : decode cX0_unpack 43 = .ok (.ishl, 1) := by decide +kernel
theorem dX0_unpack_44 : decode cX0_unpack 44 = .ok (.ior, 1) := by decide +kernel
theorem dX0_unpack_45 : decode cX0_unpack 45 = .ok (.istore 5, 2) := by decide +kernel
theorem dX0_unpack_47 : decode cX0_unpack 47 = .ok (.iinc 7 1, 3) := by decide +kernel
theorem dX0_unpack_50 : decode cX0_unpack 50 = .ok (.iinc 6 8, 3) := by decide +kernel
theorem dX0_unpack_53 : decode cX0_unpack 53 = .ok (.goto (-26), 3) := by decide +kernel
theorem dX0_unpack_56 : decode cX0_unpack 56 = .ok (.aload_n 0, 1) := by decide +kernel
theorem dX0_unpack_57 : decode cX0_unpack 57 = .ok (.iload 8, 2) := by decide +kernel
theorem dX0_unpack_59 : decode cX0_unpack 59 = .ok (.iload 5, 2) := by decide +kernel
theorem dX0_unpack_61 : decode cX0_unpack 61 = .ok (.iload 4, 2) := by decide +kernel
theorem dX0_unpack_63 : decode cX0_unpack 63 = .ok (.iand, 1) := by decide +kernel
theorem dX0_unpack_64 : decode cX0_unpack 64 = .ok (.sipush 3329, 3) := by decide +kernel
theorem dX0_unpack_67 : decode cX0_unpack 67 = .ok (.irem, 1) := by decide +kernel
theorem dX0_unpack_68 : decode cX0_unpack 68 = .ok (.iastore, 1) := by decide +kernel
theorem dX0_unpack_69 : decode cX0_unpack 69 = .ok (.iload 5, 2) := by decide +kernel
theorem dX0_unpack_71 : decode cX0_unpack 71 = .ok (.iload_n 1, 1) := by decide +kernel
theorem dX0_unpack_72 : decode cX0_unpack 72 = .ok (.iushr, 1) := by decide +kernel
theorem dX0_unpack_73 : decode cX0_unpack 73 = .ok (.istore 5, 2) := by decide +kernel
theorem dX0_unpack_75 : decode cX0_unpack 75 = .ok (.iload 6, 2) := by decide +kernel
theorem dX0_unpack_77 : decode cX0_unpack 77 = .ok (.iload_n 1, 1) := by decide +kernel
theorem dX0_unpack_78 : decode cX0_unpack 78 = .ok (.isub, 1) := by decide +kernel
theorem dX0_unpack_79 : decode cX0_unpack 79 = .ok (.istore 6, 2) := by decide +kernel
theorem dX0_unpack_81 : decode cX0_unpack 81 = .ok (.iinc 8 1, 3) := by decide +kernel
theorem dX0_unpack_84 : decode cX0_unpack 84 = .ok (.goto (-65), 3) := by decide +kernel
theorem dX0_unpack_87 : decode cX0_unpack 87 = .ok (.return_, 1) := by decide +kernel
theorem dX0_firstGroup_0 : decode cX0_firstGroup 0 = .ok (.iload_n 0, 1) := by decide +kernel
theorem dX0_firstGroup_1 : decode cX0_firstGroup 1 = .ok (.iload_n 1, 1) := by decide +kernel
theorem dX0_firstGroup_2 : decode cX0_firstGroup 2 = .ok (.bipush 15, 2) := by decide +kernel
theorem dX0_firstGroup_4 : decode cX0_firstGroup 4 = .ok (.iand, 1) := by decide +kernel
theorem dX0_firstGroup_5 : decode cX0_firstGroup 5 = .ok (.bipush 8, 2) := by decide +kernel
theorem dX0_firstGroup_7 : decode cX0_firstGroup 7 = .ok (.ishl, 1) := by decide +kernel
theorem dX0_firstGroup_8 : decode cX0_firstGroup 8 = .ok (.ior, 1) := by decide +kernel
theorem dX0_firstGroup_9 : decode cX0_firstGroup 9 = .ok (.ireturn, 1) := by decide +kernel
theorem dX0_secondGroup_0 : decode cX0_secondGroup 0 = .ok (.iload_n 0, 1) := by decide +kernel
theorem dX0_secondGroup_1 : decode cX0_secondGroup 1 = .ok (.iconst 4, 1) := by decide +kernel
theorem dX0_secondGroup_2 : decode cX0_secondGroup 2 = .ok (.ishr, 1) := by decide +kernel
theorem dX0_secondGroup_3 : decode cX0_secondGroup 3 = .ok (.iload_n 1, 1) := by decide +kernel
theorem dX0_secondGroup_4 : decode cX0_secondGroup 4 = .ok (.iconst 4, 1) := by decide +kernel
theorem dX0_secondGroup_5 : decode cX0_secondGroup 5 = .ok (.ishl, 1) := by decide +kernel
theorem dX0_secondGroup_6 : decode cX0_secondGroup 6 = .ok (.ior, 1) := by decide +kernel
theorem dX0_secondGroup_7 : decode cX0_secondGroup 7 = .ok (.ireturn, 1) := by decide +kernel
theorem dX0_groupsAreSmall_0 : decode cX0_groupsAreSmall 0 = .ok (.iconst 0, 1) := by decide +kernel
theorem dX0_groupsAreSmall_1 : decode cX0_groupsAreSmall 1 = .ok (.istore_n 2, 1) := by decide +kernel
theorem dX0_groupsAreSmall_2 : decode cX0_groupsAreSmall 2 = .ok (.iload_n 2, 1) := by decide +kernel
theorem dX0_groupsAreSmall_3 : decode cX0_groupsAreSmall 3 = .ok (.iconst 2, 1) := by decide +kernel
theorem dX0_groupsAreSmall_4 : decode cX0_groupsAreSmall 4 = .ok (.iadd, 1) := by decide +kernel
theorem dX0_groupsAreSmall_5 : decode cX0_groupsAreSmall 5 = .ok (.iload_n 1, 1) := by decide +kernel
theorem dX0_groupsAreSmall_6 : decode cX0_groupsAreSmall 6 = .ok (.if_icmp .ge 51, 3) := by decide +kernel
theorem dX0_groupsAreSmall_9 : decode cX0_groupsAreSmall 9 = .ok (.aload_n 0, 1) := by decide +kernel
theorem dX0_groupsAreSmall_10 : decode cX0_groupsAreSmall 10 = .ok (.iload_n 2, 1) := by decide +kernel
theorem dX0_groupsAreSmall_11 : decode cX0_groupsAreSmall 11 = .ok (.iconst 1, 1) := by decide +kernel
theorem dX0_groupsAreSmall_12 : decode cX0_groupsAreSmall 12 = .ok (.iadd, 1) := by decide +kernel
theorem dX0_groupsAreSmall_13 : decode cX0_groupsAreSmall 13 = .ok (.invokevirtual 15, 3) := by decide +kernel
theorem dX0_groupsAreSmall_16 : decode cX0_groupsAreSmall 16 = .ok (.istore_n 3, 1) := by decide +kernel
theorem dX0_groupsAreSmall_17 : decode cX0_groupsAreSmall 17 = .ok (.aload_n 0, 1) := by decide +kernel
theorem dX0_groupsAreSmall_18 : decode cX0_groupsAreSmall 18 = .ok (.iload_n 2, 1) := by decide +kernel
theorem dX0_groupsAreSmall_19 : decode cX0_groupsAreSmall 19 = .ok (.invokevirtual 15, 3) := by decide +kernel
theorem dX0_groupsAreSmall_22 : decode cX0_groupsAreSmall 22 = .ok (.iload_n 3, 1) := by decide +kernel
theorem dX0_groupsAreSmall_23 : decode cX0_groupsAreSmall 23 = .ok (.invokestatic 19, 3) := by decide +kernel
theorem dX0_groupsAreSmall_26 : decode cX0_groupsAreSmall 26 = .ok (.sipush 3329, 3) := by decide +kernel
theorem dX0_groupsAreSmall_29 : decode cX0_groupsAreSmall 29 = .ok (.if_icmp .ge 20, 3) := by decide +kernel
theorem dX0_groupsAreSmall_32 : decode cX0_groupsAreSmall 32 = .ok (.iload_n 3, 1) := by decide +kernel
theorem dX0_groupsAreSmall_33 : decode cX0_groupsAreSmall 33 = .ok (.aload_n 0, 1) := by decide +kernel
theorem dX0_groupsAreSmall_34 : decode cX0_groupsAreSmall 34 = .ok (.iload_n 2, 1) := by decide +kernel
theorem dX0_groupsAreSmall_35 : decode cX0_groupsAreSmall 35 = .ok (.iconst 2, 1) := by decide +kernel
theorem dX0_groupsAreSmall_36 : decode cX0_groupsAreSmall 36 = .ok (.iadd, 1) := by decide +kernel
theorem dX0_groupsAreSmall_37 : decode cX0_groupsAreSmall 37 = .ok (.invokevirtual 15, 3) := by decide +kernel
theorem dX0_groupsAreSmall_40 : decode cX0_groupsAreSmall 40 = .ok (.invokestatic 25, 3) := by decide +kernel
theorem dX0_groupsAreSmall_43 : decode cX0_groupsAreSmall 43 = .ok (.sipush 3329, 3) := by decide +kernel
theorem dX0_groupsAreSmall_46 : decode cX0_groupsAreSmall 46 = .ok (.if_icmp .lt 5, 3) := by decide +kernel
theorem dX0_groupsAreSmall_49 : decode cX0_groupsAreSmall 49 = .ok (.iconst 0, 1) := by decide +kernel
theorem dX0_groupsAreSmall_50 : decode cX0_groupsAreSmall 50 = .ok (.ireturn, 1) := by decide +kernel
theorem dX0_groupsAreSmall_51 : decode cX0_groupsAreSmall 51 = .ok (.iinc 2 3, 3) := by decide +kernel
theorem dX0_groupsAreSmall_54 : decode cX0_groupsAreSmall 54 = .ok (.goto (-52), 3) := by decide +kernel
theorem dX0_groupsAreSmall_57 : decode cX0_groupsAreSmall 57 = .ok (.iconst 1, 1) := by decide +kernel
theorem dX0_groupsAreSmall_58 : decode cX0_groupsAreSmall 58 = .ok (.ireturn, 1) := by decide +kernel
theorem dX2_ofRank_0 : decode cX2_ofRank 0 = .ok (.iload_n 0, 1) := by decide +kernel
theorem dX2_ofRank_1 : decode cX2_ofRank 1 = .ok (.tableswitch 39 2 4 #[27, 31, 35], 27) := by decide +kernel
theorem dX2_ofRank_28 : decode cX2_ofRank 28 = .ok (.getstatic 5, 3) := by decide +kernel
theorem dX2_ofRank_31 : decode cX2_ofRank 31 = .ok (.areturn, 1) := by decide +kernel
theorem dX2_ofRank_32 : decode cX2_ofRank 32 = .ok (.getstatic 9, 3) := by decide +kernel
theorem dX2_ofRank_35 : decode cX2_ofRank 35 = .ok (.areturn, 1) := by decide +kernel
theorem dX2_ofRank_36 : decode cX2_ofRank 36 = .ok (.getstatic 12, 3) := by decide +kernel
theorem dX2_ofRank_39 : decode cX2_ofRank 39 = .ok (.areturn, 1) := by decide +kernel
theorem dX2_ofRank_40 : decode cX2_ofRank 40 = .ok (.aconst_null, 1) := by decide +kernel
theorem dX2_ofRank_41 : decode cX2_ofRank 41 = .ok (.areturn, 1) := by decide +kernel
theorem dX2_innerLength_0 : decode cX2_innerLength 0 = .ok (.sipush 384, 3) := by decide +kernel
theorem dX2_innerLength_3 : decode cX2_innerLength 3 = .ok (.aload_n 0, 1) := by decide +kernel
theorem dX2_innerLength_4 : decode cX2_innerLength 4 = .ok (.getfield 34, 3) := by decide +kernel
theorem dX2_innerLength_7 : decode cX2_innerLength 7 = .ok (.imul, 1) := by decide +kernel
theorem dX2_innerLength_8 : decode cX2_innerLength 8 = .ok (.ireturn, 1) := by decide +kernel
theorem dX2_publicLength_0 : decode cX2_publicLength 0 = .ok (.sipush 384, 3) := by decide +kernel
theorem dX2_publicLength_3 : decode cX2_publicLength 3 = .ok (.aload_n 0, 1) := by decide +kernel
theorem dX2_publicLength_4 : decode cX2_publicLength 4 = .ok (.getfield 34, 3) := by decide +kernel
theorem dX2_publicLength_7 : decode cX2_publicLength 7 = .ok (.imul, 1) := by decide +kernel
theorem dX2_publicLength_8 : decode cX2_publicLength 8 = .ok (.bipush 32, 2) := by decide +kernel
theorem dX2_publicLength_10 : decode cX2_publicLength 10 = .ok (.iadd, 1) := by decide +kernel
theorem dX2_publicLength_11 : decode cX2_publicLength 11 = .ok (.ireturn, 1) := by decide +kernel
theorem dX2_privateLength_0 : decode cX2_privateLength 0 = .ok (.sipush 768, 3) := by decide +kernel
theorem dX2_privateLength_3 : decode cX2_privateLength 3 = .ok (.aload_n 0, 1) := by decide +kernel
theorem dX2_privateLength_4 : decode cX2_privateLength 4 = .ok (.getfield 34, 3) := by decide +kernel
theorem dX2_privateLength_7 : decode cX2_privateLength 7 = .ok (.imul, 1) := by decide +kernel
theorem dX2_privateLength_8 : decode cX2_privateLength 8 = .ok (.bipush 96, 2) := by decide +kernel
theorem dX2_privateLength_10 : decode cX2_privateLength 10 = .ok (.iadd, 1) := by decide +kernel
theorem dX2_privateLength_11 : decode cX2_privateLength 11 = .ok (.ireturn, 1) := by decide +kernel
theorem dX2_textLength_0 : decode cX2_textLength 0 = .ok (.bipush 32, 2) := by decide +kernel
theorem dX2_textLength_2 : decode cX2_textLength 2 = .ok (.aload_n 0, 1) := by decide +kernel
theorem dX2_textLength_3 : decode cX2_textLength 3 = .ok (.getfield 44, 3) := by decide +kernel
theorem dX2_textLength_6 : decode cX2_textLength 6 = .ok (.aload_n 0, 1) := by decide +kernel
theorem dX2_textLength_7 : decode cX2_textLength 7 = .ok (.getfield 34, 3) := by decide +kernel
theorem dX2_textLength_10 : decode cX2_textLength 10 = .ok (.imul, 1) := by decide +kernel
theorem dX2_textLength_11 : decode cX2_textLength 11 = .ok (.aload_n 0, 1) := by decide +kernel
theorem dX2_textLength_12 : decode cX2_textLength 12 = .ok (.getfield 47, 3) := by decide +kernel
theorem dX2_textLength_15 : decode cX2_textLength 15 = .ok (.iadd, 1) := by decide +kernel
theorem dX2_textLength_16 : decode cX2_textLength 16 = .ok (.imul, 1) := by decide +kernel
theorem dX2_textLength_17 : decode cX2_textLength 17 = .ok (.ireturn, 1) := by decide +kernel
theorem dX3_toPairs_0 : decode cX3_toPairs 0 = .ok (.iconst 1, 1) := by decide +kernel
theorem dX3_toPairs_1 : decode cX3_toPairs 1 = .ok (.istore_n 1, 1) := by decide +kernel
theorem dX3_toPairs_2 : decode cX3_toPairs 2 = .ok (.sipush 128, 3) := by decide +kernel
theorem dX3_toPairs_5 : decode cX3_toPairs 5 = .ok (.istore_n 2, 1) := by decide +kernel
theorem dX3_toPairs_6 : decode cX3_toPairs 6 = .ok (.iload_n 2, 1) := by decide +kernel
theorem dX3_toPairs_7 : decode cX3_toPairs 7 = .ok (.iconst 2, 1) := by decide +kernel
theorem dX3_toPairs_8 : decode cX3_toPairs 8 = .ok (.if_icmp .lt 42, 3) := by decide +kernel
theorem dX3_toPairs_11 : decode cX3_toPairs 11 = .ok (.iconst 0, 1) := by decide +kernel
theorem dX3_toPairs_12 : decode cX3_toPairs 12 = .ok (.istore_n 3, 1) := by decide +kernel
theorem dX3_toPairs_13 : decode cX3_toPairs 13 = .ok (.iload_n 3, 1) := by decide +kernel
theorem dX3_toPairs_14 : decode cX3_toPairs 14 = .ok (.sipush 256, 3) := by decide +kernel
theorem dX3_toPairs_17 : decode cX3_toPairs 17 = .ok (.if_icmp .ge 26, 3) := by decide +kernel
theorem dX3_toPairs_20 : decode cX3_toPairs 20 = .ok (.aload_n 0, 1) := by decide +kernel
theorem dX3_toPairs_21 : decode cX3_toPairs 21 = .ok (.iload_n 3, 1) := by decide +kernel
theorem dX3_toPairs_22 : decode cX3_toPairs 22 = .ok (.iload_n 2, 1) := by decide +kernel
theorem dX3_toPairs_23 : decode cX3_toPairs 23 = .ok (.getstatic 9, 3) := by decide +kernel
theorem dX3_toPairs_26 : decode cX3_toPairs 26 = .ok (.iload_n 1, 1) := by decide +kernel
theorem dX3_toPairs_27 : decode cX3_toPairs 27 = .ok (.iaload, 1) := by decide +kernel
theorem dX3_toPairs_28 : decode cX3_toPairs 28 = .ok (.invokestatic 15, 3) := by decide +kernel
theorem dX3_toPairs_31 : decode cX3_toPairs 31 = .ok (.iinc 1 1, 3) := by decide +kernel
theorem dX3_toPairs_34 : decode cX3_toPairs 34 = .ok (.iload_n 3, 1) := by decide +kernel
theorem dX3_toPairs_35 : decode cX3_toPairs 35 = .ok (.iconst 2, 1) := by decide +kernel
theorem dX3_toPairs_36 : decode cX3_toPairs 36 = .ok (.iload_n 2, 1) := by decide +kernel
theorem dX3_toPairs_37 : decode cX3_toPairs 37 = .ok (.imul, 1) := by decide +kernel
theorem dX3_toPairs_38 : decode cX3_toPairs 38 = .ok (.iadd, 1) := by decide +kernel
theorem dX3_toPairs_39 : decode cX3_toPairs 39 = .ok (.istore_n 3, 1) := by decide +kernel
theorem dX3_toPairs_40 : decode cX3_toPairs 40 = .ok (.goto (-27), 3) := by decide +kernel
theorem dX3_toPairs_43 : decode cX3_toPairs 43 = .ok (.iload_n 2, 1) := by decide +kernel
theorem dX3_toPairs_44 : decode cX3_toPairs 44 = .ok (.iconst 1, 1) := by decide +kernel
theorem dX3_toPairs_45 : decode cX3_toPairs 45 = .ok (.ishr, 1) := by decide +kernel
theorem dX3_toPairs_46 : decode cX3_toPairs 46 = .ok (.istore_n 2, 1) := by decide +kernel
theorem dX3_toPairs_47 : decode cX3_toPairs 47 = .ok (.goto (-41), 3) := by decide +kernel
theorem dX3_toPairs_50 : decode cX3_toPairs 50 = .ok (.return_, 1) := by decide +kernel
theorem dX3_fromPairs_0 : decode cX3_fromPairs 0 = .ok (.bipush 127, 2) := by decide +kernel
theorem dX3_fromPairs_2 : decode cX3_fromPairs 2 = .ok (.istore_n 1, 1) := by decide +kernel
theorem dX3_fromPairs_3 : decode cX3_fromPairs 3 = .ok (.iconst 2, 1) := by decide +kernel
theorem dX3_fromPairs_4 : decode cX3_fromPairs 4 = .ok (.istore_n 2, 1) := by decide +kernel
theorem dX3_fromPairs_5 : decode cX3_fromPairs 5 = .ok (.iload_n 2, 1) := by decide +kernel
theorem dX3_fromPairs_6 : decode cX3_fromPairs 6 = .ok (.sipush 128, 3) := by decide +kernel
theorem dX3_fromPairs_9 : decode cX3_fromPairs 9 = .ok (.if_icmp .gt 42, 3) := by decide +kernel
theorem dX3_fromPairs_12 : decode cX3_fromPairs 12 = .ok (.iconst 0, 1) := by decide +kernel
theorem dX3_fromPairs_13 : decode cX3_fromPairs 13 = .ok (.istore_n 3, 1) := by decide +kernel
theorem dX3_fromPairs_14 : decode cX3_fromPairs 14 = .ok (.iload_n 3, 1) := by decide +kernel
theorem dX3_fromPairs_15 : decode cX3_fromPairs 15 = .ok (.sipush 256, 3) := by decide +kernel
theorem dX3_fromPairs_18 : decode cX3_fromPairs 18 = .ok (.if_icmp .ge 26, 3) := by decide +kernel
theorem dX3_fromPairs_21 : decode cX3_fromPairs 21 = .ok (.aload_n 0, 1) := by decide +kernel
theorem dX3_fromPairs_22 : decode cX3_fromPairs 22 = .ok (.iload_n 3, 1) := by decide +kernel
theorem dX3_fromPairs_23 : decode cX3_fromPairs 23 = .ok (.iload_n 2, 1) := by decide +kernel
theorem dX3_fromPairs_24 : decode cX3_fromPairs 24 = .ok (.getstatic 9, 3) := by decide +kernel
theorem dX3_fromPairs_27 : decode cX3_fromPairs 27 = .ok (.iload_n 1, 1) := by decide +kernel
theorem dX3_fromPairs_28 : decode cX3_fromPairs 28 = .ok (.iaload, 1) := by decide +kernel
theorem dX3_fromPairs_29 : decode cX3_fromPairs 29 = .ok (.invokestatic 19, 3) := by decide +kernel
theorem dX3_fromPairs_32 : decode cX3_fromPairs 32 = .ok (.iinc 1 (-1), 3) := by decide +kernel
theorem dX3_fromPairs_35 : decode cX3_fromPairs 35 = .ok (.iload_n 3, 1) := by decide +kernel
theorem dX3_fromPairs_36 : decode cX3_fromPairs 36 = .ok (.iconst 2, 1) := by decide +kernel
theorem dX3_fromPairs_37 : decode cX3_fromPairs 37 = .ok (.iload_n 2, 1) := by decide +kernel
theorem dX3_fromPairs_38 : decode cX3_fromPairs 38 = .ok (.imul, 1) := by decide +kernel
theorem dX3_fromPairs_39 : decode cX3_fromPairs 39 = .ok (.iadd, 1) := by decide +kernel
theorem dX3_fromPairs_40 : decode cX3_fromPairs 40 = .ok (.istore_n 3, 1) := by decide +kernel
theorem dX3_fromPairs_41 : decode cX3_fromPairs 41 = .ok (.goto (-27), 3) := by decide +kernel
theorem dX3_fromPairs_44 : decode cX3_fromPairs 44 = .ok (.iload_n 2, 1) := by decide +kernel
theorem dX3_fromPairs_45 : decode cX3_fromPairs 45 = .ok (.iconst 1, 1) := by decide +kernel
theorem dX3_fromPairs_46 : decode cX3_fromPairs 46 = .ok (.ishl, 1) := by decide +kernel
theorem dX3_fromPairs_47 : decode cX3_fromPairs 47 = .ok (.istore_n 2, 1) := by decide +kernel
theorem dX3_fromPairs_48 : decode cX3_fromPairs 48 = .ok (.goto (-43), 3) := by decide +kernel
theorem dX3_fromPairs_51 : decode cX3_fromPairs 51 = .ok (.iconst 0, 1) := by decide +kernel
theorem dX3_fromPairs_52 : decode cX3_fromPairs 52 = .ok (.istore_n 2, 1) := by decide +kernel
theorem dX3_fromPairs_53 : decode cX3_fromPairs 53 = .ok (.iload_n 2, 1) := by decide +kernel
theorem dX3_fromPairs_54 : decode cX3_fromPairs 54 = .ok (.sipush 256, 3) := by decide +kernel
theorem dX3_fromPairs_57 : decode cX3_fromPairs 57 = .ok (.if_icmp .ge 23, 3) := by decide +kernel
theorem dX3_fromPairs_60 : decode cX3_fromPairs 60 = .ok (.aload_n 0, 1) := by decide +kernel
theorem dX3_fromPairs_61 : decode cX3_fromPairs 61 = .ok (.iload_n 2, 1) := by decide +kernel
theorem dX3_fromPairs_62 : decode cX3_fromPairs 62 = .ok (.aload_n 0, 1) := by decide +kernel
theorem dX3_fromPairs_63 : decode cX3_fromPairs 63 = .ok (.iload_n 2, 1) := by decide +kernel
theorem dX3_fromPairs_64 : decode cX3_fromPairs 64 = .ok (.iaload, 1) := by decide +kernel
theorem dX3_fromPairs_65 : decode cX3_fromPairs 65 = .ok (.sipush 3303, 3) := by decide +kernel
theorem dX3_fromPairs_68 : decode cX3_fromPairs 68 = .ok (.imul, 1) := by decide +kernel
theorem dX3_fromPairs_69 : decode cX3_fromPairs 69 = .ok (.sipush 3329, 3) := by decide +kernel
theorem dX3_fromPairs_72 : decode cX3_fromPairs 72 = .ok (.irem, 1) := by decide +kernel
theorem dX3_fromPairs_73 : decode cX3_fromPairs 73 = .ok (.iastore, 1) := by decide +kernel
theorem dX3_fromPairs_74 : decode cX3_fromPairs 74 = .ok (.iinc 2 1, 3) := by decide +kernel
theorem dX3_fromPairs_77 : decode cX3_fromPairs 77 = .ok (.goto (-24), 3) := by decide +kernel
theorem dX3_fromPairs_80 : decode cX3_fromPairs 80 = .ok (.return_, 1) := by decide +kernel
theorem dX3_splitBlock_0 : decode cX3_splitBlock 0 = .ok (.iload_n 1, 1) := by decide +kernel
theorem dX3_splitBlock_1 : decode cX3_splitBlock 1 = .ok (.istore 4, 2) := by decide +kernel
theorem dX3_splitBlock_3 : decode cX3_splitBlock 3 = .ok (.iload 4, 2) := by decide +kernel
theorem dX3_splitBlock_5 : decode cX3_splitBlock 5 = .ok (.iload_n 1, 1) := by decide +kernel
theorem dX3_splitBlock_6 : decode cX3_splitBlock 6 = .ok (.iload_n 2, 1) := by decide +kernel
theorem dX3_splitBlock_7 : decode cX3_splitBlock 7 = .ok (.iadd, 1) := by decide +kernel
theorem dX3_splitBlock_8 : decode cX3_splitBlock 8 = .ok (.if_icmp .ge 61, 3) := by decide +kernel
theorem dX3_splitBlock_11 : decode cX3_splitBlock 11 = .ok (.aload_n 0, 1) := by decide +kernel
theorem dX3_splitBlock_12 : decode cX3_splitBlock 12 = .ok (.iload 4, 2) := by decide +kernel
theorem dX3_splitBlock_14 : decode cX3_splitBlock 14 = .ok (.iaload, 1) := by decide +kernel
theorem dX3_splitBlock_15 : decode cX3_splitBlock 15 = .ok (.istore 5, 2) := by decide +kernel
theorem dX3_splitBlock_17 : decode cX3_splitBlock 17 = .ok (.aload_n 0, 1) := by decide +kernel
theorem dX3_splitBlock_18 : decode cX3_splitBlock 18 = .ok (.iload 4, 2) := by decide +kernel
theorem dX3_splitBlock_20 : decode cX3_splitBlock 20 = .ok (.iload_n 2, 1) := by decide +kernel
theorem dX3_splitBlock_21 : decode cX3_splitBlock 21 = .ok (.iadd, 1) := by decide +kernel
theorem dX3_splitBlock_22 : decode cX3_splitBlock 22 = .ok (.iaload, 1) := by decide +kernel
theorem dX3_splitBlock_23 : decode cX3_splitBlock 23 = .ok (.iload_n 3, 1) := by decide +kernel
theorem dX3_splitBlock_24 : decode cX3_splitBlock 24 = .ok (.imul, 1) := by decide +kernel
theorem dX3_splitBlock_25 : decode cX3_splitBlock 25 = .ok (.sipush 3329, 3) := by decide +kernel
theorem dX3_splitBlock_28 : decode cX3_splitBlock 28 = .ok (.irem, 1) := by decide +kernel
theorem dX3_splitBlock_29 : decode cX3_splitBlock 29 = .ok (.istore 6, 2) := by decide +kernel
theorem dX3_splitBlock_31 : decode cX3_splitBlock 31 = .ok (.aload_n 0, 1) := by decide +kernel
theorem dX3_splitBlock_32 : decode cX3_splitBlock 32 = .ok (.iload 4, 2) := by decide +kernel
theorem dX3_splitBlock_34 : decode cX3_splitBlock 34 = .ok (.iload 5, 2) := by decide +kernel
theorem dX3_splitBlock_36 : decode cX3_splitBlock 36 = .ok (.iload 6, 2) := by decide +kernel
theorem dX3_splitBlock_38 : decode cX3_splitBlock 38 = .ok (.iadd, 1) := by decide +kernel
theorem dX3_splitBlock_39 : decode cX3_splitBlock 39 = .ok (.sipush 3329, 3) := by decide +kernel
theorem dX3_splitBlock_42 : decode cX3_splitBlock 42 = .ok (.irem, 1) := by decide +kernel
theorem dX3_splitBlock_43 : decode cX3_splitBlock 43 = .ok (.iastore, 1) := by decide +kernel
theorem dX3_splitBlock_44 : decode cX3_splitBlock 44 = .ok (.aload_n 0, 1) := by decide +kernel
theorem dX3_splitBlock_45 : decode cX3_splitBlock 45 = .ok (.iload 4, 2) := by decide +kernel
theorem dX3_splitBlock_47 : decode cX3_splitBlock 47 = .ok (.iload_n 2, 1) := by decide +kernel
theorem dX3_splitBlock_48 : decode cX3_splitBlock 48 = .ok (.iadd, 1) := by decide +kernel
theorem dX3_splitBlock_49 : decode cX3_splitBlock 49 = .ok (.iload 5, 2) := by decide +kernel
theorem dX3_splitBlock_51 : decode cX3_splitBlock 51 = .ok (.iload 6, 2) := by decide +kernel
theorem dX3_splitBlock_53 : decode cX3_splitBlock 53 = .ok (.isub, 1) := by decide +kernel
theorem dX3_splitBlock_54 : decode cX3_splitBlock 54 = .ok (.sipush 3329, 3) := by decide +kernel
theorem dX3_splitBlock_57 : decode cX3_splitBlock 57 = .ok (.iadd, 1) := by decide +kernel
theorem dX3_splitBlock_58 : decode cX3_splitBlock 58 = .ok (.sipush 3329, 3) := by decide +kernel
theorem dX3_splitBlock_61 : decode cX3_splitBlock 61 = .ok (.irem, 1) := by decide +kernel
theorem dX3_splitBlock_62 : decode cX3_splitBlock 62 = .ok (.iastore, 1) := by decide +kernel
theorem dX3_splitBlock_63 : decode cX3_splitBlock 63 = .ok (.iinc 4 1, 3) := by decide +kernel
theorem dX3_splitBlock_66 : decode cX3_splitBlock 66 = .ok (.goto (-63), 3) := by decide +kernel
theorem dX3_splitBlock_69 : decode cX3_splitBlock 69 = .ok (.return_, 1) := by decide +kernel
theorem dX3_joinBlock_0 : decode cX3_joinBlock 0 = .ok (.iload_n 1, 1) := by decide +kernel
theorem dX3_joinBlock_1 : decode cX3_joinBlock 1 = .ok (.istore 4, 2) := by decide +kernel
theorem dX3_joinBlock_3 : decode cX3_joinBlock 3 = .ok (.iload 4, 2) := by decide +kernel
theorem dX3_joinBlock_5 : decode cX3_joinBlock 5 = .ok (.iload_n 1, 1) := by decide +kernel
theorem dX3_joinBlock_6 : decode cX3_joinBlock 6 = .ok (.iload_n 2, 1) := by decide +kernel
theorem dX3_joinBlock_7 : decode cX3_joinBlock 7 = .ok (.iadd, 1) := by decide +kernel
theorem dX3_joinBlock_8 : decode cX3_joinBlock 8 = .ok (.if_icmp .ge 57, 3) := by decide +kernel
theorem dX3_joinBlock_11 : decode cX3_joinBlock 11 = .ok (.aload_n 0, 1) := by decide +kernel
theorem dX3_joinBlock_12 : decode cX3_joinBlock 12 = .ok (.iload 4, 2) := by decide +kernel
theorem dX3_joinBlock_14 : decode cX3_joinBlock 14 = .ok (.iaload, 1) := by decide +kernel
theorem dX3_joinBlock_15 : decode cX3_joinBlock 15 = .ok (.istore 5, 2) := by decide +kernel
theorem dX3_joinBlock_17 : decode cX3_joinBlock 17 = .ok (.aload_n 0, 1) := by decide +kernel
theorem dX3_joinBlock_18 : decode cX3_joinBlock 18 = .ok (.iload 4, 2) := by decide +kernel
theorem dX3_joinBlock_20 : decode cX3_joinBlock 20 = .ok (.iload_n 2, 1) := by decide +kernel
theorem dX3_joinBlock_21 : decode cX3_joinBlock 21 = .ok (.iadd, 1) := by decide +kernel
theorem dX3_joinBlock_22 : decode cX3_joinBlock 22 = .ok (.iaload, 1) := by decide +kernel
theorem dX3_joinBlock_23 : decode cX3_joinBlock 23 = .ok (.istore 6, 2) := by decide +kernel
theorem dX3_joinBlock_25 : decode cX3_joinBlock 25 = .ok (.aload_n 0, 1) := by decide +kernel
theorem dX3_joinBlock_26 : decode cX3_joinBlock 26 = .ok (.iload 4, 2) := by decide +kernel
theorem dX3_joinBlock_28 : decode cX3_joinBlock 28 = .ok (.iload 5, 2) := by decide +kernel
theorem dX3_joinBlock_30 : decode cX3_joinBlock 30 = .ok (.iload 6, 2) := by decide +kernel
theorem dX3_joinBlock_32 : decode cX3_joinBlock 32 = .ok (.iadd, 1) := by decide +kernel
theorem dX3_joinBlock_33 : decode cX3_joinBlock 33 = .ok (.sipush 3329, 3) := by decide +kernel
theorem dX3_joinBlock_36 : decode cX3_joinBlock 36 = .ok (.irem, 1) := by decide +kernel
theorem dX3_joinBlock_37 : decode cX3_joinBlock 37 = .ok (.iastore, 1) := by decide +kernel
theorem dX3_joinBlock_38 : decode cX3_joinBlock 38 = .ok (.aload_n 0, 1) := by decide +kernel
theorem dX3_joinBlock_39 : decode cX3_joinBlock 39 = .ok (.iload 4, 2) := by decide +kernel
theorem dX3_joinBlock_41 : decode cX3_joinBlock 41 = .ok (.iload_n 2, 1) := by decide +kernel
theorem dX3_joinBlock_42 : decode cX3_joinBlock 42 = .ok (.iadd, 1) := by decide +kernel
theorem dX3_joinBlock_43 : decode cX3_joinBlock 43 = .ok (.iload 6, 2) := by decide +kernel
theorem dX3_joinBlock_45 : decode cX3_joinBlock 45 = .ok (.iload 5, 2) := by decide +kernel
theorem dX3_joinBlock_47 : decode cX3_joinBlock 47 = .ok (.isub, 1) := by decide +kernel
theorem dX3_joinBlock_48 : decode cX3_joinBlock 48 = .ok (.sipush 3329, 3) := by decide +kernel
theorem dX3_joinBlock_51 : decode cX3_joinBlock 51 = .ok (.iadd, 1) := by decide +kernel
theorem dX3_joinBlock_52 : decode cX3_joinBlock 52 = .ok (.iload_n 3, 1) := by decide +kernel
theorem dX3_joinBlock_53 : decode cX3_joinBlock 53 = .ok (.imul, 1) := by decide +kernel
theorem dX3_joinBlock_54 : decode cX3_joinBlock 54 = .ok (.sipush 3329, 3) := by decide +kernel
theorem dX3_joinBlock_57 : decode cX3_joinBlock 57 = .ok (.irem, 1) := by decide +kernel
theorem dX3_joinBlock_58 : decode cX3_joinBlock 58 = .ok (.iastore, 1) := by decide +kernel
theorem dX3_joinBlock_59 : decode cX3_joinBlock 59 = .ok (.iinc 4 1, 3) := by decide +kernel
theorem dX3_joinBlock_62 : decode cX3_joinBlock 62 = .ok (.goto (-59), 3) := by decide +kernel
theorem dX3_joinBlock_65 : decode cX3_joinBlock 65 = .ok (.return_, 1) := by decide +kernel
theorem dX3_multiplyPairs_0 : decode cX3_multiplyPairs 0 = .ok (.iconst 0, 1) := by decide +kernel
theorem dX3_multiplyPairs_1 : decode cX3_multiplyPairs 1 = .ok (.istore_n 3, 1) := by decide +kernel
theorem dX3_multiplyPairs_2 : decode cX3_multiplyPairs 2 = .ok (.iload_n 3, 1) := by decide +kernel
theorem dX3_multiplyPairs_3 : decode cX3_multiplyPairs 3 = .ok (.bipush 64, 2) := by decide +kernel
theorem dX3_multiplyPairs_5 : decode cX3_multiplyPairs 5 = .ok (.if_icmp .ge 47, 3) := by decide +kernel
theorem dX3_multiplyPairs_8 : decode cX3_multiplyPairs 8 = .ok (.getstatic 9, 3) := by decide +kernel
theorem dX3_multiplyPairs_11 : decode cX3_multiplyPairs 11 = .ok (.bipush 64, 2) := by decide +kernel
theorem dX3_multiplyPairs_13 : decode cX3_multiplyPairs 13 = .ok (.iload_n 3, 1) := by decide +kernel
theorem dX3_multiplyPairs_14 : decode cX3_multiplyPairs 14 = .ok (.iadd, 1) := by decide +kernel
theorem dX3_multiplyPairs_15 : decode cX3_multiplyPairs 15 = .ok (.iaload, 1) := by decide +kernel
theorem dX3_multiplyPairs_16 : decode cX3_multiplyPairs 16 = .ok (.istore 4, 2) := by decide +kernel
theorem dX3_multiplyPairs_18 : decode cX3_multiplyPairs 18 = .ok (.aload_n 0, 1) := by decide +kernel
theorem dX3_multiplyPairs_19 : decode cX3_multiplyPairs 19 = .ok (.aload_n 1, 1) := by decide +kernel
theorem dX3_multiplyPairs_20 : decode cX3_multiplyPairs 20 = .ok (.aload_n 2, 1) := by decide +kernel
theorem dX3_multiplyPairs_21 : decode cX3_multiplyPairs 21 = .ok (.iconst 4, 1) := by decide +kernel
theorem dX3_multiplyPairs_22 : decode cX3_multiplyPairs 22 = .ok (.iload_n 3, 1) := by decide +kernel
theorem dX3_multiplyPairs_23 : decode cX3_multiplyPairs 23 = .ok (.imul, 1) := by decide +kernel
theorem dX3_multiplyPairs_24 : decode cX3_multiplyPairs 24 = .ok (.iload 4, 2) := by decide +kernel
theorem dX3_multiplyPairs_26 : decode cX3_multiplyPairs 26 = .ok (.invokestatic 22, 3) := by decide +kernel
theorem dX3_multiplyPairs_29 : decode cX3_multiplyPairs 29 = .ok (.aload_n 0, 1) := by decide +kernel
theorem dX3_multiplyPairs_30 : decode cX3_multiplyPairs 30 = .ok (.aload_n 1, 1) := by decide +kernel
theorem dX3_multiplyPairs_31 : decode cX3_multiplyPairs 31 = .ok (.aload_n 2, 1) := by decide +kernel
theorem dX3_multiplyPairs_32 : decode cX3_multiplyPairs 32 = .ok (.iconst 4, 1) := by decide +kernel
theorem dX3_multiplyPairs_33 : decode cX3_multiplyPairs 33 = .ok (.iload_n 3, 1) := by decide +kernel
theorem dX3_multiplyPairs_34 : decode cX3_multiplyPairs 34 = .ok (.imul, 1) := by decide +kernel
theorem dX3_multiplyPairs_35 : decode cX3_multiplyPairs 35 = .ok (.iconst 2, 1) := by decide +kernel
theorem dX3_multiplyPairs_36 : decode cX3_multiplyPairs 36 = .ok (.iadd, 1) := by decide +kernel
theorem dX3_multiplyPairs_37 : decode cX3_multiplyPairs 37 = .ok (.sipush 3329, 3) := by decide +kernel
theorem dX3_multiplyPairs_40 : decode cX3_multiplyPairs 40 = .ok (.iload 4, 2) := by decide +kernel
theorem dX3_multiplyPairs_42 : decode cX3_multiplyPairs 42 = .ok (.isub, 1) := by decide +kernel
theorem dX3_multiplyPairs_43 : decode cX3_multiplyPairs 43 = .ok (.invokestatic 22, 3) := by decide +kernel
theorem dX3_multiplyPairs_46 : decode cX3_multiplyPairs 46 = .ok (.iinc 3 1, 3) := by decide +kernel
theorem dX3_multiplyPairs_49 : decode cX3_multiplyPairs 49 = .ok (.goto (-47), 3) := by decide +kernel
theorem dX3_multiplyPairs_52 : decode cX3_multiplyPairs 52 = .ok (.return_, 1) := by decide +kernel
theorem dX3_multiplyPair_0 : decode cX3_multiplyPair 0 = .ok (.aload_n 0, 1) := by decide +kernel
theorem dX3_multiplyPair_1 : decode cX3_multiplyPair 1 = .ok (.iload_n 3, 1) := by decide +kernel
theorem dX3_multiplyPair_2 : decode cX3_multiplyPair 2 = .ok (.iaload, 1) := by decide +kernel
theorem dX3_multiplyPair_3 : decode cX3_multiplyPair 3 = .ok (.aload_n 1, 1) := by decide +kernel
theorem dX3_multiplyPair_4 : decode cX3_multiplyPair 4 = .ok (.iload_n 3, 1) := by decide +kernel
theorem dX3_multiplyPair_5 : decode cX3_multiplyPair 5 = .ok (.iaload, 1) := by decide +kernel
theorem dX3_multiplyPair_6 : decode cX3_multiplyPair 6 = .ok (.imul, 1) := by decide +kernel
theorem dX3_multiplyPair_7 : decode cX3_multiplyPair 7 = .ok (.aload_n 0, 1) := by decide +kernel
theorem dX3_multiplyPair_8 : decode cX3_multiplyPair 8 = .ok (.iload_n 3, 1) := by decide +kernel
theorem dX3_multiplyPair_9 : decode cX3_multiplyPair 9 = .ok (.iconst 1, 1) := by decide +kernel
theorem dX3_multiplyPair_10 : decode cX3_multiplyPair 10 = .ok (.iadd, 1) := by decide +kernel
theorem dX3_multiplyPair_11 : decode cX3_multiplyPair 11 = .ok (.iaload, 1) := by decide +kernel
theorem dX3_multiplyPair_12 : decode cX3_multiplyPair 12 = .ok (.aload_n 1, 1) := by decide +kernel
theorem dX3_multiplyPair_13 : decode cX3_multiplyPair 13 = .ok (.iload_n 3, 1) := by decide +kernel
theorem dX3_multiplyPair_14 : decode cX3_multiplyPair 14 = .ok (.iconst 1, 1) := by decide +kernel
theorem dX3_multiplyPair_15 : decode cX3_multiplyPair 15 = .ok (.iadd, 1) := by decide +kernel
theorem dX3_multiplyPair_16 : decode cX3_multiplyPair 16 = .ok (.iaload, 1) := by decide +kernel
theorem dX3_multiplyPair_17 : decode cX3_multiplyPair 17 = .ok (.imul, 1) := by decide +kernel
theorem dX3_multiplyPair_18 : decode cX3_multiplyPair 18 = .ok (.sipush 3329, 3) := by decide +kernel
theorem dX3_multiplyPair_21 : decode cX3_multiplyPair 21 = .ok (.irem, 1) := by decide +kernel
theorem dX3_multiplyPair_22 : decode cX3_multiplyPair 22 = .ok (.iload 4, 2) := by decide +kernel
theorem dX3_multiplyPair_24 : decode cX3_multiplyPair 24 = .ok (.imul, 1) := by decide +kernel
theorem dX3_multiplyPair_25 : decode cX3_multiplyPair 25 = .ok (.iadd, 1) := by decide +kernel
theorem dX3_multiplyPair_26 : decode cX3_multiplyPair 26 = .ok (.istore 5, 2) := by decide +kernel
theorem dX3_multiplyPair_28 : decode cX3_multiplyPair 28 = .ok (.aload_n 0, 1) := by decide +kernel
theorem dX3_multiplyPair_29 : decode cX3_multiplyPair 29 = .ok (.iload_n 3, 1) := by decide +kernel
theorem dX3_multiplyPair_30 : decode cX3_multiplyPair 30 = .ok (.iaload, 1) := by decide +kernel
theorem dX3_multiplyPair_31 : decode cX3_multiplyPair 31 = .ok (.aload_n 1, 1) := by decide +kernel
theorem dX3_multiplyPair_32 : decode cX3_multiplyPair 32 = .ok (.iload_n 3, 1) := by decide +kernel
theorem dX3_multiplyPair_33 : decode cX3_multiplyPair 33 = .ok (.iconst 1, 1) := by decide +kernel
theorem dX3_multiplyPair_34 : decode cX3_multiplyPair 34 = .ok (.iadd, 1) := by decide +kernel
theorem dX3_multiplyPair_35 : decode cX3_multiplyPair 35 = .ok (.iaload, 1) := by decide +kernel
theorem dX3_multiplyPair_36 : decode cX3_multiplyPair 36 = .ok (.imul, 1) := by decide +kernel
theorem dX3_multiplyPair_37 : decode cX3_multiplyPair 37 = .ok (.aload_n 0, 1) := by decide +kernel
theorem dX3_multiplyPair_38 : decode cX3_multiplyPair 38 = .ok (.iload_n 3, 1) := by decide +kernel
theorem dX3_multiplyPair_39 : decode cX3_multiplyPair 39 = .ok (.iconst 1, 1) := by decide +kernel
theorem dX3_multiplyPair_40 : decode cX3_multiplyPair 40 = .ok (.iadd, 1) := by decide +kernel
theorem dX3_multiplyPair_41 : decode cX3_multiplyPair 41 = .ok (.iaload, 1) := by decide +kernel
theorem dX3_multiplyPair_42 : decode cX3_multiplyPair 42 = .ok (.aload_n 1, 1) := by decide +kernel
theorem dX3_multiplyPair_43 : decode cX3_multiplyPair 43 = .ok (.iload_n 3, 1) := by decide +kernel
theorem dX3_multiplyPair_44 : decode cX3_multiplyPair 44 = .ok (.iaload, 1) := by decide +kernel
theorem dX3_multiplyPair_45 : decode cX3_multiplyPair 45 = .ok (.imul, 1) := by decide +kernel
theorem dX3_multiplyPair_46 : decode cX3_multiplyPair 46 = .ok (.iadd, 1) := by decide +kernel
theorem dX3_multiplyPair_47 : decode cX3_multiplyPair 47 = .ok (.istore 6, 2) := by decide +kernel
theorem dX3_multiplyPair_49 : decode cX3_multiplyPair 49 = .ok (.aload_n 2, 1) := by decide +kernel
theorem dX3_multiplyPair_50 : decode cX3_multiplyPair 50 = .ok (.iload_n 3, 1) := by decide +kernel
theorem dX3_multiplyPair_51 : decode cX3_multiplyPair 51 = .ok (.iload 5, 2) := by decide +kernel
theorem dX3_multiplyPair_53 : decode cX3_multiplyPair 53 = .ok (.sipush 3329, 3) := by decide +kernel
theorem dX3_multiplyPair_56 : decode cX3_multiplyPair 56 = .ok (.irem, 1) := by decide +kernel
theorem dX3_multiplyPair_57 : decode cX3_multiplyPair 57 = .ok (.iastore, 1) := by decide +kernel
theorem dX3_multiplyPair_58 : decode cX3_multiplyPair 58 = .ok (.aload_n 2, 1) := by decide +kernel
theorem dX3_multiplyPair_59 : decode cX3_multiplyPair 59 = .ok (.iload_n 3, 1) := by decide +kernel
theorem dX3_multiplyPair_60 : decode cX3_multiplyPair 60 = .ok (.iconst 1, 1) := by decide +kernel
theorem dX3_multiplyPair_61 : decode cX3_multiplyPair 61 = .ok (.iadd, 1) := by decide +kernel
theorem dX3_multiplyPair_62 : decode cX3_multiplyPair 62 = .ok (.iload 6, 2) := by decide +kernel
theorem dX3_multiplyPair_64 : decode cX3_multiplyPair 64 = .ok (.sipush 3329, 3) := by decide +kernel
theorem dX3_multiplyPair_67 : decode cX3_multiplyPair 67 = .ok (.irem, 1) := by decide +kernel
theorem dX3_multiplyPair_68 : decode cX3_multiplyPair 68 = .ok (.iastore, 1) := by decide +kernel
theorem dX3_multiplyPair_69 : decode cX3_multiplyPair 69 = .ok (.return_, 1) := by decide +kernel
theorem dX3_addTimes_0 : decode cX3_addTimes 0 = .ok (.iconst 0, 1) := by decide +kernel
theorem dX3_addTimes_1 : decode cX3_addTimes 1 = .ok (.istore_n 3, 1) := by decide +kernel
theorem dX3_addTimes_2 : decode cX3_addTimes 2 = .ok (.iload_n 3, 1) := by decide +kernel
theorem dX3_addTimes_3 : decode cX3_addTimes 3 = .ok (.sipush 256, 3) := by decide +kernel
theorem dX3_addTimes_6 : decode cX3_addTimes 6 = .ok (.if_icmp .ge 29, 3) := by decide +kernel
theorem dX3_addTimes_9 : decode cX3_addTimes 9 = .ok (.aload_n 0, 1) := by decide +kernel
theorem dX3_addTimes_10 : decode cX3_addTimes 10 = .ok (.iload_n 3, 1) := by decide +kernel
theorem dX3_addTimes_11 : decode cX3_addTimes 11 = .ok (.aload_n 0, 1) := by decide +kernel
theorem dX3_addTimes_12 : decode cX3_addTimes 12 = .ok (.iload_n 3, 1) := by decide +kernel
theorem dX3_addTimes_13 : decode cX3_addTimes 13 = .ok (.iaload, 1) := by decide +kernel
theorem dX3_addTimes_14 : decode cX3_addTimes 14 = .ok (.iload_n 2, 1) := by decide +kernel
theorem dX3_addTimes_15 : decode cX3_addTimes 15 = .ok (.aload_n 1, 1) := by decide +kernel
theorem dX3_addTimes_16 : decode cX3_addTimes 16 = .ok (.iload_n 3, 1) := by decide +kernel
theorem dX3_addTimes_17 : decode cX3_addTimes 17 = .ok (.iaload, 1) := by decide +kernel
theorem dX3_addTimes_18 : decode cX3_addTimes 18 = .ok (.imul, 1) := by decide +kernel
theorem dX3_addTimes_19 : decode cX3_addTimes 19 = .ok (.iadd, 1) := by decide +kernel
theorem dX3_addTimes_20 : decode cX3_addTimes 20 = .ok (.sipush 3329, 3) := by decide +kernel
theorem dX3_addTimes_23 : decode cX3_addTimes 23 = .ok (.iadd, 1) := by decide +kernel
theorem dX3_addTimes_24 : decode cX3_addTimes 24 = .ok (.sipush 3329, 3) := by decide +kernel
theorem dX3_addTimes_27 : decode cX3_addTimes 27 = .ok (.irem, 1) := by decide +kernel
theorem dX3_addTimes_28 : decode cX3_addTimes 28 = .ok (.iastore, 1) := by decide +kernel
theorem dX3_addTimes_29 : decode cX3_addTimes 29 = .ok (.iinc 3 1, 3) := by decide +kernel
theorem dX3_addTimes_32 : decode cX3_addTimes 32 = .ok (.goto (-30), 3) := by decide +kernel
theorem dX3_addTimes_35 : decode cX3_addTimes 35 = .ok (.return_, 1) := by decide +kernel
theorem dX4_init_0 : decode cX4_init 0 = .ok (.aload_n 0, 1) := by decide +kernel
theorem dX4_init_1 : decode cX4_init 1 = .ok (.invokespecial 3, 3) := by decide +kernel
theorem dX4_init_4 : decode cX4_init 4 = .ok (.aload_n 0, 1) := by decide +kernel
theorem dX4_init_5 : decode cX4_init 5 = .ok (.iload_n 1, 1) := by decide +kernel
theorem dX4_init_6 : decode cX4_init 6 = .ok (.iconst 0, 1) := by decide +kernel
theorem dX4_init_7 : decode cX4_init 7 = .ok (.invokestatic 9, 3) := by decide +kernel
theorem dX4_init_10 : decode cX4_init 10 = .ok (.putfield 15, 3) := by decide +kernel
theorem dX4_init_13 : decode cX4_init 13 = .ok (.aload_n 0, 1) := by decide +kernel
theorem dX4_init_14 : decode cX4_init 14 = .ok (.aload_n 0, 1) := by decide +kernel
theorem dX4_init_15 : decode cX4_init 15 = .ok (.getfield 15, 3) := by decide +kernel
theorem dX4_init_18 : decode cX4_init 18 = .ok (.iconst 3, 1) := by decide +kernel
theorem dX4_init_19 : decode cX4_init 19 = .ok (.iadd, 1) := by decide +kernel
theorem dX4_init_20 : decode cX4_init 20 = .ok (.iconst 4, 1) := by decide +kernel
theorem dX4_init_21 : decode cX4_init 21 = .ok (.idiv, 1) := by decide +kernel
theorem dX4_init_22 : decode cX4_init 22 = .ok (.newarray .int, 2) := by decide +kernel
theorem dX4_init_24 : decode cX4_init 24 = .ok (.putfield 21, 3) := by decide +kernel
theorem dX4_init_27 : decode cX4_init 27 = .ok (.return_, 1) := by decide +kernel
theorem dX4_size_0 : decode cX4_size 0 = .ok (.aload_n 0, 1) := by decide +kernel
theorem dX4_size_1 : decode cX4_size 1 = .ok (.getfield 25, 3) := by decide +kernel
theorem dX4_size_4 : decode cX4_size 4 = .ok (.ireturn, 1) := by decide +kernel
theorem dX4_clear_0 : decode cX4_clear 0 = .ok (.aload_n 0, 1) := by decide +kernel
theorem dX4_clear_1 : decode cX4_clear 1 = .ok (.iconst 0, 1) := by decide +kernel
theorem dX4_clear_2 : decode cX4_clear 2 = .ok (.putfield 25, 3) := by decide +kernel
theorem dX4_clear_5 : decode cX4_clear 5 = .ok (.return_, 1) := by decide +kernel
theorem dX4_cutTo_0 : decode cX4_cutTo 0 = .ok (.iload_n 1, 1) := by decide +kernel
theorem dX4_cutTo_1 : decode cX4_cutTo 1 = .ok (.ifCond .lt 16, 3) := by decide +kernel
theorem dX4_cutTo_4 : decode cX4_cutTo 4 = .ok (.iload_n 1, 1) := by decide +kernel
theorem dX4_cutTo_5 : decode cX4_cutTo 5 = .ok (.aload_n 0, 1) := by decide +kernel
theorem dX4_cutTo_6 : decode cX4_cutTo 6 = .ok (.getfield 25, 3) := by decide +kernel
theorem dX4_cutTo_9 : decode cX4_cutTo 9 = .ok (.if_icmp .ge 8, 3) := by decide +kernel
theorem dX4_cutTo_12 : decode cX4_cutTo 12 = .ok (.aload_n 0, 1) := by decide +kernel
theorem dX4_cutTo_13 : decode cX4_cutTo 13 = .ok (.iload_n 1, 1) := by decide +kernel
theorem dX4_cutTo_14 : decode cX4_cutTo 14 = .ok (.putfield 25, 3) := by decide +kernel
theorem dX4_cutTo_17 : decode cX4_cutTo 17 = .ok (.return_, 1) := by decide +kernel
theorem dX4_byteAt_0 : decode cX4_byteAt 0 = .ok (.iload_n 1, 1) := by decide +kernel
theorem dX4_byteAt_1 : decode cX4_byteAt 1 = .ok (.ifCond .lt 11, 3) := by decide +kernel
theorem dX4_byteAt_4 : decode cX4_byteAt 4 = .ok (.iload_n 1, 1) := by decide +kernel
theorem dX4_byteAt_5 : decode cX4_byteAt 5 = .ok (.aload_n 0, 1) := by decide +kernel
theorem dX4_byteAt_6 : decode cX4_byteAt 6 = .ok (.getfield 25, 3) := by decide +kernel
theorem dX4_byteAt_9 : decode cX4_byteAt 9 = .ok (.if_icmp .lt 5, 3) := by decide +kernel
theorem dX4_byteAt_12 : decode cX4_byteAt 12 = .ok (.iconst (-1), 1) := by decide +kernel
theorem dX4_byteAt_13 : decode cX4_byteAt 13 = .ok (.ireturn, 1) := by decide +kernel
theorem dX4_byteAt_14 : decode cX4_byteAt 14 = .ok (.aload_n 0, 1) := by decide +kernel
theorem dX4_byteAt_15 : decode cX4_byteAt 15 = .ok (.getfield 21, 3) := by decide +kernel
theorem dX4_byteAt_18 : decode cX4_byteAt 18 = .ok (.iload_n 1, 1) := by decide +kernel
theorem dX4_byteAt_19 : decode cX4_byteAt 19 = .ok (.iconst 2, 1) := by decide +kernel
theorem dX4_byteAt_20 : decode cX4_byteAt 20 = .ok (.ishr, 1) := by decide +kernel
theorem dX4_byteAt_21 : decode cX4_byteAt 21 = .ok (.iaload, 1) := by decide +kernel
theorem dX4_byteAt_22 : decode cX4_byteAt 22 = .ok (.iload_n 1, 1) := by decide +kernel
theorem dX4_byteAt_23 : decode cX4_byteAt 23 = .ok (.iconst 3, 1) := by decide +kernel
theorem dX4_byteAt_24 : decode cX4_byteAt 24 = .ok (.iand, 1) := by decide +kernel
theorem dX4_byteAt_25 : decode cX4_byteAt 25 = .ok (.iconst 3, 1) := by decide +kernel
theorem dX4_byteAt_26 : decode cX4_byteAt 26 = .ok (.ishl, 1) := by decide +kernel
theorem dX4_byteAt_27 : decode cX4_byteAt 27 = .ok (.iushr, 1) := by decide +kernel
theorem dX4_byteAt_28 : decode cX4_byteAt 28 = .ok (.sipush 255, 3) := by decide +kernel
theorem dX4_byteAt_31 : decode cX4_byteAt 31 = .ok (.iand, 1) := by decide +kernel
theorem dX4_byteAt_32 : decode cX4_byteAt 32 = .ok (.ireturn, 1) := by decide +kernel
theorem dX4_replace_0 : decode cX4_replace 0 = .ok (.iload_n 1, 1) := by decide +kernel
theorem dX4_replace_1 : decode cX4_replace 1 = .ok (.ifCond .lt 11, 3) := by decide +kernel
theorem dX4_replace_4 : decode cX4_replace 4 = .ok (.iload_n 1, 1) := by decide +kernel
theorem dX4_replace_5 : decode cX4_replace 5 = .ok (.aload_n 0, 1) := by decide +kernel
theorem dX4_replace_6 : decode cX4_replace 6 = .ok (.getfield 25, 3) := by decide +kernel
theorem dX4_replace_9 : decode cX4_replace 9 = .ok (.if_icmp .lt 5, 3) := by decide +kernel
theorem dX4_replace_12 : decode cX4_replace 12 = .ok (.iconst 0, 1) := by decide +kernel
theorem dX4_replace_13 : decode cX4_replace 13 = .ok (.ireturn, 1) := by decide +kernel
theorem dX4_replace_14 : decode cX4_replace 14 = .ok (.iload_n 1, 1) := by decide +kernel
theorem dX4_replace_15 : decode cX4_replace 15 = .ok (.iconst 3, 1) := by decide +kernel
theorem dX4_replace_16 : decode cX4_replace 16 = .ok (.iand, 1) := by decide +kernel
theorem dX4_replace_17 : decode cX4_replace 17 = .ok (.iconst 3, 1) := by decide +kernel
theorem dX4_replace_18 : decode cX4_replace 18 = .ok (.ishl, 1) := by decide +kernel
theorem dX4_replace_19 : decode cX4_replace 19 = .ok (.istore_n 3, 1) := by decide +kernel
theorem dX4_replace_20 : decode cX4_replace 20 = .ok (.aload_n 0, 1) := by decide +kernel
theorem dX4_replace_21 : decode cX4_replace 21 = .ok (.getfield 21, 3) := by decide +kernel
theorem dX4_replace_24 : decode cX4_replace 24 = .ok (.iload_n 1, 1) := by decide +kernel
theorem dX4_replace_25 : decode cX4_replace 25 = .ok (.iconst 2, 1) := by decide +kernel
theorem dX4_replace_26 : decode cX4_replace 26 = .ok (.ishr, 1) := by decide +kernel
theorem dX4_replace_27 : decode cX4_replace 27 = .ok (.aload_n 0, 1) := by decide +kernel
theorem dX4_replace_28 : decode cX4_replace 28 = .ok (.getfield 21, 3) := by decide +kernel
theorem dX4_replace_31 : decode cX4_replace 31 = .ok (.iload_n 1, 1) := by decide +kernel
theorem dX4_replace_32 : decode cX4_replace 32 = .ok (.iconst 2, 1) := by decide +kernel
theorem dX4_replace_33 : decode cX4_replace 33 = .ok (.ishr, 1) := by decide +kernel
theorem dX4_replace_34 : decode cX4_replace 34 = .ok (.iaload, 1) := by decide +kernel
theorem dX4_replace_35 : decode cX4_replace 35 = .ok (.sipush 255, 3) := by decide +kernel
theorem dX4_replace_38 : decode cX4_replace 38 = .ok (.iload_n 3, 1) := by decide +kernel
theorem dX4_replace_39 : decode cX4_replace 39 = .ok (.ishl, 1) := by decide +kernel
theorem dX4_replace_40 : decode cX4_replace 40 = .ok (.iconst (-1), 1) := by decide +kernel
theorem dX4_replace_41 : decode cX4_replace 41 = .ok (.ixor, 1) := by decide +kernel
theorem dX4_replace_42 : decode cX4_replace 42 = .ok (.iand, 1) := by decide +kernel
theorem dX4_replace_43 : decode cX4_replace 43 = .ok (.iload_n 2, 1) := by decide +kernel
theorem dX4_replace_44 : decode cX4_replace 44 = .ok (.sipush 255, 3) := by decide +kernel
theorem dX4_replace_47 : decode cX4_replace 47 = .ok (.iand, 1) := by decide +kernel
theorem dX4_replace_48 : decode cX4_replace 48 = .ok (.iload_n 3, 1) := by decide +kernel
theorem dX4_replace_49 : decode cX4_replace 49 = .ok (.ishl, 1) := by decide +kernel
theorem dX4_replace_50 : decode cX4_replace 50 = .ok (.ior, 1) := by decide +kernel
theorem dX4_replace_51 : decode cX4_replace 51 = .ok (.iastore, 1) := by decide +kernel
theorem dX4_replace_52 : decode cX4_replace 52 = .ok (.iconst 1, 1) := by decide +kernel
theorem dX4_replace_53 : decode cX4_replace 53 = .ok (.ireturn, 1) := by decide +kernel
theorem dX4_append_0 : decode cX4_append 0 = .ok (.aload_n 0, 1) := by decide +kernel
theorem dX4_append_1 : decode cX4_append 1 = .ok (.getfield 25, 3) := by decide +kernel
theorem dX4_append_4 : decode cX4_append 4 = .ok (.aload_n 0, 1) := by decide +kernel
theorem dX4_append_5 : decode cX4_append 5 = .ok (.getfield 15, 3) := by decide +kernel
theorem dX4_append_8 : decode cX4_append 8 = .ok (.if_icmp .ge 25, 3) := by decide +kernel
theorem dX4_append_11 : decode cX4_append 11 = .ok (.aload_n 0, 1) := by decide +kernel
theorem dX4_append_12 : decode cX4_append 12 = .ok (.dup, 1) := by decide +kernel
theorem dX4_append_13 : decode cX4_append 13 = .ok (.getfield 25, 3) := by decide +kernel
theorem dX4_append_16 : decode cX4_append 16 = .ok (.iconst 1, 1) := by decide +kernel
theorem dX4_append_17 : decode cX4_append 17 = .ok (.iadd, 1) := by decide +kernel
theorem dX4_append_18 : decode cX4_append 18 = .ok (.putfield 25, 3) := by decide +kernel
theorem dX4_append_21 : decode cX4_append 21 = .ok (.aload_n 0, 1) := by decide +kernel
theorem dX4_append_22 : decode cX4_append 22 = .ok (.aload_n 0, 1) := by decide +kernel
theorem dX4_append_23 : decode cX4_append 23 = .ok (.getfield 25, 3) := by decide +kernel
theorem dX4_append_26 : decode cX4_append 26 = .ok (.iconst 1, 1) := by decide +kernel
theorem dX4_append_27 : decode cX4_append 27 = .ok (.isub, 1) := by decide +kernel
theorem dX4_append_28 : decode cX4_append 28 = .ok (.iload_n 1, 1) := by decide +kernel
theorem dX4_append_29 : decode cX4_append 29 = .ok (.invokevirtual 28, 3) := by decide +kernel
theorem dX4_append_32 : decode cX4_append 32 = .ok (.pop, 1) := by decide +kernel
theorem dX4_append_33 : decode cX4_append 33 = .ok (.return_, 1) := by decide +kernel
theorem dX4_appendWord_0 : decode cX4_appendWord 0 = .ok (.aload_n 0, 1) := by decide +kernel
theorem dX4_appendWord_1 : decode cX4_appendWord 1 = .ok (.iload_n 1, 1) := by decide +kernel
theorem dX4_appendWord_2 : decode cX4_appendWord 2 = .ok (.bipush 24, 2) := by decide +kernel
theorem dX4_appendWord_4 : decode cX4_appendWord 4 = .ok (.iushr, 1) := by decide +kernel
theorem dX4_appendWord_5 : decode cX4_appendWord 5 = .ok (.invokevirtual 32, 3) := by decide +kernel
theorem dX4_appendWord_8 : decode cX4_appendWord 8 = .ok (.aload_n 0, 1) := by decide +kernel
theorem dX4_appendWord_9 : decode cX4_appendWord 9 = .ok (.iload_n 1, 1) := by decide +kernel
theorem dX4_appendWord_10 : decode cX4_appendWord 10 = .ok (.bipush 16, 2) := by decide +kernel
theorem dX4_appendWord_12 : decode cX4_appendWord 12 = .ok (.iushr, 1) := by decide +kernel
theorem dX4_appendWord_13 : decode cX4_appendWord 13 = .ok (.invokevirtual 32, 3) := by decide +kernel
theorem dX4_appendWord_16 : decode cX4_appendWord 16 = .ok (.aload_n 0, 1) := by decide +kernel
theorem dX4_appendWord_17 : decode cX4_appendWord 17 = .ok (.iload_n 1, 1) := by decide +kernel
theorem dX4_appendWord_18 : decode cX4_appendWord 18 = .ok (.bipush 8, 2) := by decide +kernel
theorem dX4_appendWord_20 : decode cX4_appendWord 20 = .ok (.iushr, 1) := by decide +kernel
theorem dX4_appendWord_21 : decode cX4_appendWord 21 = .ok (.invokevirtual 32, 3) := by decide +kernel
theorem dX4_appendWord_24 : decode cX4_appendWord 24 = .ok (.aload_n 0, 1) := by decide +kernel
theorem dX4_appendWord_25 : decode cX4_appendWord 25 = .ok (.iload_n 1, 1) := by decide +kernel
theorem dX4_appendWord_26 : decode cX4_appendWord 26 = .ok (.invokevirtual 32, 3) := by decide +kernel
theorem dX4_appendWord_29 : decode cX4_appendWord 29 = .ok (.return_, 1) := by decide +kernel
theorem dX4_appendPart_0 : decode cX4_appendPart 0 = .ok (.iconst 0, 1) := by decide +kernel
theorem dX4_appendPart_1 : decode cX4_appendPart 1 = .ok (.istore 4, 2) := by decide +kernel
theorem dX4_appendPart_3 : decode cX4_appendPart 3 = .ok (.iload 4, 2) := by decide +kernel
theorem dX4_appendPart_5 : decode cX4_appendPart 5 = .ok (.iload_n 3, 1) := by decide +kernel
theorem dX4_appendPart_6 : decode cX4_appendPart 6 = .ok (.if_icmp .ge 21, 3) := by decide +kernel
theorem dX4_appendPart_9 : decode cX4_appendPart 9 = .ok (.aload_n 0, 1) := by decide +kernel
theorem dX4_appendPart_10 : decode cX4_appendPart 10 = .ok (.aload_n 1, 1) := by decide +kernel
theorem dX4_appendPart_11 : decode cX4_appendPart 11 = .ok (.iload_n 2, 1) := by decide +kernel
theorem dX4_appendPart_12 : decode cX4_appendPart 12 = .ok (.iload 4, 2) := by decide +kernel
theorem dX4_appendPart_14 : decode cX4_appendPart 14 = .ok (.iadd, 1) := by decide +kernel
theorem dX4_appendPart_15 : decode cX4_appendPart 15 = .ok (.invokevirtual 36, 3) := by decide +kernel
theorem dX4_appendPart_18 : decode cX4_appendPart 18 = .ok (.invokevirtual 32, 3) := by decide +kernel
theorem dX4_appendPart_21 : decode cX4_appendPart 21 = .ok (.iinc 4 1, 3) := by decide +kernel
theorem dX4_appendPart_24 : decode cX4_appendPart 24 = .ok (.goto (-21), 3) := by decide +kernel
theorem dX4_appendPart_27 : decode cX4_appendPart 27 = .ok (.return_, 1) := by decide +kernel
theorem dX4_become_0 : decode cX4_become 0 = .ok (.aload_n 1, 1) := by decide +kernel
theorem dX4_become_1 : decode cX4_become 1 = .ok (.getfield 25, 3) := by decide +kernel
theorem dX4_become_4 : decode cX4_become 4 = .ok (.aload_n 0, 1) := by decide +kernel
theorem dX4_become_5 : decode cX4_become 5 = .ok (.getfield 15, 3) := by decide +kernel
theorem dX4_become_8 : decode cX4_become 8 = .ok (.if_icmp .le 4, 3) := by decide +kernel
theorem dX4_become_11 : decode cX4_become 11 = .ok (.return_, 1) := by decide +kernel
theorem dX4_become_12 : decode cX4_become 12 = .ok (.aload_n 1, 1) := by decide +kernel
theorem dX4_become_13 : decode cX4_become 13 = .ok (.getfield 21, 3) := by decide +kernel
theorem dX4_become_16 : decode cX4_become 16 = .ok (.iconst 0, 1) := by decide +kernel
theorem dX4_become_17 : decode cX4_become 17 = .ok (.aload_n 0, 1) := by decide +kernel
theorem dX4_become_18 : decode cX4_become 18 = .ok (.getfield 21, 3) := by decide +kernel
theorem dX4_become_21 : decode cX4_become 21 = .ok (.iconst 0, 1) := by decide +kernel
theorem dX4_become_22 : decode cX4_become 22 = .ok (.aload_n 1, 1) := by decide +kernel
theorem dX4_become_23 : decode cX4_become 23 = .ok (.getfield 25, 3) := by decide +kernel
theorem dX4_become_26 : decode cX4_become 26 = .ok (.iconst 3, 1) := by decide +kernel
theorem dX4_become_27 : decode cX4_become 27 = .ok (.iadd, 1) := by decide +kernel
theorem dX4_become_28 : decode cX4_become 28 = .ok (.iconst 4, 1) := by decide +kernel
theorem dX4_become_29 : decode cX4_become 29 = .ok (.idiv, 1) := by decide +kernel
theorem dX4_become_30 : decode cX4_become 30 = .ok (.invokestatic 40, 3) := by decide +kernel
theorem dX4_become_33 : decode cX4_become 33 = .ok (.aload_n 0, 1) := by decide +kernel
theorem dX4_become_34 : decode cX4_become 34 = .ok (.aload_n 1, 1) := by decide +kernel
theorem dX4_become_35 : decode cX4_become 35 = .ok (.getfield 25, 3) := by decide +kernel
theorem dX4_become_38 : decode cX4_become 38 = .ok (.putfield 25, 3) := by decide +kernel
theorem dX4_become_41 : decode cX4_become 41 = .ok (.return_, 1) := by decide +kernel
theorem dX4_sameAs_0 : decode cX4_sameAs 0 = .ok (.aload_n 0, 1) := by decide +kernel
theorem dX4_sameAs_1 : decode cX4_sameAs 1 = .ok (.getfield 25, 3) := by decide +kernel
theorem dX4_sameAs_4 : decode cX4_sameAs 4 = .ok (.aload_n 1, 1) := by decide +kernel
theorem dX4_sameAs_5 : decode cX4_sameAs 5 = .ok (.getfield 25, 3) := by decide +kernel
theorem dX4_sameAs_8 : decode cX4_sameAs 8 = .ok (.if_icmp .ne 21, 3) := by decide +kernel
theorem dX4_sameAs_11 : decode cX4_sameAs 11 = .ok (.aload_n 0, 1) := by decide +kernel
theorem dX4_sameAs_12 : decode cX4_sameAs 12 = .ok (.iconst 0, 1) := by decide +kernel
theorem dX4_sameAs_13 : decode cX4_sameAs 13 = .ok (.aload_n 1, 1) := by decide +kernel
theorem dX4_sameAs_14 : decode cX4_sameAs 14 = .ok (.iconst 0, 1) := by decide +kernel
theorem dX4_sameAs_15 : decode cX4_sameAs 15 = .ok (.aload_n 0, 1) := by decide +kernel
theorem dX4_sameAs_16 : decode cX4_sameAs 16 = .ok (.getfield 25, 3) := by decide +kernel
theorem dX4_sameAs_19 : decode cX4_sameAs 19 = .ok (.invokevirtual 46, 3) := by decide +kernel
theorem dX4_sameAs_22 : decode cX4_sameAs 22 = .ok (.ifCond .eq 7, 3) := by decide +kernel
theorem dX4_sameAs_25 : decode cX4_sameAs 25 = .ok (.iconst 1, 1) := by decide +kernel
theorem dX4_sameAs_26 : decode cX4_sameAs 26 = .ok (.goto 4, 3) := by decide +kernel
theorem dX4_sameAs_29 : decode cX4_sameAs 29 = .ok (.iconst 0, 1) := by decide +kernel
theorem dX4_sameAs_30 : decode cX4_sameAs 30 = .ok (.ireturn, 1) := by decide +kernel
theorem dX4_partIsSame_0 : decode cX4_partIsSame 0 = .ok (.iconst 0, 1) := by decide +kernel
theorem dX4_partIsSame_1 : decode cX4_partIsSame 1 = .ok (.istore 5, 2) := by decide +kernel
theorem dX4_partIsSame_3 : decode cX4_partIsSame 3 = .ok (.iload 5, 2) := by decide +kernel
theorem dX4_partIsSame_5 : decode cX4_partIsSame 5 = .ok (.iload 4, 2) := by decide +kernel
theorem dX4_partIsSame_7 : decode cX4_partIsSame 7 = .ok (.if_icmp .ge 30, 3) := by decide +kernel
theorem dX4_partIsSame_10 : decode cX4_partIsSame 10 = .ok (.aload_n 0, 1) := by decide +kernel
theorem dX4_partIsSame_11 : decode cX4_partIsSame 11 = .ok (.iload_n 1, 1) := by decide +kernel
theorem dX4_partIsSame_12 : decode cX4_partIsSame 12 = .ok (.iload 5, 2) := by decide +kernel
theorem dX4_partIsSame_14 : decode cX4_partIsSame 14 = .ok (.iadd, 1) := by decide +kernel
theorem dX4_partIsSame_15 : decode cX4_partIsSame 15 = .ok (.invokevirtual 36, 3) := by decide +kernel
theorem dX4_partIsSame_18 : decode cX4_partIsSame 18 = .ok (.aload_n 2, 1) := by decide +kernel
theorem dX4_partIsSame_19 : decode cX4_partIsSame 19 = .ok (.iload_n 3, 1) := by decide +kernel
theorem dX4_partIsSame_20 : decode cX4_partIsSame 20 = .ok (.iload 5, 2) := by decide +kernel
theorem dX4_partIsSame_22 : decode cX4_partIsSame 22 = .ok (.iadd, 1) := by decide +kernel
theorem dX4_partIsSame_23 : decode cX4_partIsSame 23 = .ok (.invokevirtual 36, 3) := by decide +kernel
theorem dX4_partIsSame_26 : decode cX4_partIsSame 26 = .ok (.if_icmp .eq 5, 3) := by decide +kernel
theorem dX4_partIsSame_29 : decode cX4_partIsSame 29 = .ok (.iconst 0, 1) := by decide +kernel
theorem dX4_partIsSame_30 : decode cX4_partIsSame 30 = .ok (.ireturn, 1) := by decide +kernel
theorem dX4_partIsSame_31 : decode cX4_partIsSame 31 = .ok (.iinc 5 1, 3) := by decide +kernel
theorem dX4_partIsSame_34 : decode cX4_partIsSame 34 = .ok (.goto (-31), 3) := by decide +kernel
theorem dX4_partIsSame_37 : decode cX4_partIsSame 37 = .ok (.iconst 1, 1) := by decide +kernel
theorem dX4_partIsSame_38 : decode cX4_partIsSame 38 = .ok (.ireturn, 1) := by decide +kernel
theorem dX5_init_0 : decode cX5_init 0 = .ok (.aload_n 0, 1) := by decide +kernel
theorem dX5_init_1 : decode cX5_init 1 = .ok (.invokespecial 3, 3) := by decide +kernel
theorem dX5_init_4 : decode cX5_init 4 = .ok (.aload_n 0, 1) := by decide +kernel
theorem dX5_init_5 : decode cX5_init 5 = .ok (.aload_n 1, 1) := by decide +kernel
theorem dX5_init_6 : decode cX5_init 6 = .ok (.putfield 9, 3) := by decide +kernel
theorem dX5_init_9 : decode cX5_init 9 = .ok (.return_, 1) := by decide +kernel
theorem dX5_drawUniform_0 : decode cX5_drawUniform 0 = .ok (.aload_n 0, 1) := by decide +kernel
theorem dX5_drawUniform_1 : decode cX5_drawUniform 1 = .ok (.getfield 9, 3) := by decide +kernel
theorem dX5_drawUniform_4 : decode cX5_drawUniform 4 = .ok (.iconst 2, 1) := by decide +kernel
theorem dX5_drawUniform_5 : decode cX5_drawUniform 5 = .ok (.invokevirtual 15, 3) := by decide +kernel
theorem dX5_drawUniform_8 : decode cX5_drawUniform 8 = .ok (.aload_n 0, 1) := by decide +kernel
theorem dX5_drawUniform_9 : decode cX5_drawUniform 9 = .ok (.getfield 9, 3) := by decide +kernel
theorem dX5_drawUniform_12 : decode cX5_drawUniform 12 = .ok (.aload_n 2, 1) := by decide +kernel
theorem dX5_drawUniform_13 : decode cX5_drawUniform 13 = .ok (.iload_n 3, 1) := by decide +kernel
theorem dX5_drawUniform_14 : decode cX5_drawUniform 14 = .ok (.bipush 32, 2) := by decide +kernel
theorem dX5_drawUniform_16 : decode cX5_drawUniform 16 = .ok (.invokevirtual 21, 3) := by decide +kernel
theorem dX5_drawUniform_19 : decode cX5_drawUniform 19 = .ok (.aload_n 0, 1) := by decide +kernel
theorem dX5_drawUniform_20 : decode cX5_drawUniform 20 = .ok (.getfield 9, 3) := by decide +kernel
theorem dX5_drawUniform_23 : decode cX5_drawUniform 23 = .ok (.iload 4, 2) := by decide +kernel
theorem dX5_drawUniform_25 : decode cX5_drawUniform 25 = .ok (.invokevirtual 25, 3) := by decide +kernel
theorem dX5_drawUniform_28 : decode cX5_drawUniform 28 = .ok (.aload_n 0, 1) := by decide +kernel
theorem dX5_drawUniform_29 : decode cX5_drawUniform 29 = .ok (.getfield 9, 3) := by decide +kernel
theorem dX5_drawUniform_32 : decode cX5_drawUniform 32 = .ok (.iload 5, 2) := by decide +kernel
theorem dX5_drawUniform_34 : decode cX5_drawUniform 34 = .ok (.invokevirtual 25, 3) := by decide +kernel
theorem dX5_drawUniform_37 : decode cX5_drawUniform 37 = .ok (.aload_n 0, 1) := by decide +kernel
theorem dX5_drawUniform_38 : decode cX5_drawUniform 38 = .ok (.getfield 9, 3) := by decide +kernel
theorem dX5_drawUniform_41 : decode cX5_drawUniform 41 = .ok (.invokevirtual 28, 3) := by decide +kernel
theorem dX5_drawUniform_44 : decode cX5_drawUniform 44 = .ok (.iconst 0, 1) := by decide +kernel
theorem dX5_drawUniform_45 : decode cX5_drawUniform 45 = .ok (.istore 7, 2) := by decide +kernel
theorem dX5_drawUniform_47 : decode cX5_drawUniform 47 = .ok (.iconst 1, 1) := by decide +kernel
theorem dX5_drawUniform_48 : decode cX5_drawUniform 48 = .ok (.istore 8, 2) := by decide +kernel
theorem dX5_drawUniform_50 : decode cX5_drawUniform 50 = .ok (.iload 8, 2) := by decide +kernel
theorem dX5_drawUniform_52 : decode cX5_drawUniform 52 = .ok (.iload 6, 2) := by decide +kernel
theorem dX5_drawUniform_54 : decode cX5_drawUniform 54 = .ok (.if_icmp .gt 77, 3) := by decide +kernel
theorem dX5_drawUniform_57 : decode cX5_drawUniform 57 = .ok (.aload_n 0, 1) := by decide +kernel
theorem dX5_drawUniform_58 : decode cX5_drawUniform 58 = .ok (.getfield 9, 3) := by decide +kernel
theorem dX5_drawUniform_61 : decode cX5_drawUniform 61 = .ok (.invokevirtual 31, 3) := by decide +kernel
theorem dX5_drawUniform_64 : decode cX5_drawUniform 64 = .ok (.istore 9, 2) := by decide +kernel
theorem dX5_drawUniform_66 : decode cX5_drawUniform 66 = .ok (.aload_n 0, 1) := by decide +kernel
theorem dX5_drawUniform_67 : decode cX5_drawUniform 67 = .ok (.getfield 9, 3) := by decide +kernel
theorem dX5_drawUniform_70 : decode cX5_drawUniform 70 = .ok (.invokevirtual 31, 3) := by decide +kernel
theorem dX5_drawUniform_73 : decode cX5_drawUniform 73 = .ok (.istore 10, 2) := by decide +kernel
theorem dX5_drawUniform_75 : decode cX5_drawUniform 75 = .ok (.aload_n 0, 1) := by decide +kernel
theorem dX5_drawUniform_76 : decode cX5_drawUniform 76 = .ok (.getfield 9, 3) := by decide +kernel
theorem dX5_drawUniform_79 : decode cX5_drawUniform 79 = .ok (.invokevirtual 31, 3) := by decide +kernel
theorem dX5_drawUniform_82 : decode cX5_drawUniform 82 = .ok (.istore 11, 2) := by decide +kernel
theorem dX5_drawUniform_84 : decode cX5_drawUniform 84 = .ok (.aload_n 1, 1) := by decide +kernel
theorem dX5_drawUniform_85 : decode cX5_drawUniform 85 = .ok (.iload 7, 2) := by decide +kernel
theorem dX5_drawUniform_87 : decode cX5_drawUniform 87 = .ok (.iload 9, 2) := by decide +kernel
theorem dX5_drawUniform_89 : decode cX5_drawUniform 89 = .ok (.iload 10, 2) := by decide +kernel
theorem dX5_drawUniform_91 : decode cX5_drawUniform 91 = .ok (.invokestatic 35, 3) := by decide +kernel
theorem dX5_drawUniform_94 : decode cX5_drawUniform 94 = .ok (.invokestatic 41, 3) := by decide +kernel
theorem dX5_drawUniform_97 : decode cX5_drawUniform 97 = .ok (.istore 7, 2) := by decide +kernel
theorem dX5_drawUniform_99 : decode cX5_drawUniform 99 = .ok (.aload_n 1, 1) := by decide +kernel
theorem dX5_drawUniform_100 : decode cX5_drawUniform 100 = .ok (.iload 7, 2) := by decide +kernel
theorem dX5_drawUniform_102 : decode cX5_drawUniform 102 = .ok (.iload 10, 2) := by decide +kernel
theorem dX5_drawUniform_104 : decode cX5_drawUniform 104 = .ok (.iload 11, 2) := by decide +kernel
theorem dX5_drawUniform_106 : decode cX5_drawUniform 106 = .ok (.invokestatic 45, 3) := by decide +kernel
theorem dX5_drawUniform_109 : decode cX5_drawUniform 109 = .ok (.invokestatic 41, 3) := by decide +kernel
theorem dX5_drawUniform_112 : decode cX5_drawUniform 112 = .ok (.istore 7, 2) := by decide +kernel
theorem dX5_drawUniform_114 : decode cX5_drawUniform 114 = .ok (.iload 7, 2) := by decide +kernel
theorem dX5_drawUniform_116 : decode cX5_drawUniform 116 = .ok (.sipush 256, 3) := by decide +kernel
theorem dX5_drawUniform_119 : decode cX5_drawUniform 119 = .ok (.if_icmp .ne 6, 3) := by decide +kernel
theorem dX5_drawUniform_122 : decode cX5_drawUniform 122 = .ok (.iload 8, 2) := by decide +kernel
theorem dX5_drawUniform_124 : decode cX5_drawUniform 124 = .ok (.ireturn, 1) := by decide +kernel
theorem dX5_drawUniform_125 : decode cX5_drawUniform 125 = .ok (.iinc 8 1, 3) := by decide +kernel
theorem dX5_drawUniform_128 : decode cX5_drawUniform 128 = .ok (.goto (-78), 3) := by decide +kernel
theorem dX5_drawUniform_131 : decode cX5_drawUniform 131 = .ok (.bipush (-2), 2) := by decide +kernel
theorem dX5_drawUniform_133 : decode cX5_drawUniform 133 = .ok (.ireturn, 1) := by decide +kernel
theorem dX5_keepIfSmall_0 : decode cX5_keepIfSmall 0 = .ok (.iload_n 2, 1) := by decide +kernel
theorem dX5_keepIfSmall_1 : decode cX5_keepIfSmall 1 = .ok (.sipush 3329, 3) := by decide +kernel
theorem dX5_keepIfSmall_4 : decode cX5_keepIfSmall 4 = .ok (.if_icmp .ge 10, 3) := by decide +kernel
theorem dX5_keepIfSmall_7 : decode cX5_keepIfSmall 7 = .ok (.iload_n 1, 1) := by decide +kernel
theorem dX5_keepIfSmall_8 : decode cX5_keepIfSmall 8 = .ok (.sipush 256, 3) := by decide +kernel
theorem dX5_keepIfSmall_11 : decode cX5_keepIfSmall 11 = .ok (.if_icmp .lt 5, 3) := by decide +kernel
theorem dX5_keepIfSmall_14 : decode cX5_keepIfSmall 14 = .ok (.iload_n 1, 1) := by decide +kernel
theorem dX5_keepIfSmall_15 : decode cX5_keepIfSmall 15 = .ok (.ireturn, 1) := by decide +kernel
theorem dX5_keepIfSmall_16 : decode cX5_keepIfSmall 16 = .ok (.aload_n 0, 1) := by decide +kernel
theorem dX5_keepIfSmall_17 : decode cX5_keepIfSmall 17 = .ok (.iload_n 1, 1) := by decide +kernel
theorem dX5_keepIfSmall_18 : decode cX5_keepIfSmall 18 = .ok (.iload_n 2, 1) := by decide +kernel
theorem dX5_keepIfSmall_19 : decode cX5_keepIfSmall 19 = .ok (.iastore, 1) := by decide +kernel
theorem dX5_keepIfSmall_20 : decode cX5_keepIfSmall 20 = .ok (.iload_n 1, 1) := by decide +kernel
theorem dX5_keepIfSmall_21 : decode cX5_keepIfSmall 21 = .ok (.iconst 1, 1) := by decide +kernel
theorem dX5_keepIfSmall_22 : decode cX5_keepIfSmall 22 = .ok (.iadd, 1) := by decide +kernel
theorem dX5_keepIfSmall_23 : decode cX5_keepIfSmall 23 = .ok (.ireturn, 1) := by decide +kernel
theorem dX5_drawNoise_0 : decode cX5_drawNoise 0 = .ok (.aload_n 0, 1) := by decide +kernel
theorem dX5_drawNoise_1 : decode cX5_drawNoise 1 = .ok (.getfield 9, 3) := by decide +kernel
theorem dX5_drawNoise_4 : decode cX5_drawNoise 4 = .ok (.iconst 3, 1) := by decide +kernel
theorem dX5_drawNoise_5 : decode cX5_drawNoise 5 = .ok (.invokevirtual 15, 3) := by decide +kernel
theorem dX5_drawNoise_8 : decode cX5_drawNoise 8 = .ok (.aload_n 0, 1) := by decide +kernel
theorem dX5_drawNoise_9 : decode cX5_drawNoise 9 = .ok (.getfield 9, 3) := by decide +kernel
theorem dX5_drawNoise_12 : decode cX5_drawNoise 12 = .ok (.aload_n 2, 1) := by decide +kernel
theorem dX5_drawNoise_13 : decode cX5_drawNoise 13 = .ok (.iload_n 3, 1) := by decide +kernel
theorem dX5_drawNoise_14 : decode cX5_drawNoise 14 = .ok (.bipush 32, 2) := by decide +kernel
theorem dX5_drawNoise_16 : decode cX5_drawNoise 16 = .ok (.invokevirtual 21, 3) := by decide +kernel
theorem dX5_drawNoise_19 : decode cX5_drawNoise 19 = .ok (.aload_n 0, 1) := by decide +kernel
theorem dX5_drawNoise_20 : decode cX5_drawNoise 20 = .ok (.getfield 9, 3) := by decide +kernel
theorem dX5_drawNoise_23 : decode cX5_drawNoise 23 = .ok (.iload 5, 2) := by decide +kernel
theorem dX5_drawNoise_25 : decode cX5_drawNoise 25 = .ok (.invokevirtual 25, 3) := by decide +kernel
theorem dX5_drawNoise_28 : decode cX5_drawNoise 28 = .ok (.aload_n 0, 1) := by decide +kernel
theorem dX5_drawNoise_29 : decode cX5_drawNoise 29 = .ok (.getfield 9, 3) := by decide +kernel
theorem dX5_drawNoise_32 : decode cX5_drawNoise 32 = .ok (.invokevirtual 28, 3) := by decide +kernel
theorem dX5_drawNoise_35 : decode cX5_drawNoise 35 = .ok (.iconst 1, 1) := by decide +kernel
theorem dX5_drawNoise_36 : decode cX5_drawNoise 36 = .ok (.iload 4, 2) := by decide +kernel
theorem dX5_drawNoise_38 : decode cX5_drawNoise 38 = .ok (.ishl, 1) := by decide +kernel
theorem dX5_drawNoise_39 : decode cX5_drawNoise 39 = .ok (.iconst 1, 1) := by decide +kernel
theorem dX5_drawNoise_40 : decode cX5_drawNoise 40 = .ok (.isub, 1) := by decide +kernel
theorem dX5_drawNoise_41 : decode cX5_drawNoise 41 = .ok (.istore 6, 2) := by decide +kernel
theorem dX5_drawNoise_43 : decode cX5_drawNoise 43 = .ok (.iconst 0, 1) := by decide +kernel
theorem dX5_drawNoise_44 : decode cX5_drawNoise 44 = .ok (.istore 7, 2) := by decide +kernel
theorem dX5_drawNoise_46 : decode cX5_drawNoise 46 = .ok (.iconst 0, 1) := by decide +kernel
theorem dX5_drawNoise_47 : decode cX5_drawNoise 47 = .ok (.istore 8, 2) := by decide +kernel
theorem dX5_drawNoise_49 : decode cX5_drawNoise 49 = .ok (.iconst 0, 1) := by decide +kernel
theorem dX5_drawNoise_50 : decode cX5_drawNoise 50 = .ok (.istore 9, 2) := by decide +kernel
theorem dX5_drawNoise_52 : decode cX5_drawNoise 52 = .ok (.iload 9, 2) := by decide +kernel
theorem dX5_drawNoise_54 : decode cX5_drawNoise 54 = .ok (.sipush 256, 3) := by decide +kernel
theorem dX5_drawNoise_57 : decode cX5_drawNoise 57 = .ok (.if_icmp .ge 97, 3) := by decide +kernel
theorem dX5_drawNoise_60 : decode cX5_drawNoise 60 = .ok (.iload 8, 2) := by decide +kernel
theorem dX5_drawNoise_62 : decode cX5_drawNoise 62 = .ok (.iconst 2, 1) := by decide +kernel
theorem dX5_drawNoise_63 : decode cX5_drawNoise 63 = .ok (.iload 4, 2) := by decide +kernel
theorem dX5_drawNoise_65 : decode cX5_drawNoise 65 = .ok (.imul, 1) := by decide +kernel
theorem dX5_drawNoise_66 : decode cX5_drawNoise 66 = .ok (.if_icmp .ge 24, 3) := by decide +kernel
theorem dX5_drawNoise_69 : decode cX5_drawNoise 69 = .ok (.iload 7, 2) := by decide +kernel
theorem dX5_drawNoise_71 : decode cX5_drawNoise 71 = .ok (.aload_n 0, 1) := by decide +kernel
theorem dX5_drawNoise_72 : decode cX5_drawNoise 72 = .ok (.getfield 9, 3) := by decide +kernel
theorem dX5_drawNoise_75 : decode cX5_drawNoise 75 = .ok (.invokevirtual 31, 3) := by decide +kernel
theorem dX5_drawNoise_78 : decode cX5_drawNoise 78 = .ok (.iload 8, 2) := by decide +kernel
theorem dX5_drawNoise_80 : decode cX5_drawNoise 80 = .ok (.ishl, 1) := by decide +kernel
theorem dX5_drawNoise_81 : decode cX5_drawNoise 81 = .ok (.ior, 1) := by decide +kernel
theorem dX5_drawNoise_82 : decode cX5_drawNoise 82 = .ok (.istore 7, 2) := by decide +kernel
theorem dX5_drawNoise_84 : decode cX5_drawNoise 84 = .ok (.iinc 8 8, 3) := by decide +kernel
theorem dX5_drawNoise_87 : decode cX5_drawNoise 87 = .ok (.goto (-27), 3) := by decide +kernel
theorem dX5_drawNoise_90 : decode cX5_drawNoise 90 = .ok (.iload 7, 2) := by decide +kernel
theorem dX5_drawNoise_92 : decode cX5_drawNoise 92 = .ok (.iload 6, 2) := by decide +kernel
theorem dX5_drawNoise_94 : decode cX5_drawNoise 94 = .ok (.iand, 1) := by decide +kernel
theorem dX5_drawNoise_95 : decode cX5_drawNoise 95 = .ok (.invokestatic 48, 3) := by decide +kernel
theorem dX5_drawNoise_98 : decode cX5_drawNoise 98 = .ok (.istore 10, 2) := by decide +kernel
theorem dX5_drawNoise_100 : decode cX5_drawNoise 100 = .ok (.iload 7, 2) := by decide +kernel
theorem dX5_drawNoise_102 : decode cX5_drawNoise 102 = .ok (.iload 4, 2) := by decide +kernel
theorem dX5_drawNoise_104 : decode cX5_drawNoise 104 = .ok (.ishr, 1) := by decide +kernel
theorem dX5_drawNoise_105 : decode cX5_drawNoise 105 = .ok (.iload 6, 2) := by decide +kernel
theorem dX5_drawNoise_107 : decode cX5_drawNoise 107 = .ok (.iand, 1) := by decide +kernel
theorem dX5_drawNoise_108 : decode cX5_drawNoise 108 = .ok (.invokestatic 48, 3) := by decide +kernel
theorem dX5_drawNoise_111 : decode cX5_drawNoise 111 = .ok (.istore 11, 2) := by decide +kernel
theorem dX5_drawNoise_113 : decode cX5_drawNoise 113 = .ok (.aload_n 1, 1) := by decide +kernel
theorem dX5_drawNoise_114 : decode cX5_drawNoise 114 = .ok (.iload 9, 2) := by decide +kernel
theorem dX5_drawNoise_116 : decode cX5_drawNoise 116 = .ok (.iload 10, 2) := by decide +kernel
theorem dX5_drawNoise_118 : decode cX5_drawNoise 118 = .ok (.iload 11, 2) := by decide +kernel
theorem dX5_drawNoise_120 : decode cX5_drawNoise 120 = .ok (.isub, 1) := by decide +kernel
theorem dX5_drawNoise_121 : decode cX5_drawNoise 121 = .ok (.sipush 3329, 3) := by decide +kernel
theorem dX5_drawNoise_124 : decode cX5_drawNoise 124 = .ok (.iadd, 1) := by decide +kernel
theorem dX5_drawNoise_125 : decode cX5_drawNoise 125 = .ok (.sipush 3329, 3) := by decide +kernel
theorem dX5_drawNoise_128 : decode cX5_drawNoise 128 = .ok (.irem, 1) := by decide +kernel
theorem dX5_drawNoise_129 : decode cX5_drawNoise 129 = .ok (.iastore, 1) := by decide +kernel
theorem dX5_drawNoise_130 : decode cX5_drawNoise 130 = .ok (.iload 7, 2) := by decide +kernel
theorem dX5_drawNoise_132 : decode cX5_drawNoise 132 = .ok (.iconst 2, 1) := by decide +kernel
theorem dX5_drawNoise_133 : decode cX5_drawNoise 133 = .ok (.iload 4, 2) := by decide +kernel
theorem dX5_drawNoise_135 : decode cX5_drawNoise 135 = .ok (.imul, 1) := by decide +kernel
theorem dX5_drawNoise_136 : decode cX5_drawNoise 136 = .ok (.iushr, 1) := by decide +kernel
theorem dX5_drawNoise_137 : decode cX5_drawNoise 137 = .ok (.istore 7, 2) := by decide +kernel
theorem dX5_drawNoise_139 : decode cX5_drawNoise 139 = .ok (.iload 8, 2) := by decide +kernel
theorem dX5_drawNoise_141 : decode cX5_drawNoise 141 = .ok (.iconst 2, 1) := by decide +kernel
theorem dX5_drawNoise_142 : decode cX5_drawNoise 142 = .ok (.iload 4, 2) := by decide +kernel
theorem dX5_drawNoise_144 : decode cX5_drawNoise 144 = .ok (.imul, 1) := by decide +kernel
theorem dX5_drawNoise_145 : decode cX5_drawNoise 145 = .ok (.isub, 1) := by decide +kernel
theorem dX5_drawNoise_146 : decode cX5_drawNoise 146 = .ok (.istore 8, 2) := by decide +kernel
theorem dX5_drawNoise_148 : decode cX5_drawNoise 148 = .ok (.iinc 9 1, 3) := by decide +kernel
theorem dX5_drawNoise_151 : decode cX5_drawNoise 151 = .ok (.goto (-99), 3) := by decide +kernel
theorem dX5_drawNoise_154 : decode cX5_drawNoise 154 = .ok (.return_, 1) := by decide +kernel
end
section
theorem dX1_init_0 : decode cX1_init 0 = .ok (.aload_n 0, 1) := by decide +kernel
theorem dX1_init_1 : decode cX1_init 1 = .ok (.invokespecial 3, 3) := by decide +kernel
theorem dX1_init_4 : decode cX1_init 4 = .ok (.aload_n 0, 1) := by decide +kernel
theorem dX1_init_5 : decode cX1_init 5 = .ok (.new 9, 3) := by decide +kernel
theorem dX1_init_8 : decode cX1_init 8 = .ok (.dup, 1) := by decide +kernel
theorem dX1_init_9 : decode cX1_init 9 = .ok (.sipush 3168, 3) := by decide +kernel
theorem dX1_init_12 : decode cX1_init 12 = .ok (.invokespecial 11, 3) := by decide +kernel
theorem dX1_init_15 : decode cX1_init 15 = .ok (.putfield 14, 3) := by decide +kernel
theorem dX1_init_18 : decode cX1_init 18 = .ok (.aload_n 0, 1) := by decide +kernel
theorem dX1_init_19 : decode cX1_init 19 = .ok (.new 9, 3) := by decide +kernel
theorem dX1_init_22 : decode cX1_init 22 = .ok (.dup, 1) := by decide +kernel
theorem dX1_init_23 : decode cX1_init 23 = .ok (.bipush 64, 2) := by decide +kernel
theorem dX1_init_25 : decode cX1_init 25 = .ok (.invokespecial 11, 3) := by decide +kernel
theorem dX1_init_28 : decode cX1_init 28 = .ok (.putfield 20, 3) := by decide +kernel
theorem dX1_init_31 : decode cX1_init 31 = .ok (.aload_n 0, 1) := by decide +kernel
theorem dX1_init_32 : decode cX1_init 32 = .ok (.new 9, 3) := by decide +kernel
theorem dX1_init_35 : decode cX1_init 35 = .ok (.dup, 1) := by decide +kernel
theorem dX1_init_36 : decode cX1_init 36 = .ok (.bipush 32, 2) := by decide +kernel
theorem dX1_init_38 : decode cX1_init 38 = .ok (.invokespecial 11, 3) := by decide +kernel
theorem dX1_init_41 : decode cX1_init 41 = .ok (.putfield 23, 3) := by decide +kernel
theorem dX1_init_44 : decode cX1_init 44 = .ok (.aload_n 0, 1) := by decide +kernel
theorem dX1_init_45 : decode cX1_init 45 = .ok (.new 9, 3) := by decide +kernel
theorem dX1_init_48 : decode cX1_init 48 = .ok (.dup, 1) := by decide +kernel
theorem dX1_init_49 : decode cX1_init 49 = .ok (.bipush 32, 2) := by decide +kernel
theorem dX1_init_51 : decode cX1_init 51 = .ok (.invokespecial 11, 3) := by decide +kernel
theorem dX1_init_54 : decode cX1_init 54 = .ok (.putfield 26, 3) := by decide +kernel
theorem dX1_init_57 : decode cX1_init 57 = .ok (.aload_n 0, 1) := by decide +kernel
theorem dX1_init_58 : decode cX1_init 58 = .ok (.iconst 4, 1) := by decide +kernel
theorem dX1_init_59 : decode cX1_init 59 = .ok (.sipush 256, 3) := by decide +kernel
theorem dX1_init_62 : decode cX1_init 62 = .ok (.multianewarray 29 2, 4) := by decide +kernel
theorem dX1_init_66 : decode cX1_init 66 = .ok (.putfield 31, 3) := by decide +kernel
theorem dX1_init_69 : decode cX1_init 69 = .ok (.aload_n 0, 1) := by decide +kernel
theorem dX1_init_70 : decode cX1_init 70 = .ok (.sipush 256, 3) := by decide +kernel
theorem dX1_init_73 : decode cX1_init 73 = .ok (.newarray .int, 2) := by decide +kernel
theorem dX1_init_75 : decode cX1_init 75 = .ok (.putfield 34, 3) := by decide +kernel
theorem dX1_init_78 : decode cX1_init 78 = .ok (.aload_n 0, 1) := by decide +kernel
theorem dX1_init_79 : decode cX1_init 79 = .ok (.sipush 256, 3) := by decide +kernel
theorem dX1_init_82 : decode cX1_init 82 = .ok (.newarray .int, 2) := by decide +kernel
theorem dX1_init_84 : decode cX1_init 84 = .ok (.putfield 38, 3) := by decide +kernel
theorem dX1_init_87 : decode cX1_init 87 = .ok (.aload_n 0, 1) := by decide +kernel
theorem dX1_init_88 : decode cX1_init 88 = .ok (.aload_n 1, 1) := by decide +kernel
theorem dX1_init_89 : decode cX1_init 89 = .ok (.putfield 41, 3) := by decide +kernel
theorem dX1_init_92 : decode cX1_init 92 = .ok (.aload_n 0, 1) := by decide +kernel
theorem dX1_init_93 : decode cX1_init 93 = .ok (.aload_n 2, 1) := by decide +kernel
theorem dX1_init_94 : decode cX1_init 94 = .ok (.putfield 45, 3) := by decide +kernel
theorem dX1_init_97 : decode cX1_init 97 = .ok (.return_, 1) := by decide +kernel
theorem dX1_draft_0 : decode cX1_draft 0 = .ok (.aload_n 0, 1) := by decide +kernel
theorem dX1_draft_1 : decode cX1_draft 1 = .ok (.getfield 14, 3) := by decide +kernel
theorem dX1_draft_4 : decode cX1_draft 4 = .ok (.areturn, 1) := by decide +kernel
theorem dX1_seeds_0 : decode cX1_seeds 0 = .ok (.aload_n 0, 1) := by decide +kernel
theorem dX1_seeds_1 : decode cX1_seeds 1 = .ok (.getfield 20, 3) := by decide +kernel
theorem dX1_seeds_4 : decode cX1_seeds 4 = .ok (.areturn, 1) := by decide +kernel
theorem dX1_makeKeys_0 : decode cX1_makeKeys 0 = .ok (.aload_n 0, 1) := by decide +kernel
theorem dX1_makeKeys_1 : decode cX1_makeKeys 1 = .ok (.getfield 41, 3) := by decide +kernel
theorem dX1_makeKeys_4 : decode cX1_makeKeys 4 = .ok (.iconst 1, 1) := by decide +kernel
theorem dX1_makeKeys_5 : decode cX1_makeKeys 5 = .ok (.invokevirtual 49, 3) := by decide +kernel
theorem dX1_makeKeys_8 : decode cX1_makeKeys 8 = .ok (.aload_n 0, 1) := by decide +kernel
theorem dX1_makeKeys_9 : decode cX1_makeKeys 9 = .ok (.getfield 41, 3) := by decide +kernel
theorem dX1_makeKeys_12 : decode cX1_makeKeys 12 = .ok (.aload_n 2, 1) := by decide +kernel
theorem dX1_makeKeys_13 : decode cX1_makeKeys 13 = .ok (.iconst 0, 1) := by decide +kernel
theorem dX1_makeKeys_14 : decode cX1_makeKeys 14 = .ok (.bipush 32, 2) := by decide +kernel
theorem dX1_makeKeys_16 : decode cX1_makeKeys 16 = .ok (.invokevirtual 54, 3) := by decide +kernel
theorem dX1_makeKeys_19 : decode cX1_makeKeys 19 = .ok (.aload_n 0, 1) := by decide +kernel
theorem dX1_makeKeys_20 : decode cX1_makeKeys 20 = .ok (.getfield 41, 3) := by decide +kernel
theorem dX1_makeKeys_23 : decode cX1_makeKeys 23 = .ok (.aload_n 1, 1) := by decide +kernel
theorem dX1_makeKeys_24 : decode cX1_makeKeys 24 = .ok (.getfield 58, 3) := by decide +kernel
theorem dX1_makeKeys_27 : decode cX1_makeKeys 27 = .ok (.invokevirtual 64, 3) := by decide +kernel
theorem dX1_makeKeys_30 : decode cX1_makeKeys 30 = .ok (.aload_n 0, 1) := by decide +kernel
theorem dX1_makeKeys_31 : decode cX1_makeKeys 31 = .ok (.invokevirtual 67, 3) := by decide +kernel
theorem dX1_makeKeys_34 : decode cX1_makeKeys 34 = .ok (.aload_n 0, 1) := by decide +kernel
theorem dX1_makeKeys_35 : decode cX1_makeKeys 35 = .ok (.aload_n 1, 1) := by decide +kernel
theorem dX1_makeKeys_36 : decode cX1_makeKeys 36 = .ok (.invokevirtual 70, 3) := by decide +kernel
theorem dX1_makeKeys_39 : decode cX1_makeKeys 39 = .ok (.aload_n 0, 1) := by decide +kernel
theorem dX1_makeKeys_40 : decode cX1_makeKeys 40 = .ok (.getfield 14, 3) := by decide +kernel
theorem dX1_makeKeys_43 : decode cX1_makeKeys 43 = .ok (.invokevirtual 74, 3) := by decide +kernel
theorem dX1_makeKeys_46 : decode cX1_makeKeys 46 = .ok (.iconst 0, 1) := by decide +kernel
theorem dX1_makeKeys_47 : decode cX1_makeKeys 47 = .ok (.istore 4, 2) := by decide +kernel
theorem dX1_makeKeys_49 : decode cX1_makeKeys 49 = .ok (.iload 4, 2) := by decide +kernel
theorem dX1_makeKeys_51 : decode cX1_makeKeys 51 = .ok (.aload_n 1, 1) := by decide +kernel
theorem dX1_makeKeys_52 : decode cX1_makeKeys 52 = .ok (.getfield 58, 3) := by decide +kernel
theorem dX1_makeKeys_55 : decode cX1_makeKeys 55 = .ok (.if_icmp .ge 25, 3) := by decide +kernel
theorem dX1_makeKeys_58 : decode cX1_makeKeys 58 = .ok (.aload_n 0, 1) := by decide +kernel
theorem dX1_makeKeys_59 : decode cX1_makeKeys 59 = .ok (.getfield 31, 3) := by decide +kernel
theorem dX1_makeKeys_62 : decode cX1_makeKeys 62 = .ok (.iload 4, 2) := by decide +kernel
theorem dX1_makeKeys_64 : decode cX1_makeKeys 64 = .ok (.aaload, 1) := by decide +kernel
theorem dX1_makeKeys_65 : decode cX1_makeKeys 65 = .ok (.bipush 12, 2) := by decide +kernel
theorem dX1_makeKeys_67 : decode cX1_makeKeys 67 = .ok (.aload_n 0, 1) := by decide +kernel
theorem dX1_makeKeys_68 : decode cX1_makeKeys 68 = .ok (.getfield 14, 3) := by decide +kernel
theorem dX1_makeKeys_71 : decode cX1_makeKeys 71 = .ok (.invokestatic 77, 3) := by decide +kernel
theorem dX1_makeKeys_74 : decode cX1_makeKeys 74 = .ok (.iinc 4 1, 3) := by decide +kernel
theorem dX1_makeKeys_77 : decode cX1_makeKeys 77 = .ok (.goto (-28), 3) := by decide +kernel
theorem dX1_makeKeys_80 : decode cX1_makeKeys 80 = .ok (.iconst 0, 1) := by decide +kernel
theorem dX1_makeKeys_81 : decode cX1_makeKeys 81 = .ok (.istore 4, 2) := by decide +kernel
theorem dX1_makeKeys_83 : decode cX1_makeKeys 83 = .ok (.iload 4, 2) := by decide +kernel
theorem dX1_makeKeys_85 : decode cX1_makeKeys 85 = .ok (.aload_n 1, 1) := by decide +kernel
theorem dX1_makeKeys_86 : decode cX1_makeKeys 86 = .ok (.getfield 58, 3) := by decide +kernel
theorem dX1_makeKeys_89 : decode cX1_makeKeys 89 = .ok (.if_icmp .ge 114, 3) := by decide +kernel
theorem dX1_makeKeys_92 : decode cX1_makeKeys 92 = .ok (.aload_n 0, 1) := by decide +kernel
theorem dX1_makeKeys_93 : decode cX1_makeKeys 93 = .ok (.getfield 45, 3) := by decide +kernel
theorem dX1_makeKeys_96 : decode cX1_makeKeys 96 = .ok (.aload_n 0, 1) := by decide +kernel
theorem dX1_makeKeys_97 : decode cX1_makeKeys 97 = .ok (.getfield 34, 3) := by decide +kernel
theorem dX1_makeKeys_100 : decode cX1_makeKeys 100 = .ok (.aload_n 0, 1) := by decide +kernel
theorem dX1_makeKeys_101 : decode cX1_makeKeys 101 = .ok (.getfield 20, 3) := by decide +kernel
theorem dX1_makeKeys_104 : decode cX1_makeKeys 104 = .ok (.bipush 32, 2) := by decide +kernel
theorem dX1_makeKeys_106 : decode cX1_makeKeys 106 = .ok (.aload_n 1, 1) := by decide +kernel
theorem dX1_makeKeys_107 : decode cX1_makeKeys 107 = .ok (.getfield 83, 3) := by decide +kernel
theorem dX1_makeKeys_110 : decode cX1_makeKeys 110 = .ok (.aload_n 1, 1) := by decide +kernel
theorem dX1_makeKeys_111 : decode cX1_makeKeys 111 = .ok (.getfield 58, 3) := by decide +kernel
theorem dX1_makeKeys_114 : decode cX1_makeKeys 114 = .ok (.iload 4, 2) := by decide +kernel
theorem dX1_makeKeys_116 : decode cX1_makeKeys 116 = .ok (.iadd, 1) := by decide +kernel
theorem dX1_makeKeys_117 : decode cX1_makeKeys 117 = .ok (.invokevirtual 86, 3) := by decide +kernel
theorem dX1_makeKeys_120 : decode cX1_makeKeys 120 = .ok (.aload_n 0, 1) := by decide +kernel
theorem dX1_makeKeys_121 : decode cX1_makeKeys 121 = .ok (.getfield 34, 3) := by decide +kernel
theorem dX1_makeKeys_124 : decode cX1_makeKeys 124 = .ok (.invokestatic 92, 3) := by decide +kernel
theorem dX1_makeKeys_127 : decode cX1_makeKeys 127 = .ok (.iconst 0, 1) := by decide +kernel
theorem dX1_makeKeys_128 : decode cX1_makeKeys 128 = .ok (.istore 5, 2) := by decide +kernel
theorem dX1_makeKeys_130 : decode cX1_makeKeys 130 = .ok (.iload 5, 2) := by decide +kernel
theorem dX1_makeKeys_132 : decode cX1_makeKeys 132 = .ok (.aload_n 1, 1) := by decide +kernel
theorem dX1_makeKeys_133 : decode cX1_makeKeys 133 = .ok (.getfield 58, 3) := by decide +kernel
theorem dX1_makeKeys_136 : decode cX1_makeKeys 136 = .ok (.if_icmp .ge 48, 3) := by decide +kernel
theorem dX1_makeKeys_139 : decode cX1_makeKeys 139 = .ok (.aload_n 0, 1) := by decide +kernel
theorem dX1_makeKeys_140 : decode cX1_makeKeys 140 = .ok (.getfield 45, 3) := by decide +kernel
theorem dX1_makeKeys_143 : decode cX1_makeKeys 143 = .ok (.aload_n 0, 1) := by decide +kernel
theorem dX1_makeKeys_144 : decode cX1_makeKeys 144 = .ok (.getfield 38, 3) := by decide +kernel
theorem dX1_makeKeys_147 : decode cX1_makeKeys 147 = .ok (.aload_n 0, 1) := by decide +kernel
theorem dX1_makeKeys_148 : decode cX1_makeKeys 148 = .ok (.getfield 20, 3) := by decide +kernel
theorem dX1_makeKeys_151 : decode cX1_makeKeys 151 = .ok (.iconst 0, 1) := by decide +kernel
theorem dX1_makeKeys_152 : decode cX1_makeKeys 152 = .ok (.iload 5, 2) := by decide +kernel
theorem dX1_makeKeys_154 : decode cX1_makeKeys 154 = .ok (.iload 4, 2) := by decide +kernel
theorem dX1_makeKeys_156 : decode cX1_makeKeys 156 = .ok (.iload_n 3, 1) := by decide +kernel
theorem dX1_makeKeys_157 : decode cX1_makeKeys 157 = .ok (.invokevirtual 98, 3) := by decide +kernel
theorem dX1_makeKeys_160 : decode cX1_makeKeys 160 = .ok (.bipush (-2), 2) := by decide +kernel
theorem dX1_makeKeys_162 : decode cX1_makeKeys 162 = .ok (.if_icmp .ne 5, 3) := by decide +kernel
theorem dX1_makeKeys_165 : decode cX1_makeKeys 165 = .ok (.iconst 0, 1) := by decide +kernel
theorem dX1_makeKeys_166 : decode cX1_makeKeys 166 = .ok (.ireturn, 1) := by decide +kernel
theorem dX1_makeKeys_167 : decode cX1_makeKeys 167 = .ok (.aload_n 0, 1) := by decide +kernel
theorem dX1_makeKeys_168 : decode cX1_makeKeys 168 = .ok (.aload_n 0, 1) := by decide +kernel
theorem dX1_makeKeys_169 : decode cX1_makeKeys 169 = .ok (.getfield 31, 3) := by decide +kernel
theorem dX1_makeKeys_172 : decode cX1_makeKeys 172 = .ok (.iload 5, 2) := by decide +kernel
theorem dX1_makeKeys_174 : decode cX1_makeKeys 174 = .ok (.aaload, 1) := by decide +kernel
theorem dX1_makeKeys_175 : decode cX1_makeKeys 175 = .ok (.invokevirtual 102, 3) := by decide +kernel
theorem dX1_makeKeys_178 : decode cX1_makeKeys 178 = .ok (.iinc 5 1, 3) := by decide +kernel
theorem dX1_makeKeys_181 : decode cX1_makeKeys 181 = .ok (.goto (-51), 3) := by decide +kernel
theorem dX1_makeKeys_184 : decode cX1_makeKeys 184 = .ok (.aload_n 0, 1) := by decide +kernel
theorem dX1_makeKeys_185 : decode cX1_makeKeys 185 = .ok (.getfield 34, 3) := by decide +kernel
theorem dX1_makeKeys_188 : decode cX1_makeKeys 188 = .ok (.bipush 12, 2) := by decide +kernel
theorem dX1_makeKeys_190 : decode cX1_makeKeys 190 = .ok (.aload_n 0, 1) := by decide +kernel
theorem dX1_makeKeys_191 : decode cX1_makeKeys 191 = .ok (.getfield 14, 3) := by decide +kernel
theorem dX1_makeKeys_194 : decode cX1_makeKeys 194 = .ok (.invokestatic 77, 3) := by decide +kernel
theorem dX1_makeKeys_197 : decode cX1_makeKeys 197 = .ok (.iinc 4 1, 3) := by decide +kernel
theorem dX1_makeKeys_200 : decode cX1_makeKeys 200 = .ok (.goto (-117), 3) := by decide +kernel
theorem dX1_makeKeys_203 : decode cX1_makeKeys 203 = .ok (.aload_n 0, 1) := by decide +kernel
theorem dX1_makeKeys_204 : decode cX1_makeKeys 204 = .ok (.getfield 14, 3) := by decide +kernel
theorem dX1_makeKeys_207 : decode cX1_makeKeys 207 = .ok (.aload_n 0, 1) := by decide +kernel
theorem dX1_makeKeys_208 : decode cX1_makeKeys 208 = .ok (.getfield 20, 3) := by decide +kernel
theorem dX1_makeKeys_211 : decode cX1_makeKeys 211 = .ok (.iconst 0, 1) := by decide +kernel
theorem dX1_makeKeys_212 : decode cX1_makeKeys 212 = .ok (.bipush 32, 2) := by decide +kernel
theorem dX1_makeKeys_214 : decode cX1_makeKeys 214 = .ok (.invokevirtual 105, 3) := by decide +kernel
theorem dX1_makeKeys_217 : decode cX1_makeKeys 217 = .ok (.aload_n 0, 1) := by decide +kernel
theorem dX1_makeKeys_218 : decode cX1_makeKeys 218 = .ok (.aload_n 0, 1) := by decide +kernel
theorem dX1_makeKeys_219 : decode cX1_makeKeys 219 = .ok (.getfield 14, 3) := by decide +kernel
theorem dX1_makeKeys_222 : decode cX1_makeKeys 222 = .ok (.aload_n 1, 1) := by decide +kernel
theorem dX1_makeKeys_223 : decode cX1_makeKeys 223 = .ok (.invokevirtual 108, 3) := by decide +kernel
theorem dX1_makeKeys_226 : decode cX1_makeKeys 226 = .ok (.aload_n 1, 1) := by decide +kernel
theorem dX1_makeKeys_227 : decode cX1_makeKeys 227 = .ok (.invokevirtual 112, 3) := by decide +kernel
theorem dX1_makeKeys_230 : decode cX1_makeKeys 230 = .ok (.invokevirtual 115, 3) := by decide +kernel
theorem dX1_makeKeys_233 : decode cX1_makeKeys 233 = .ok (.aload_n 0, 1) := by decide +kernel
theorem dX1_makeKeys_234 : decode cX1_makeKeys 234 = .ok (.getfield 14, 3) := by decide +kernel
theorem dX1_makeKeys_237 : decode cX1_makeKeys 237 = .ok (.aload_n 0, 1) := by decide +kernel
theorem dX1_makeKeys_238 : decode cX1_makeKeys 238 = .ok (.getfield 26, 3) := by decide +kernel
theorem dX1_makeKeys_241 : decode cX1_makeKeys 241 = .ok (.iconst 0, 1) := by decide +kernel
theorem dX1_makeKeys_242 : decode cX1_makeKeys 242 = .ok (.bipush 32, 2) := by decide +kernel
theorem dX1_makeKeys_244 : decode cX1_makeKeys 244 = .ok (.invokevirtual 105, 3) := by decide +kernel
theorem dX1_makeKeys_247 : decode cX1_makeKeys 247 = .ok (.aload_n 0, 1) := by decide +kernel
theorem dX1_makeKeys_248 : decode cX1_makeKeys 248 = .ok (.getfield 14, 3) := by decide +kernel
theorem dX1_makeKeys_251 : decode cX1_makeKeys 251 = .ok (.aload_n 2, 1) := by decide +kernel
theorem dX1_makeKeys_252 : decode cX1_makeKeys 252 = .ok (.bipush 32, 2) := by decide +kernel
theorem dX1_makeKeys_254 : decode cX1_makeKeys 254 = .ok (.bipush 32, 2) := by decide +kernel
theorem dX1_makeKeys_256 : decode cX1_makeKeys 256 = .ok (.invokevirtual 105, 3) := by decide +kernel
theorem dX1_makeKeys_259 : decode cX1_makeKeys 259 = .ok (.iconst 1, 1) := by decide +kernel
theorem dX1_makeKeys_260 : decode cX1_makeKeys 260 = .ok (.ireturn, 1) := by decide +kernel
theorem dX1_readMessage_0 : decode cX1_readMessage 0 = .ok (.aload_n 0, 1) := by decide +kernel
theorem dX1_readMessage_1 : decode cX1_readMessage 1 = .ok (.getfield 23, 3) := by decide +kernel
theorem dX1_readMessage_4 : decode cX1_readMessage 4 = .ok (.aload_n 3, 1) := by decide +kernel
theorem dX1_readMessage_5 : decode cX1_readMessage 5 = .ok (.invokevirtual 118, 3) := by decide +kernel
theorem dX1_readMessage_8 : decode cX1_readMessage 8 = .ok (.aload_n 0, 1) := by decide +kernel
theorem dX1_readMessage_9 : decode cX1_readMessage 9 = .ok (.aload_n 2, 1) := by decide +kernel
theorem dX1_readMessage_10 : decode cX1_readMessage 10 = .ok (.iconst 0, 1) := by decide +kernel
theorem dX1_readMessage_11 : decode cX1_readMessage 11 = .ok (.aload_n 1, 1) := by decide +kernel
theorem dX1_readMessage_12 : decode cX1_readMessage 12 = .ok (.invokevirtual 112, 3) := by decide +kernel
theorem dX1_readMessage_15 : decode cX1_readMessage 15 = .ok (.invokevirtual 115, 3) := by decide +kernel
theorem dX1_readMessage_18 : decode cX1_readMessage 18 = .ok (.aload_n 0, 1) := by decide +kernel
theorem dX1_readMessage_19 : decode cX1_readMessage 19 = .ok (.aload_n 0, 1) := by decide +kernel
theorem dX1_readMessage_20 : decode cX1_readMessage 20 = .ok (.getfield 26, 3) := by decide +kernel
theorem dX1_readMessage_23 : decode cX1_readMessage 23 = .ok (.iconst 0, 1) := by decide +kernel
theorem dX1_readMessage_24 : decode cX1_readMessage 24 = .ok (.invokevirtual 122, 3) := by decide +kernel
theorem dX1_readMessage_27 : decode cX1_readMessage 27 = .ok (.return_, 1) := by decide +kernel
theorem dX1_unlockText_0 : decode cX1_unlockText 0 = .ok (.aload_n 0, 1) := by decide +kernel
theorem dX1_unlockText_1 : decode cX1_unlockText 1 = .ok (.getfield 31, 3) := by decide +kernel
theorem dX1_unlockText_4 : decode cX1_unlockText 4 = .ok (.iconst 0, 1) := by decide +kernel
theorem dX1_unlockText_5 : decode cX1_unlockText 5 = .ok (.aaload, 1) := by decide +kernel
theorem dX1_unlockText_6 : decode cX1_unlockText 6 = .ok (.astore 4, 2) := by decide +kernel
theorem dX1_unlockText_8 : decode cX1_unlockText 8 = .ok (.aload_n 0, 1) := by decide +kernel
theorem dX1_unlockText_9 : decode cX1_unlockText 9 = .ok (.getfield 34, 3) := by decide +kernel
theorem dX1_unlockText_12 : decode cX1_unlockText 12 = .ok (.iconst 0, 1) := by decide +kernel
theorem dX1_unlockText_13 : decode cX1_unlockText 13 = .ok (.invokestatic 126, 3) := by decide +kernel
theorem dX1_unlockText_16 : decode cX1_unlockText 16 = .ok (.iconst 0, 1) := by decide +kernel
theorem dX1_unlockText_17 : decode cX1_unlockText 17 = .ok (.istore 5, 2) := by decide +kernel
theorem dX1_unlockText_19 : decode cX1_unlockText 19 = .ok (.iload 5, 2) := by decide +kernel
theorem dX1_unlockText_21 : decode cX1_unlockText 21 = .ok (.aload_n 1, 1) := by decide +kernel
theorem dX1_unlockText_22 : decode cX1_unlockText 22 = .ok (.getfield 58, 3) := by decide +kernel
theorem dX1_unlockText_25 : decode cX1_unlockText 25 = .ok (.if_icmp .ge 56, 3) := by decide +kernel
theorem dX1_unlockText_28 : decode cX1_unlockText 28 = .ok (.aload 4, 2) := by decide +kernel
theorem dX1_unlockText_30 : decode cX1_unlockText 30 = .ok (.aload_n 3, 1) := by decide +kernel
theorem dX1_unlockText_31 : decode cX1_unlockText 31 = .ok (.bipush 32, 2) := by decide +kernel
theorem dX1_unlockText_33 : decode cX1_unlockText 33 = .ok (.aload_n 1, 1) := by decide +kernel
theorem dX1_unlockText_34 : decode cX1_unlockText 34 = .ok (.getfield 132, 3) := by decide +kernel
theorem dX1_unlockText_37 : decode cX1_unlockText 37 = .ok (.imul, 1) := by decide +kernel
theorem dX1_unlockText_38 : decode cX1_unlockText 38 = .ok (.iload 5, 2) := by decide +kernel
theorem dX1_unlockText_40 : decode cX1_unlockText 40 = .ok (.imul, 1) := by decide +kernel
theorem dX1_unlockText_41 : decode cX1_unlockText 41 = .ok (.aload_n 1, 1) := by decide +kernel
theorem dX1_unlockText_42 : decode cX1_unlockText 42 = .ok (.getfield 132, 3) := by decide +kernel
theorem dX1_unlockText_45 : decode cX1_unlockText 45 = .ok (.invokestatic 135, 3) := by decide +kernel
theorem dX1_unlockText_48 : decode cX1_unlockText 48 = .ok (.aload 4, 2) := by decide +kernel
theorem dX1_unlockText_50 : decode cX1_unlockText 50 = .ok (.invokestatic 92, 3) := by decide +kernel
theorem dX1_unlockText_53 : decode cX1_unlockText 53 = .ok (.aload_n 0, 1) := by decide +kernel
theorem dX1_unlockText_54 : decode cX1_unlockText 54 = .ok (.getfield 38, 3) := by decide +kernel
theorem dX1_unlockText_57 : decode cX1_unlockText 57 = .ok (.bipush 12, 2) := by decide +kernel
theorem dX1_unlockText_59 : decode cX1_unlockText 59 = .ok (.aload_n 2, 1) := by decide +kernel
theorem dX1_unlockText_60 : decode cX1_unlockText 60 = .ok (.sipush 384, 3) := by decide +kernel
theorem dX1_unlockText_63 : decode cX1_unlockText 63 = .ok (.iload 5, 2) := by decide +kernel
theorem dX1_unlockText_65 : decode cX1_unlockText 65 = .ok (.imul, 1) := by decide +kernel
theorem dX1_unlockText_66 : decode cX1_unlockText 66 = .ok (.invokestatic 139, 3) := by decide +kernel
theorem dX1_unlockText_69 : decode cX1_unlockText 69 = .ok (.aload_n 0, 1) := by decide +kernel
theorem dX1_unlockText_70 : decode cX1_unlockText 70 = .ok (.aload 4, 2) := by decide +kernel
theorem dX1_unlockText_72 : decode cX1_unlockText 72 = .ok (.invokevirtual 102, 3) := by decide +kernel
theorem dX1_unlockText_75 : decode cX1_unlockText 75 = .ok (.iinc 5 1, 3) := by decide +kernel
theorem dX1_unlockText_78 : decode cX1_unlockText 78 = .ok (.goto (-59), 3) := by decide +kernel
theorem dX1_unlockText_81 : decode cX1_unlockText 81 = .ok (.aload_n 0, 1) := by decide +kernel
theorem dX1_unlockText_82 : decode cX1_unlockText 82 = .ok (.getfield 34, 3) := by decide +kernel
theorem dX1_unlockText_85 : decode cX1_unlockText 85 = .ok (.invokestatic 143, 3) := by decide +kernel
theorem dX1_unlockText_88 : decode cX1_unlockText 88 = .ok (.aload_n 0, 1) := by decide +kernel
theorem dX1_unlockText_89 : decode cX1_unlockText 89 = .ok (.getfield 38, 3) := by decide +kernel
theorem dX1_unlockText_92 : decode cX1_unlockText 92 = .ok (.aload_n 3, 1) := by decide +kernel
theorem dX1_unlockText_93 : decode cX1_unlockText 93 = .ok (.bipush 32, 2) := by decide +kernel
theorem dX1_unlockText_95 : decode cX1_unlockText 95 = .ok (.aload_n 1, 1) := by decide +kernel
theorem dX1_unlockText_96 : decode cX1_unlockText 96 = .ok (.getfield 132, 3) := by decide +kernel
theorem dX1_unlockText_99 : decode cX1_unlockText 99 = .ok (.imul, 1) := by decide +kernel
theorem dX1_unlockText_100 : decode cX1_unlockText 100 = .ok (.aload_n 1, 1) := by decide +kernel
theorem dX1_unlockText_101 : decode cX1_unlockText 101 = .ok (.getfield 58, 3) := by decide +kernel
theorem dX1_unlockText_104 : decode cX1_unlockText 104 = .ok (.imul, 1) := by decide +kernel
theorem dX1_unlockText_105 : decode cX1_unlockText 105 = .ok (.aload_n 1, 1) := by decide +kernel
theorem dX1_unlockText_106 : decode cX1_unlockText 106 = .ok (.getfield 146, 3) := by decide +kernel
theorem dX1_unlockText_109 : decode cX1_unlockText 109 = .ok (.invokestatic 135, 3) := by decide +kernel
theorem dX1_unlockText_112 : decode cX1_unlockText 112 = .ok (.aload_n 0, 1) := by decide +kernel
theorem dX1_unlockText_113 : decode cX1_unlockText 113 = .ok (.getfield 38, 3) := by decide +kernel
theorem dX1_unlockText_116 : decode cX1_unlockText 116 = .ok (.aload_n 0, 1) := by decide +kernel
theorem dX1_unlockText_117 : decode cX1_unlockText 117 = .ok (.getfield 34, 3) := by decide +kernel
theorem dX1_unlockText_120 : decode cX1_unlockText 120 = .ok (.iconst (-1), 1) := by decide +kernel
theorem dX1_unlockText_121 : decode cX1_unlockText 121 = .ok (.invokestatic 149, 3) := by decide +kernel
theorem dX1_unlockText_124 : decode cX1_unlockText 124 = .ok (.aload_n 0, 1) := by decide +kernel
theorem dX1_unlockText_125 : decode cX1_unlockText 125 = .ok (.getfield 38, 3) := by decide +kernel
theorem dX1_unlockText_128 : decode cX1_unlockText 128 = .ok (.iconst 1, 1) := by decide +kernel
theorem dX1_unlockText_129 : decode cX1_unlockText 129 = .ok (.invokestatic 153, 3) := by decide +kernel
theorem dX1_unlockText_132 : decode cX1_unlockText 132 = .ok (.aload_n 0, 1) := by decide +kernel
theorem dX1_unlockText_133 : decode cX1_unlockText 133 = .ok (.getfield 23, 3) := by decide +kernel
theorem dX1_unlockText_136 : decode cX1_unlockText 136 = .ok (.invokevirtual 74, 3) := by decide +kernel
theorem dX1_unlockText_139 : decode cX1_unlockText 139 = .ok (.aload_n 0, 1) := by decide +kernel
theorem dX1_unlockText_140 : decode cX1_unlockText 140 = .ok (.getfield 38, 3) := by decide +kernel
theorem dX1_unlockText_143 : decode cX1_unlockText 143 = .ok (.iconst 1, 1) := by decide +kernel
theorem dX1_unlockText_144 : decode cX1_unlockText 144 = .ok (.aload_n 0, 1) := by decide +kernel
theorem dX1_unlockText_145 : decode cX1_unlockText 145 = .ok (.getfield 23, 3) := by decide +kernel
theorem dX1_unlockText_148 : decode cX1_unlockText 148 = .ok (.invokestatic 77, 3) := by decide +kernel
theorem dX1_unlockText_151 : decode cX1_unlockText 151 = .ok (.aload_n 0, 1) := by decide +kernel
theorem dX1_unlockText_152 : decode cX1_unlockText 152 = .ok (.aload_n 2, 1) := by decide +kernel
theorem dX1_unlockText_153 : decode cX1_unlockText 153 = .ok (.aload_n 1, 1) := by decide +kernel
theorem dX1_unlockText_154 : decode cX1_unlockText 154 = .ok (.invokevirtual 108, 3) := by decide +kernel
theorem dX1_unlockText_157 : decode cX1_unlockText 157 = .ok (.aload_n 1, 1) := by decide +kernel
theorem dX1_unlockText_158 : decode cX1_unlockText 158 = .ok (.invokevirtual 112, 3) := by decide +kernel
theorem dX1_unlockText_161 : decode cX1_unlockText 161 = .ok (.iadd, 1) := by decide +kernel
theorem dX1_unlockText_162 : decode cX1_unlockText 162 = .ok (.invokevirtual 122, 3) := by decide +kernel
theorem dX1_unlockText_165 : decode cX1_unlockText 165 = .ok (.return_, 1) := by decide +kernel
theorem dX1_tellRefusal_0 : decode cX1_tellRefusal 0 = .ok (.aload_n 0, 1) := by decide +kernel
theorem dX1_tellRefusal_1 : decode cX1_tellRefusal 1 = .ok (.getfield 41, 3) := by decide +kernel
theorem dX1_tellRefusal_4 : decode cX1_tellRefusal 4 = .ok (.iconst 3, 1) := by decide +kernel
theorem dX1_tellRefusal_5 : decode cX1_tellRefusal 5 = .ok (.invokevirtual 49, 3) := by decide +kernel
theorem dX1_tellRefusal_8 : decode cX1_tellRefusal 8 = .ok (.aload_n 0, 1) := by decide +kernel
theorem dX1_tellRefusal_9 : decode cX1_tellRefusal 9 = .ok (.getfield 41, 3) := by decide +kernel
theorem dX1_tellRefusal_12 : decode cX1_tellRefusal 12 = .ok (.aload_n 2, 1) := by decide +kernel
theorem dX1_tellRefusal_13 : decode cX1_tellRefusal 13 = .ok (.aload_n 1, 1) := by decide +kernel
theorem dX1_tellRefusal_14 : decode cX1_tellRefusal 14 = .ok (.invokevirtual 156, 3) := by decide +kernel
theorem dX1_tellRefusal_17 : decode cX1_tellRefusal 17 = .ok (.bipush 32, 2) := by decide +kernel
theorem dX1_tellRefusal_19 : decode cX1_tellRefusal 19 = .ok (.isub, 1) := by decide +kernel
theorem dX1_tellRefusal_20 : decode cX1_tellRefusal 20 = .ok (.bipush 32, 2) := by decide +kernel
theorem dX1_tellRefusal_22 : decode cX1_tellRefusal 22 = .ok (.invokevirtual 54, 3) := by decide +kernel
theorem dX1_tellRefusal_25 : decode cX1_tellRefusal 25 = .ok (.aload_n 0, 1) := by decide +kernel
theorem dX1_tellRefusal_26 : decode cX1_tellRefusal 26 = .ok (.getfield 41, 3) := by decide +kernel
theorem dX1_tellRefusal_29 : decode cX1_tellRefusal 29 = .ok (.aload_n 3, 1) := by decide +kernel
theorem dX1_tellRefusal_30 : decode cX1_tellRefusal 30 = .ok (.iconst 0, 1) := by decide +kernel
theorem dX1_tellRefusal_31 : decode cX1_tellRefusal 31 = .ok (.aload_n 1, 1) := by decide +kernel
theorem dX1_tellRefusal_32 : decode cX1_tellRefusal 32 = .ok (.invokevirtual 159, 3) := by decide +kernel
theorem dX1_tellRefusal_35 : decode cX1_tellRefusal 35 = .ok (.invokevirtual 54, 3) := by decide +kernel
theorem dX1_tellRefusal_38 : decode cX1_tellRefusal 38 = .ok (.aload_n 0, 1) := by decide +kernel
theorem dX1_tellRefusal_39 : decode cX1_tellRefusal 39 = .ok (.getfield 41, 3) := by decide +kernel
theorem dX1_tellRefusal_42 : decode cX1_tellRefusal 42 = .ok (.invokevirtual 162, 3) := by decide +kernel
theorem dX1_tellRefusal_45 : decode cX1_tellRefusal 45 = .ok (.aload_n 0, 1) := by decide +kernel
theorem dX1_tellRefusal_46 : decode cX1_tellRefusal 46 = .ok (.getfield 41, 3) := by decide +kernel
theorem dX1_tellRefusal_49 : decode cX1_tellRefusal 49 = .ok (.aload 4, 2) := by decide +kernel
theorem dX1_tellRefusal_51 : decode cX1_tellRefusal 51 = .ok (.bipush 32, 2) := by decide +kernel
theorem dX1_tellRefusal_53 : decode cX1_tellRefusal 53 = .ok (.invokevirtual 165, 3) := by decide +kernel
theorem dX1_tellRefusal_56 : decode cX1_tellRefusal 56 = .ok (.return_, 1) := by decide +kernel
theorem dX1_hashIsTrue_0 : decode cX1_hashIsTrue 0 = .ok (.aload_n 0, 1) := by decide +kernel
theorem dX1_hashIsTrue_1 : decode cX1_hashIsTrue 1 = .ok (.aload_n 2, 1) := by decide +kernel
theorem dX1_hashIsTrue_2 : decode cX1_hashIsTrue 2 = .ok (.aload_n 1, 1) := by decide +kernel
theorem dX1_hashIsTrue_3 : decode cX1_hashIsTrue 3 = .ok (.invokevirtual 108, 3) := by decide +kernel
theorem dX1_hashIsTrue_6 : decode cX1_hashIsTrue 6 = .ok (.aload_n 1, 1) := by decide +kernel
theorem dX1_hashIsTrue_7 : decode cX1_hashIsTrue 7 = .ok (.invokevirtual 112, 3) := by decide +kernel
theorem dX1_hashIsTrue_10 : decode cX1_hashIsTrue 10 = .ok (.invokevirtual 115, 3) := by decide +kernel
theorem dX1_hashIsTrue_13 : decode cX1_hashIsTrue 13 = .ok (.aload_n 0, 1) := by decide +kernel
theorem dX1_hashIsTrue_14 : decode cX1_hashIsTrue 14 = .ok (.getfield 26, 3) := by decide +kernel
theorem dX1_hashIsTrue_17 : decode cX1_hashIsTrue 17 = .ok (.iconst 0, 1) := by decide +kernel
theorem dX1_hashIsTrue_18 : decode cX1_hashIsTrue 18 = .ok (.aload_n 2, 1) := by decide +kernel
theorem dX1_hashIsTrue_19 : decode cX1_hashIsTrue 19 = .ok (.aload_n 1, 1) := by decide +kernel
theorem dX1_hashIsTrue_20 : decode cX1_hashIsTrue 20 = .ok (.invokevirtual 108, 3) := by decide +kernel
theorem dX1_hashIsTrue_23 : decode cX1_hashIsTrue 23 = .ok (.aload_n 1, 1) := by decide +kernel
theorem dX1_hashIsTrue_24 : decode cX1_hashIsTrue 24 = .ok (.invokevirtual 112, 3) := by decide +kernel
theorem dX1_hashIsTrue_27 : decode cX1_hashIsTrue 27 = .ok (.iadd, 1) := by decide +kernel
theorem dX1_hashIsTrue_28 : decode cX1_hashIsTrue 28 = .ok (.bipush 32, 2) := by decide +kernel
theorem dX1_hashIsTrue_30 : decode cX1_hashIsTrue 30 = .ok (.invokevirtual 168, 3) := by decide +kernel
theorem dX1_hashIsTrue_33 : decode cX1_hashIsTrue 33 = .ok (.ireturn, 1) := by decide +kernel
theorem dX1_lockMessage_0 : decode cX1_lockMessage 0 = .ok (.aload_n 0, 1) := by decide +kernel
theorem dX1_lockMessage_1 : decode cX1_lockMessage 1 = .ok (.aload_n 1, 1) := by decide +kernel
theorem dX1_lockMessage_2 : decode cX1_lockMessage 2 = .ok (.invokevirtual 70, 3) := by decide +kernel
theorem dX1_lockMessage_5 : decode cX1_lockMessage 5 = .ok (.aload_n 0, 1) := by decide +kernel
theorem dX1_lockMessage_6 : decode cX1_lockMessage 6 = .ok (.getfield 14, 3) := by decide +kernel
theorem dX1_lockMessage_9 : decode cX1_lockMessage 9 = .ok (.invokevirtual 74, 3) := by decide +kernel
theorem dX1_lockMessage_12 : decode cX1_lockMessage 12 = .ok (.iconst 0, 1) := by decide +kernel
theorem dX1_lockMessage_13 : decode cX1_lockMessage 13 = .ok (.istore 5, 2) := by decide +kernel
theorem dX1_lockMessage_15 : decode cX1_lockMessage 15 = .ok (.iload 5, 2) := by decide +kernel
theorem dX1_lockMessage_17 : decode cX1_lockMessage 17 = .ok (.aload_n 1, 1) := by decide +kernel
theorem dX1_lockMessage_18 : decode cX1_lockMessage 18 = .ok (.getfield 58, 3) := by decide +kernel
theorem dX1_lockMessage_21 : decode cX1_lockMessage 21 = .ok (.if_icmp .ge 132, 3) := by decide +kernel
theorem dX1_lockMessage_24 : decode cX1_lockMessage 24 = .ok (.aload_n 0, 1) := by decide +kernel
theorem dX1_lockMessage_25 : decode cX1_lockMessage 25 = .ok (.getfield 34, 3) := by decide +kernel
theorem dX1_lockMessage_28 : decode cX1_lockMessage 28 = .ok (.iconst 0, 1) := by decide +kernel
theorem dX1_lockMessage_29 : decode cX1_lockMessage 29 = .ok (.invokestatic 126, 3) := by decide +kernel
theorem dX1_lockMessage_32 : decode cX1_lockMessage 32 = .ok (.iconst 0, 1) := by decide +kernel
theorem dX1_lockMessage_33 : decode cX1_lockMessage 33 = .ok (.istore 6, 2) := by decide +kernel
theorem dX1_lockMessage_35 : decode cX1_lockMessage 35 = .ok (.iload 6, 2) := by decide +kernel
theorem dX1_lockMessage_37 : decode cX1_lockMessage 37 = .ok (.aload_n 1, 1) := by decide +kernel
theorem dX1_lockMessage_38 : decode cX1_lockMessage 38 = .ok (.getfield 58, 3) := by decide +kernel
theorem dX1_lockMessage_41 : decode cX1_lockMessage 41 = .ok (.if_icmp .ge 51, 3) := by decide +kernel
theorem dX1_lockMessage_44 : decode cX1_lockMessage 44 = .ok (.aload_n 0, 1) := by decide +kernel
theorem dX1_lockMessage_45 : decode cX1_lockMessage 45 = .ok (.getfield 45, 3) := by decide +kernel
theorem dX1_lockMessage_48 : decode cX1_lockMessage 48 = .ok (.aload_n 0, 1) := by decide +kernel
theorem dX1_lockMessage_49 : decode cX1_lockMessage 49 = .ok (.getfield 38, 3) := by decide +kernel
theorem dX1_lockMessage_52 : decode cX1_lockMessage 52 = .ok (.aload_n 2, 1) := by decide +kernel
theorem dX1_lockMessage_53 : decode cX1_lockMessage 53 = .ok (.iload_n 3, 1) := by decide +kernel
theorem dX1_lockMessage_54 : decode cX1_lockMessage 54 = .ok (.aload_n 1, 1) := by decide +kernel
theorem dX1_lockMessage_55 : decode cX1_lockMessage 55 = .ok (.invokevirtual 108, 3) := by decide +kernel
theorem dX1_lockMessage_58 : decode cX1_lockMessage 58 = .ok (.iadd, 1) := by decide +kernel
theorem dX1_lockMessage_59 : decode cX1_lockMessage 59 = .ok (.iload 5, 2) := by decide +kernel
theorem dX1_lockMessage_61 : decode cX1_lockMessage 61 = .ok (.iload 6, 2) := by decide +kernel
theorem dX1_lockMessage_63 : decode cX1_lockMessage 63 = .ok (.iload 4, 2) := by decide +kernel
theorem dX1_lockMessage_65 : decode cX1_lockMessage 65 = .ok (.invokevirtual 98, 3) := by decide +kernel
theorem dX1_lockMessage_68 : decode cX1_lockMessage 68 = .ok (.bipush (-2), 2) := by decide +kernel
theorem dX1_lockMessage_70 : decode cX1_lockMessage 70 = .ok (.if_icmp .ne 5, 3) := by decide +kernel
theorem dX1_lockMessage_73 : decode cX1_lockMessage 73 = .ok (.iconst 0, 1) := by decide +kernel
theorem dX1_lockMessage_74 : decode cX1_lockMessage 74 = .ok (.ireturn, 1) := by decide +kernel
theorem dX1_lockMessage_75 : decode cX1_lockMessage 75 = .ok (.aload_n 0, 1) := by decide +kernel
theorem dX1_lockMessage_76 : decode cX1_lockMessage 76 = .ok (.aload_n 0, 1) := by decide +kernel
theorem dX1_lockMessage_77 : decode cX1_lockMessage 77 = .ok (.getfield 31, 3) := by decide +kernel
theorem dX1_lockMessage_80 : decode cX1_lockMessage 80 = .ok (.iload 6, 2) := by decide +kernel
theorem dX1_lockMessage_82 : decode cX1_lockMessage 82 = .ok (.aaload, 1) := by decide +kernel
theorem dX1_lockMessage_83 : decode cX1_lockMessage 83 = .ok (.invokevirtual 102, 3) := by decide +kernel
theorem dX1_lockMessage_86 : decode cX1_lockMessage 86 = .ok (.iinc 6 1, 3) := by decide +kernel
theorem dX1_lockMessage_89 : decode cX1_lockMessage 89 = .ok (.goto (-54), 3) := by decide +kernel
theorem dX1_lockMessage_92 : decode cX1_lockMessage 92 = .ok (.aload_n 0, 1) := by decide +kernel
theorem dX1_lockMessage_93 : decode cX1_lockMessage 93 = .ok (.getfield 34, 3) := by decide +kernel
theorem dX1_lockMessage_96 : decode cX1_lockMessage 96 = .ok (.invokestatic 143, 3) := by decide +kernel
theorem dX1_lockMessage_99 : decode cX1_lockMessage 99 = .ok (.aload_n 0, 1) := by decide +kernel
theorem dX1_lockMessage_100 : decode cX1_lockMessage 100 = .ok (.getfield 45, 3) := by decide +kernel
theorem dX1_lockMessage_103 : decode cX1_lockMessage 103 = .ok (.aload_n 0, 1) := by decide +kernel
theorem dX1_lockMessage_104 : decode cX1_lockMessage 104 = .ok (.getfield 38, 3) := by decide +kernel
theorem dX1_lockMessage_107 : decode cX1_lockMessage 107 = .ok (.aload_n 0, 1) := by decide +kernel
theorem dX1_lockMessage_108 : decode cX1_lockMessage 108 = .ok (.getfield 20, 3) := by decide +kernel
theorem dX1_lockMessage_111 : decode cX1_lockMessage 111 = .ok (.bipush 32, 2) := by decide +kernel
theorem dX1_lockMessage_113 : decode cX1_lockMessage 113 = .ok (.aload_n 1, 1) := by decide +kernel
theorem dX1_lockMessage_114 : decode cX1_lockMessage 114 = .ok (.getfield 172, 3) := by decide +kernel
theorem dX1_lockMessage_117 : decode cX1_lockMessage 117 = .ok (.aload_n 1, 1) := by decide +kernel
theorem dX1_lockMessage_118 : decode cX1_lockMessage 118 = .ok (.getfield 58, 3) := by decide +kernel
theorem dX1_lockMessage_121 : decode cX1_lockMessage 121 = .ok (.iload 5, 2) := by decide +kernel
theorem dX1_lockMessage_123 : decode cX1_lockMessage 123 = .ok (.iadd, 1) := by decide +kernel
theorem dX1_lockMessage_124 : decode cX1_lockMessage 124 = .ok (.invokevirtual 86, 3) := by decide +kernel
theorem dX1_lockMessage_127 : decode cX1_lockMessage 127 = .ok (.aload_n 0, 1) := by decide +kernel
theorem dX1_lockMessage_128 : decode cX1_lockMessage 128 = .ok (.getfield 34, 3) := by decide +kernel
theorem dX1_lockMessage_131 : decode cX1_lockMessage 131 = .ok (.aload_n 0, 1) := by decide +kernel
theorem dX1_lockMessage_132 : decode cX1_lockMessage 132 = .ok (.getfield 38, 3) := by decide +kernel
theorem dX1_lockMessage_135 : decode cX1_lockMessage 135 = .ok (.iconst 1, 1) := by decide +kernel
theorem dX1_lockMessage_136 : decode cX1_lockMessage 136 = .ok (.invokestatic 149, 3) := by decide +kernel
theorem dX1_lockMessage_139 : decode cX1_lockMessage 139 = .ok (.aload_n 0, 1) := by decide +kernel
theorem dX1_lockMessage_140 : decode cX1_lockMessage 140 = .ok (.aload_n 1, 1) := by decide +kernel
theorem dX1_lockMessage_141 : decode cX1_lockMessage 141 = .ok (.getfield 132, 3) := by decide +kernel
theorem dX1_lockMessage_144 : decode cX1_lockMessage 144 = .ok (.invokevirtual 175, 3) := by decide +kernel
theorem dX1_lockMessage_147 : decode cX1_lockMessage 147 = .ok (.iinc 5 1, 3) := by decide +kernel
theorem dX1_lockMessage_150 : decode cX1_lockMessage 150 = .ok (.goto (-135), 3) := by decide +kernel
theorem dX1_lockMessage_153 : decode cX1_lockMessage 153 = .ok (.aload_n 0, 1) := by decide +kernel
theorem dX1_lockMessage_154 : decode cX1_lockMessage 154 = .ok (.aload_n 1, 1) := by decide +kernel
theorem dX1_lockMessage_155 : decode cX1_lockMessage 155 = .ok (.aload_n 2, 1) := by decide +kernel
theorem dX1_lockMessage_156 : decode cX1_lockMessage 156 = .ok (.iload_n 3, 1) := by decide +kernel
theorem dX1_lockMessage_157 : decode cX1_lockMessage 157 = .ok (.invokevirtual 178, 3) := by decide +kernel
theorem dX1_lockMessage_160 : decode cX1_lockMessage 160 = .ok (.iconst 1, 1) := by decide +kernel
theorem dX1_lockMessage_161 : decode cX1_lockMessage 161 = .ok (.ireturn, 1) := by decide +kernel
theorem dX1_lockLast_0 : decode cX1_lockLast 0 = .ok (.aload_n 0, 1) := by decide +kernel
theorem dX1_lockLast_1 : decode cX1_lockLast 1 = .ok (.getfield 34, 3) := by decide +kernel
theorem dX1_lockLast_4 : decode cX1_lockLast 4 = .ok (.iconst 0, 1) := by decide +kernel
theorem dX1_lockLast_5 : decode cX1_lockLast 5 = .ok (.invokestatic 126, 3) := by decide +kernel
theorem dX1_lockLast_8 : decode cX1_lockLast 8 = .ok (.iconst 0, 1) := by decide +kernel
theorem dX1_lockLast_9 : decode cX1_lockLast 9 = .ok (.istore 4, 2) := by decide +kernel
theorem dX1_lockLast_11 : decode cX1_lockLast 11 = .ok (.iload 4, 2) := by decide +kernel
theorem dX1_lockLast_13 : decode cX1_lockLast 13 = .ok (.aload_n 1, 1) := by decide +kernel
theorem dX1_lockLast_14 : decode cX1_lockLast 14 = .ok (.getfield 58, 3) := by decide +kernel
theorem dX1_lockLast_17 : decode cX1_lockLast 17 = .ok (.if_icmp .ge 38, 3) := by decide +kernel
theorem dX1_lockLast_20 : decode cX1_lockLast 20 = .ok (.aload_n 0, 1) := by decide +kernel
theorem dX1_lockLast_21 : decode cX1_lockLast 21 = .ok (.getfield 38, 3) := by decide +kernel
theorem dX1_lockLast_24 : decode cX1_lockLast 24 = .ok (.bipush 12, 2) := by decide +kernel
theorem dX1_lockLast_26 : decode cX1_lockLast 26 = .ok (.aload_n 2, 1) := by decide +kernel
theorem dX1_lockLast_27 : decode cX1_lockLast 27 = .ok (.iload_n 3, 1) := by decide +kernel
theorem dX1_lockLast_28 : decode cX1_lockLast 28 = .ok (.sipush 384, 3) := by decide +kernel
theorem dX1_lockLast_31 : decode cX1_lockLast 31 = .ok (.iload 4, 2) := by decide +kernel
theorem dX1_lockLast_33 : decode cX1_lockLast 33 = .ok (.imul, 1) := by decide +kernel
theorem dX1_lockLast_34 : decode cX1_lockLast 34 = .ok (.iadd, 1) := by decide +kernel
theorem dX1_lockLast_35 : decode cX1_lockLast 35 = .ok (.invokestatic 139, 3) := by decide +kernel
theorem dX1_lockLast_38 : decode cX1_lockLast 38 = .ok (.aload_n 0, 1) := by decide +kernel
theorem dX1_lockLast_39 : decode cX1_lockLast 39 = .ok (.aload_n 0, 1) := by decide +kernel
theorem dX1_lockLast_40 : decode cX1_lockLast 40 = .ok (.getfield 31, 3) := by decide +kernel
theorem dX1_lockLast_43 : decode cX1_lockLast 43 = .ok (.iload 4, 2) := by decide +kernel
theorem dX1_lockLast_45 : decode cX1_lockLast 45 = .ok (.aaload, 1) := by decide +kernel
theorem dX1_lockLast_46 : decode cX1_lockLast 46 = .ok (.invokevirtual 102, 3) := by decide +kernel
theorem dX1_lockLast_49 : decode cX1_lockLast 49 = .ok (.iinc 4 1, 3) := by decide +kernel
theorem dX1_lockLast_52 : decode cX1_lockLast 52 = .ok (.goto (-41), 3) := by decide +kernel
theorem dX1_lockLast_55 : decode cX1_lockLast 55 = .ok (.aload_n 0, 1) := by decide +kernel
theorem dX1_lockLast_56 : decode cX1_lockLast 56 = .ok (.getfield 34, 3) := by decide +kernel
theorem dX1_lockLast_59 : decode cX1_lockLast 59 = .ok (.invokestatic 143, 3) := by decide +kernel
theorem dX1_lockLast_62 : decode cX1_lockLast 62 = .ok (.aload_n 0, 1) := by decide +kernel
theorem dX1_lockLast_63 : decode cX1_lockLast 63 = .ok (.getfield 45, 3) := by decide +kernel
theorem dX1_lockLast_66 : decode cX1_lockLast 66 = .ok (.aload_n 0, 1) := by decide +kernel
theorem dX1_lockLast_67 : decode cX1_lockLast 67 = .ok (.getfield 38, 3) := by decide +kernel
theorem dX1_lockLast_70 : decode cX1_lockLast 70 = .ok (.aload_n 0, 1) := by decide +kernel
theorem dX1_lockLast_71 : decode cX1_lockLast 71 = .ok (.getfield 20, 3) := by decide +kernel
theorem dX1_lockLast_74 : decode cX1_lockLast 74 = .ok (.bipush 32, 2) := by decide +kernel
theorem dX1_lockLast_76 : decode cX1_lockLast 76 = .ok (.aload_n 1, 1) := by decide +kernel
theorem dX1_lockLast_77 : decode cX1_lockLast 77 = .ok (.getfield 172, 3) := by decide +kernel
theorem dX1_lockLast_80 : decode cX1_lockLast 80 = .ok (.iconst 2, 1) := by decide +kernel
theorem dX1_lockLast_81 : decode cX1_lockLast 81 = .ok (.aload_n 1, 1) := by decide +kernel
theorem dX1_lockLast_82 : decode cX1_lockLast 82 = .ok (.getfield 58, 3) := by decide +kernel
theorem dX1_lockLast_85 : decode cX1_lockLast 85 = .ok (.imul, 1) := by decide +kernel
theorem dX1_lockLast_86 : decode cX1_lockLast 86 = .ok (.invokevirtual 86, 3) := by decide +kernel
theorem dX1_lockLast_89 : decode cX1_lockLast 89 = .ok (.aload_n 0, 1) := by decide +kernel
theorem dX1_lockLast_90 : decode cX1_lockLast 90 = .ok (.getfield 34, 3) := by decide +kernel
theorem dX1_lockLast_93 : decode cX1_lockLast 93 = .ok (.aload_n 0, 1) := by decide +kernel
theorem dX1_lockLast_94 : decode cX1_lockLast 94 = .ok (.getfield 38, 3) := by decide +kernel
theorem dX1_lockLast_97 : decode cX1_lockLast 97 = .ok (.iconst 1, 1) := by decide +kernel
theorem dX1_lockLast_98 : decode cX1_lockLast 98 = .ok (.invokestatic 149, 3) := by decide +kernel
theorem dX1_lockLast_101 : decode cX1_lockLast 101 = .ok (.aload_n 0, 1) := by decide +kernel
theorem dX1_lockLast_102 : decode cX1_lockLast 102 = .ok (.getfield 38, 3) := by decide +kernel
theorem dX1_lockLast_105 : decode cX1_lockLast 105 = .ok (.aload_n 0, 1) := by decide +kernel
theorem dX1_lockLast_106 : decode cX1_lockLast 106 = .ok (.getfield 23, 3) := by decide +kernel
theorem dX1_lockLast_109 : decode cX1_lockLast 109 = .ok (.iconst 0, 1) := by decide +kernel
theorem dX1_lockLast_110 : decode cX1_lockLast 110 = .ok (.iconst 1, 1) := by decide +kernel
theorem dX1_lockLast_111 : decode cX1_lockLast 111 = .ok (.invokestatic 135, 3) := by decide +kernel
theorem dX1_lockLast_114 : decode cX1_lockLast 114 = .ok (.aload_n 0, 1) := by decide +kernel
theorem dX1_lockLast_115 : decode cX1_lockLast 115 = .ok (.getfield 34, 3) := by decide +kernel
theorem dX1_lockLast_118 : decode cX1_lockLast 118 = .ok (.aload_n 0, 1) := by decide +kernel
theorem dX1_lockLast_119 : decode cX1_lockLast 119 = .ok (.getfield 38, 3) := by decide +kernel
theorem dX1_lockLast_122 : decode cX1_lockLast 122 = .ok (.iconst 1, 1) := by decide +kernel
theorem dX1_lockLast_123 : decode cX1_lockLast 123 = .ok (.invokestatic 149, 3) := by decide +kernel
theorem dX1_lockLast_126 : decode cX1_lockLast 126 = .ok (.aload_n 0, 1) := by decide +kernel
theorem dX1_lockLast_127 : decode cX1_lockLast 127 = .ok (.aload_n 1, 1) := by decide +kernel
theorem dX1_lockLast_128 : decode cX1_lockLast 128 = .ok (.getfield 146, 3) := by decide +kernel
theorem dX1_lockLast_131 : decode cX1_lockLast 131 = .ok (.invokevirtual 175, 3) := by decide +kernel
theorem dX1_lockLast_134 : decode cX1_lockLast 134 = .ok (.return_, 1) := by decide +kernel
theorem dX1_drawVector_0 : decode cX1_drawVector 0 = .ok (.iconst 0, 1) := by decide +kernel
theorem dX1_drawVector_1 : decode cX1_drawVector 1 = .ok (.istore_n 2, 1) := by decide +kernel
theorem dX1_drawVector_2 : decode cX1_drawVector 2 = .ok (.iload_n 2, 1) := by decide +kernel
theorem dX1_drawVector_3 : decode cX1_drawVector 3 = .ok (.aload_n 1, 1) := by decide +kernel
theorem dX1_drawVector_4 : decode cX1_drawVector 4 = .ok (.getfield 58, 3) := by decide +kernel
theorem dX1_drawVector_7 : decode cX1_drawVector 7 = .ok (.if_icmp .ge 42, 3) := by decide +kernel
theorem dX1_drawVector_10 : decode cX1_drawVector 10 = .ok (.aload_n 0, 1) := by decide +kernel
theorem dX1_drawVector_11 : decode cX1_drawVector 11 = .ok (.getfield 45, 3) := by decide +kernel
theorem dX1_drawVector_14 : decode cX1_drawVector 14 = .ok (.aload_n 0, 1) := by decide +kernel
theorem dX1_drawVector_15 : decode cX1_drawVector 15 = .ok (.getfield 31, 3) := by decide +kernel
theorem dX1_drawVector_18 : decode cX1_drawVector 18 = .ok (.iload_n 2, 1) := by decide +kernel
theorem dX1_drawVector_19 : decode cX1_drawVector 19 = .ok (.aaload, 1) := by decide +kernel
theorem dX1_drawVector_20 : decode cX1_drawVector 20 = .ok (.aload_n 0, 1) := by decide +kernel
theorem dX1_drawVector_21 : decode cX1_drawVector 21 = .ok (.getfield 20, 3) := by decide +kernel
theorem dX1_drawVector_24 : decode cX1_drawVector 24 = .ok (.bipush 32, 2) := by decide +kernel
theorem dX1_drawVector_26 : decode cX1_drawVector 26 = .ok (.aload_n 1, 1) := by decide +kernel
theorem dX1_drawVector_27 : decode cX1_drawVector 27 = .ok (.getfield 83, 3) := by decide +kernel
theorem dX1_drawVector_30 : decode cX1_drawVector 30 = .ok (.iload_n 2, 1) := by decide +kernel
theorem dX1_drawVector_31 : decode cX1_drawVector 31 = .ok (.invokevirtual 86, 3) := by decide +kernel
theorem dX1_drawVector_34 : decode cX1_drawVector 34 = .ok (.aload_n 0, 1) := by decide +kernel
theorem dX1_drawVector_35 : decode cX1_drawVector 35 = .ok (.getfield 31, 3) := by decide +kernel
theorem dX1_drawVector_38 : decode cX1_drawVector 38 = .ok (.iload_n 2, 1) := by decide +kernel
theorem dX1_drawVector_39 : decode cX1_drawVector 39 = .ok (.aaload, 1) := by decide +kernel
theorem dX1_drawVector_40 : decode cX1_drawVector 40 = .ok (.invokestatic 92, 3) := by decide +kernel
theorem dX1_drawVector_43 : decode cX1_drawVector 43 = .ok (.iinc 2 1, 3) := by decide +kernel
theorem dX1_drawVector_46 : decode cX1_drawVector 46 = .ok (.goto (-44), 3) := by decide +kernel
theorem dX1_drawVector_49 : decode cX1_drawVector 49 = .ok (.return_, 1) := by decide +kernel
theorem dX1_addProduct_0 : decode cX1_addProduct 0 = .ok (.aload_n 0, 1) := by decide +kernel
theorem dX1_addProduct_1 : decode cX1_addProduct 1 = .ok (.getfield 38, 3) := by decide +kernel
theorem dX1_addProduct_4 : decode cX1_addProduct 4 = .ok (.aload_n 1, 1) := by decide +kernel
theorem dX1_addProduct_5 : decode cX1_addProduct 5 = .ok (.aload_n 0, 1) := by decide +kernel
theorem dX1_addProduct_6 : decode cX1_addProduct 6 = .ok (.getfield 38, 3) := by decide +kernel
theorem dX1_addProduct_9 : decode cX1_addProduct 9 = .ok (.invokestatic 182, 3) := by decide +kernel
theorem dX1_addProduct_12 : decode cX1_addProduct 12 = .ok (.aload_n 0, 1) := by decide +kernel
theorem dX1_addProduct_13 : decode cX1_addProduct 13 = .ok (.getfield 34, 3) := by decide +kernel
theorem dX1_addProduct_16 : decode cX1_addProduct 16 = .ok (.aload_n 0, 1) := by decide +kernel
theorem dX1_addProduct_17 : decode cX1_addProduct 17 = .ok (.getfield 38, 3) := by decide +kernel
theorem dX1_addProduct_20 : decode cX1_addProduct 20 = .ok (.iconst 1, 1) := by decide +kernel
theorem dX1_addProduct_21 : decode cX1_addProduct 21 = .ok (.invokestatic 149, 3) := by decide +kernel
theorem dX1_addProduct_24 : decode cX1_addProduct 24 = .ok (.return_, 1) := by decide +kernel
theorem dX1_packCompressed_0 : decode cX1_packCompressed 0 = .ok (.aload_n 0, 1) := by decide +kernel
theorem dX1_packCompressed_1 : decode cX1_packCompressed 1 = .ok (.getfield 34, 3) := by decide +kernel
theorem dX1_packCompressed_4 : decode cX1_packCompressed 4 = .ok (.iload_n 1, 1) := by decide +kernel
theorem dX1_packCompressed_5 : decode cX1_packCompressed 5 = .ok (.invokestatic 153, 3) := by decide +kernel
theorem dX1_packCompressed_8 : decode cX1_packCompressed 8 = .ok (.aload_n 0, 1) := by decide +kernel
theorem dX1_packCompressed_9 : decode cX1_packCompressed 9 = .ok (.getfield 34, 3) := by decide +kernel
theorem dX1_packCompressed_12 : decode cX1_packCompressed 12 = .ok (.iload_n 1, 1) := by decide +kernel
theorem dX1_packCompressed_13 : decode cX1_packCompressed 13 = .ok (.aload_n 0, 1) := by decide +kernel
theorem dX1_packCompressed_14 : decode cX1_packCompressed 14 = .ok (.getfield 14, 3) := by decide +kernel
theorem dX1_packCompressed_17 : decode cX1_packCompressed 17 = .ok (.invokestatic 77, 3) := by decide +kernel
theorem dX1_packCompressed_20 : decode cX1_packCompressed 20 = .ok (.return_, 1) := by decide +kernel
theorem dX1_unpackStretched_0 : decode cX1_unpackStretched 0 = .ok (.aload_n 0, 1) := by decide +kernel
theorem dX1_unpackStretched_1 : decode cX1_unpackStretched 1 = .ok (.iload_n 3, 1) := by decide +kernel
theorem dX1_unpackStretched_2 : decode cX1_unpackStretched 2 = .ok (.aload_n 1, 1) := by decide +kernel
theorem dX1_unpackStretched_3 : decode cX1_unpackStretched 3 = .ok (.iload_n 2, 1) := by decide +kernel
theorem dX1_unpackStretched_4 : decode cX1_unpackStretched 4 = .ok (.invokestatic 139, 3) := by decide +kernel
theorem dX1_unpackStretched_7 : decode cX1_unpackStretched 7 = .ok (.aload_n 0, 1) := by decide +kernel
theorem dX1_unpackStretched_8 : decode cX1_unpackStretched 8 = .ok (.iload_n 3, 1) := by decide +kernel
theorem dX1_unpackStretched_9 : decode cX1_unpackStretched 9 = .ok (.invokestatic 186, 3) := by decide +kernel
theorem dX1_unpackStretched_12 : decode cX1_unpackStretched 12 = .ok (.return_, 1) := by decide +kernel
theorem dX1_seedFromMessage_0 : decode cX1_seedFromMessage 0 = .ok (.aload_n 0, 1) := by decide +kernel
theorem dX1_seedFromMessage_1 : decode cX1_seedFromMessage 1 = .ok (.getfield 41, 3) := by decide +kernel
theorem dX1_seedFromMessage_4 : decode cX1_seedFromMessage 4 = .ok (.iconst 1, 1) := by decide +kernel
theorem dX1_seedFromMessage_5 : decode cX1_seedFromMessage 5 = .ok (.invokevirtual 49, 3) := by decide +kernel
theorem dX1_seedFromMessage_8 : decode cX1_seedFromMessage 8 = .ok (.aload_n 0, 1) := by decide +kernel
theorem dX1_seedFromMessage_9 : decode cX1_seedFromMessage 9 = .ok (.getfield 41, 3) := by decide +kernel
theorem dX1_seedFromMessage_12 : decode cX1_seedFromMessage 12 = .ok (.aload_n 0, 1) := by decide +kernel
theorem dX1_seedFromMessage_13 : decode cX1_seedFromMessage 13 = .ok (.getfield 23, 3) := by decide +kernel
theorem dX1_seedFromMessage_16 : decode cX1_seedFromMessage 16 = .ok (.iconst 0, 1) := by decide +kernel
theorem dX1_seedFromMessage_17 : decode cX1_seedFromMessage 17 = .ok (.bipush 32, 2) := by decide +kernel
theorem dX1_seedFromMessage_19 : decode cX1_seedFromMessage 19 = .ok (.invokevirtual 54, 3) := by decide +kernel
theorem dX1_seedFromMessage_22 : decode cX1_seedFromMessage 22 = .ok (.aload_n 0, 1) := by decide +kernel
theorem dX1_seedFromMessage_23 : decode cX1_seedFromMessage 23 = .ok (.getfield 41, 3) := by decide +kernel
theorem dX1_seedFromMessage_26 : decode cX1_seedFromMessage 26 = .ok (.aload_n 1, 1) := by decide +kernel
theorem dX1_seedFromMessage_27 : decode cX1_seedFromMessage 27 = .ok (.iload_n 2, 1) := by decide +kernel
theorem dX1_seedFromMessage_28 : decode cX1_seedFromMessage 28 = .ok (.bipush 32, 2) := by decide +kernel
theorem dX1_seedFromMessage_30 : decode cX1_seedFromMessage 30 = .ok (.invokevirtual 54, 3) := by decide +kernel
theorem dX1_seedFromMessage_33 : decode cX1_seedFromMessage 33 = .ok (.aload_n 0, 1) := by decide +kernel
theorem dX1_seedFromMessage_34 : decode cX1_seedFromMessage 34 = .ok (.invokevirtual 67, 3) := by decide +kernel
theorem dX1_seedFromMessage_37 : decode cX1_seedFromMessage 37 = .ok (.return_, 1) := by decide +kernel
theorem dX1_tellSeeds_0 : decode cX1_tellSeeds 0 = .ok (.aload_n 0, 1) := by decide +kernel
theorem dX1_tellSeeds_1 : decode cX1_tellSeeds 1 = .ok (.getfield 41, 3) := by decide +kernel
theorem dX1_tellSeeds_4 : decode cX1_tellSeeds 4 = .ok (.invokevirtual 162, 3) := by decide +kernel
theorem dX1_tellSeeds_7 : decode cX1_tellSeeds 7 = .ok (.aload_n 0, 1) := by decide +kernel
theorem dX1_tellSeeds_8 : decode cX1_tellSeeds 8 = .ok (.getfield 20, 3) := by decide +kernel
theorem dX1_tellSeeds_11 : decode cX1_tellSeeds 11 = .ok (.invokevirtual 74, 3) := by decide +kernel
theorem dX1_tellSeeds_14 : decode cX1_tellSeeds 14 = .ok (.aload_n 0, 1) := by decide +kernel
theorem dX1_tellSeeds_15 : decode cX1_tellSeeds 15 = .ok (.getfield 41, 3) := by decide +kernel
theorem dX1_tellSeeds_18 : decode cX1_tellSeeds 18 = .ok (.aload_n 0, 1) := by decide +kernel
theorem dX1_tellSeeds_19 : decode cX1_tellSeeds 19 = .ok (.getfield 20, 3) := by decide +kernel
theorem dX1_tellSeeds_22 : decode cX1_tellSeeds 22 = .ok (.bipush 64, 2) := by decide +kernel
theorem dX1_tellSeeds_24 : decode cX1_tellSeeds 24 = .ok (.invokevirtual 165, 3) := by decide +kernel
theorem dX1_tellSeeds_27 : decode cX1_tellSeeds 27 = .ok (.return_, 1) := by decide +kernel
theorem dX1_tellDigest_0 : decode cX1_tellDigest 0 = .ok (.aload_n 0, 1) := by decide +kernel
theorem dX1_tellDigest_1 : decode cX1_tellDigest 1 = .ok (.getfield 41, 3) := by decide +kernel
theorem dX1_tellDigest_4 : decode cX1_tellDigest 4 = .ok (.iconst 0, 1) := by decide +kernel
theorem dX1_tellDigest_5 : decode cX1_tellDigest 5 = .ok (.invokevirtual 49, 3) := by decide +kernel
theorem dX1_tellDigest_8 : decode cX1_tellDigest 8 = .ok (.aload_n 0, 1) := by decide +kernel
theorem dX1_tellDigest_9 : decode cX1_tellDigest 9 = .ok (.getfield 41, 3) := by decide +kernel
theorem dX1_tellDigest_12 : decode cX1_tellDigest 12 = .ok (.aload_n 1, 1) := by decide +kernel
theorem dX1_tellDigest_13 : decode cX1_tellDigest 13 = .ok (.iload_n 2, 1) := by decide +kernel
theorem dX1_tellDigest_14 : decode cX1_tellDigest 14 = .ok (.iload_n 3, 1) := by decide +kernel
theorem dX1_tellDigest_15 : decode cX1_tellDigest 15 = .ok (.invokevirtual 54, 3) := by decide +kernel
theorem dX1_tellDigest_18 : decode cX1_tellDigest 18 = .ok (.aload_n 0, 1) := by decide +kernel
theorem dX1_tellDigest_19 : decode cX1_tellDigest 19 = .ok (.getfield 41, 3) := by decide +kernel
theorem dX1_tellDigest_22 : decode cX1_tellDigest 22 = .ok (.invokevirtual 162, 3) := by decide +kernel
theorem dX1_tellDigest_25 : decode cX1_tellDigest 25 = .ok (.aload_n 0, 1) := by decide +kernel
theorem dX1_tellDigest_26 : decode cX1_tellDigest 26 = .ok (.getfield 26, 3) := by decide +kernel
theorem dX1_tellDigest_29 : decode cX1_tellDigest 29 = .ok (.invokevirtual 74, 3) := by decide +kernel
theorem dX1_tellDigest_32 : decode cX1_tellDigest 32 = .ok (.aload_n 0, 1) := by decide +kernel
theorem dX1_tellDigest_33 : decode cX1_tellDigest 33 = .ok (.getfield 41, 3) := by decide +kernel
theorem dX1_tellDigest_36 : decode cX1_tellDigest 36 = .ok (.aload_n 0, 1) := by decide +kernel
theorem dX1_tellDigest_37 : decode cX1_tellDigest 37 = .ok (.getfield 26, 3) := by decide +kernel
theorem dX1_tellDigest_40 : decode cX1_tellDigest 40 = .ok (.bipush 32, 2) := by decide +kernel
theorem dX1_tellDigest_42 : decode cX1_tellDigest 42 = .ok (.invokevirtual 165, 3) := by decide +kernel
theorem dX1_tellDigest_45 : decode cX1_tellDigest 45 = .ok (.return_, 1) := by decide +kernel
theorem dX6_init_0 : decode cX6_init 0 = .ok (.aload_n 0, 1) := by decide +kernel
theorem dX6_init_1 : decode cX6_init 1 = .ok (.invokespecial 3, 3) := by decide +kernel
theorem dX6_init_4 : decode cX6_init 4 = .ok (.aload_n 0, 1) := by decide +kernel
theorem dX6_init_5 : decode cX6_init 5 = .ok (.bipush 25, 2) := by decide +kernel
theorem dX6_init_7 : decode cX6_init 7 = .ok (.newarray .long, 2) := by decide +kernel
theorem dX6_init_9 : decode cX6_init 9 = .ok (.putfield 9, 3) := by decide +kernel
theorem dX6_init_12 : decode cX6_init 12 = .ok (.aload_n 0, 1) := by decide +kernel
theorem dX6_init_13 : decode cX6_init 13 = .ok (.sipush 136, 3) := by decide +kernel
theorem dX6_init_16 : decode cX6_init 16 = .ok (.putfield 15, 3) := by decide +kernel
theorem dX6_init_19 : decode cX6_init 19 = .ok (.return_, 1) := by decide +kernel
theorem dX6_begin_0 : decode cX6_begin 0 = .ok (.aload_n 0, 1) := by decide +kernel
theorem dX6_begin_1 : decode cX6_begin 1 = .ok (.iload_n 1, 1) := by decide +kernel
theorem dX6_begin_2 : decode cX6_begin 2 = .ok (.ifCond .lt 19, 3) := by decide +kernel
theorem dX6_begin_5 : decode cX6_begin 5 = .ok (.iload_n 1, 1) := by decide +kernel
theorem dX6_begin_6 : decode cX6_begin 6 = .ok (.getstatic 19, 3) := by decide +kernel
theorem dX6_begin_9 : decode cX6_begin 9 = .ok (.arraylength, 1) := by decide +kernel
theorem dX6_begin_10 : decode cX6_begin 10 = .ok (.if_icmp .ge 11, 3) := by decide +kernel
theorem dX6_begin_13 : decode cX6_begin 13 = .ok (.getstatic 19, 3) := by decide +kernel
theorem dX6_begin_16 : decode cX6_begin 16 = .ok (.iload_n 1, 1) := by decide +kernel
theorem dX6_begin_17 : decode cX6_begin 17 = .ok (.iaload, 1) := by decide +kernel
theorem dX6_begin_18 : decode cX6_begin 18 = .ok (.goto 6, 3) := by decide +kernel
theorem dX6_begin_21 : decode cX6_begin 21 = .ok (.sipush 136, 3) := by decide +kernel
theorem dX6_begin_24 : decode cX6_begin 24 = .ok (.putfield 15, 3) := by decide +kernel
theorem dX6_begin_27 : decode cX6_begin 27 = .ok (.aload_n 0, 1) := by decide +kernel
theorem dX6_begin_28 : decode cX6_begin 28 = .ok (.iload_n 1, 1) := by decide +kernel
theorem dX6_begin_29 : decode cX6_begin 29 = .ok (.ifCond .eq 8, 3) := by decide +kernel
theorem dX6_begin_32 : decode cX6_begin 32 = .ok (.iload_n 1, 1) := by decide +kernel
theorem dX6_begin_33 : decode cX6_begin 33 = .ok (.iconst 1, 1) := by decide +kernel
theorem dX6_begin_34 : decode cX6_begin 34 = .ok (.if_icmp .ne 8, 3) := by decide +kernel
theorem dX6_begin_37 : decode cX6_begin 37 = .ok (.bipush 6, 2) := by decide +kernel
theorem dX6_begin_39 : decode cX6_begin 39 = .ok (.goto 5, 3) := by decide +kernel
theorem dX6_begin_42 : decode cX6_begin 42 = .ok (.bipush 31, 2) := by decide +kernel
theorem dX6_begin_44 : decode cX6_begin 44 = .ok (.putfield 23, 3) := by decide +kernel
theorem dX6_begin_47 : decode cX6_begin 47 = .ok (.aload_n 0, 1) := by decide +kernel
theorem dX6_begin_48 : decode cX6_begin 48 = .ok (.iconst 0, 1) := by decide +kernel
theorem dX6_begin_49 : decode cX6_begin 49 = .ok (.putfield 26, 3) := by decide +kernel
theorem dX6_begin_52 : decode cX6_begin 52 = .ok (.aload_n 0, 1) := by decide +kernel
theorem dX6_begin_53 : decode cX6_begin 53 = .ok (.getfield 9, 3) := by decide +kernel
theorem dX6_begin_56 : decode cX6_begin 56 = .ok (.lconst 0, 1) := by decide +kernel
theorem dX6_begin_57 : decode cX6_begin 57 = .ok (.invokestatic 29, 3) := by decide +kernel
theorem dX6_begin_60 : decode cX6_begin 60 = .ok (.return_, 1) := by decide +kernel
theorem dX6_absorbByte_0 : decode cX6_absorbByte 0 = .ok (.aload_n 0, 1) := by decide +kernel
theorem dX6_absorbByte_1 : decode cX6_absorbByte 1 = .ok (.aload_n 0, 1) := by decide +kernel
theorem dX6_absorbByte_2 : decode cX6_absorbByte 2 = .ok (.getfield 26, 3) := by decide +kernel
theorem dX6_absorbByte_5 : decode cX6_absorbByte 5 = .ok (.iload_n 1, 1) := by decide +kernel
theorem dX6_absorbByte_6 : decode cX6_absorbByte 6 = .ok (.sipush 255, 3) := by decide +kernel
theorem dX6_absorbByte_9 : decode cX6_absorbByte 9 = .ok (.iand, 1) := by decide +kernel
theorem dX6_absorbByte_10 : decode cX6_absorbByte 10 = .ok (.invokevirtual 35, 3) := by decide +kernel
theorem dX6_absorbByte_13 : decode cX6_absorbByte 13 = .ok (.aload_n 0, 1) := by decide +kernel
theorem dX6_absorbByte_14 : decode cX6_absorbByte 14 = .ok (.dup, 1) := by decide +kernel
theorem dX6_absorbByte_15 : decode cX6_absorbByte 15 = .ok (.getfield 26, 3) := by decide +kernel
theorem dX6_absorbByte_18 : decode cX6_absorbByte 18 = .ok (.iconst 1, 1) := by decide +kernel
theorem dX6_absorbByte_19 : decode cX6_absorbByte 19 = .ok (.iadd, 1) := by decide +kernel
theorem dX6_absorbByte_20 : decode cX6_absorbByte 20 = .ok (.putfield 26, 3) := by decide +kernel
theorem dX6_absorbByte_23 : decode cX6_absorbByte 23 = .ok (.aload_n 0, 1) := by decide +kernel
theorem dX6_absorbByte_24 : decode cX6_absorbByte 24 = .ok (.getfield 26, 3) := by decide +kernel
theorem dX6_absorbByte_27 : decode cX6_absorbByte 27 = .ok (.aload_n 0, 1) := by decide +kernel
theorem dX6_absorbByte_28 : decode cX6_absorbByte 28 = .ok (.getfield 15, 3) := by decide +kernel
theorem dX6_absorbByte_31 : decode cX6_absorbByte 31 = .ok (.if_icmp .ne 12, 3) := by decide +kernel
theorem dX6_absorbByte_34 : decode cX6_absorbByte 34 = .ok (.aload_n 0, 1) := by decide +kernel
theorem dX6_absorbByte_35 : decode cX6_absorbByte 35 = .ok (.invokevirtual 39, 3) := by decide +kernel
theorem dX6_absorbByte_38 : decode cX6_absorbByte 38 = .ok (.aload_n 0, 1) := by decide +kernel
theorem dX6_absorbByte_39 : decode cX6_absorbByte 39 = .ok (.iconst 0, 1) := by decide +kernel
theorem dX6_absorbByte_40 : decode cX6_absorbByte 40 = .ok (.putfield 26, 3) := by decide +kernel
theorem dX6_absorbByte_43 : decode cX6_absorbByte 43 = .ok (.return_, 1) := by decide +kernel
theorem dX6_absorb_0 : decode cX6_absorb 0 = .ok (.iconst 0, 1) := by decide +kernel
theorem dX6_absorb_1 : decode cX6_absorb 1 = .ok (.istore 4, 2) := by decide +kernel
theorem dX6_absorb_3 : decode cX6_absorb 3 = .ok (.iload 4, 2) := by decide +kernel
theorem dX6_absorb_5 : decode cX6_absorb 5 = .ok (.iload_n 3, 1) := by decide +kernel
theorem dX6_absorb_6 : decode cX6_absorb 6 = .ok (.if_icmp .ge 21, 3) := by decide +kernel
theorem dX6_absorb_9 : decode cX6_absorb 9 = .ok (.aload_n 0, 1) := by decide +kernel
theorem dX6_absorb_10 : decode cX6_absorb 10 = .ok (.aload_n 1, 1) := by decide +kernel
theorem dX6_absorb_11 : decode cX6_absorb 11 = .ok (.iload_n 2, 1) := by decide +kernel
theorem dX6_absorb_12 : decode cX6_absorb 12 = .ok (.iload 4, 2) := by decide +kernel
theorem dX6_absorb_14 : decode cX6_absorb 14 = .ok (.iadd, 1) := by decide +kernel
theorem dX6_absorb_15 : decode cX6_absorb 15 = .ok (.invokevirtual 42, 3) := by decide +kernel
theorem dX6_absorb_18 : decode cX6_absorb 18 = .ok (.invokevirtual 48, 3) := by decide +kernel
theorem dX6_absorb_21 : decode cX6_absorb 21 = .ok (.iinc 4 1, 3) := by decide +kernel
theorem dX6_absorb_24 : decode cX6_absorb 24 = .ok (.goto (-21), 3) := by decide +kernel
theorem dX6_absorb_27 : decode cX6_absorb 27 = .ok (.return_, 1) := by decide +kernel
theorem dX6_finish_0 : decode cX6_finish 0 = .ok (.aload_n 0, 1) := by decide +kernel
theorem dX6_finish_1 : decode cX6_finish 1 = .ok (.aload_n 0, 1) := by decide +kernel
theorem dX6_finish_2 : decode cX6_finish 2 = .ok (.getfield 26, 3) := by decide +kernel
theorem dX6_finish_5 : decode cX6_finish 5 = .ok (.aload_n 0, 1) := by decide +kernel
theorem dX6_finish_6 : decode cX6_finish 6 = .ok (.getfield 23, 3) := by decide +kernel
theorem dX6_finish_9 : decode cX6_finish 9 = .ok (.invokevirtual 35, 3) := by decide +kernel
theorem dX6_finish_12 : decode cX6_finish 12 = .ok (.aload_n 0, 1) := by decide +kernel
theorem dX6_finish_13 : decode cX6_finish 13 = .ok (.aload_n 0, 1) := by decide +kernel
theorem dX6_finish_14 : decode cX6_finish 14 = .ok (.getfield 15, 3) := by decide +kernel
theorem dX6_finish_17 : decode cX6_finish 17 = .ok (.iconst 1, 1) := by decide +kernel
theorem dX6_finish_18 : decode cX6_finish 18 = .ok (.isub, 1) := by decide +kernel
theorem dX6_finish_19 : decode cX6_finish 19 = .ok (.sipush 128, 3) := by decide +kernel
theorem dX6_finish_22 : decode cX6_finish 22 = .ok (.invokevirtual 35, 3) := by decide +kernel
theorem dX6_finish_25 : decode cX6_finish 25 = .ok (.aload_n 0, 1) := by decide +kernel
theorem dX6_finish_26 : decode cX6_finish 26 = .ok (.invokevirtual 39, 3) := by decide +kernel
theorem dX6_finish_29 : decode cX6_finish 29 = .ok (.aload_n 0, 1) := by decide +kernel
theorem dX6_finish_30 : decode cX6_finish 30 = .ok (.iconst 0, 1) := by decide +kernel
theorem dX6_finish_31 : decode cX6_finish 31 = .ok (.putfield 26, 3) := by decide +kernel
theorem dX6_finish_34 : decode cX6_finish 34 = .ok (.return_, 1) := by decide +kernel
theorem dX6_tellByte_0 : decode cX6_tellByte 0 = .ok (.aload_n 0, 1) := by decide +kernel
theorem dX6_tellByte_1 : decode cX6_tellByte 1 = .ok (.getfield 26, 3) := by decide +kernel
theorem dX6_tellByte_4 : decode cX6_tellByte 4 = .ok (.aload_n 0, 1) := by decide +kernel
theorem dX6_tellByte_5 : decode cX6_tellByte 5 = .ok (.getfield 15, 3) := by decide +kernel
theorem dX6_tellByte_8 : decode cX6_tellByte 8 = .ok (.if_icmp .ne 12, 3) := by decide +kernel
theorem dX6_tellByte_11 : decode cX6_tellByte 11 = .ok (.aload_n 0, 1) := by decide +kernel
theorem dX6_tellByte_12 : decode cX6_tellByte 12 = .ok (.invokevirtual 39, 3) := by decide +kernel
theorem dX6_tellByte_15 : decode cX6_tellByte 15 = .ok (.aload_n 0, 1) := by decide +kernel
theorem dX6_tellByte_16 : decode cX6_tellByte 16 = .ok (.iconst 0, 1) := by decide +kernel
theorem dX6_tellByte_17 : decode cX6_tellByte 17 = .ok (.putfield 26, 3) := by decide +kernel
theorem dX6_tellByte_20 : decode cX6_tellByte 20 = .ok (.aload_n 0, 1) := by decide +kernel
theorem dX6_tellByte_21 : decode cX6_tellByte 21 = .ok (.getfield 9, 3) := by decide +kernel
theorem dX6_tellByte_24 : decode cX6_tellByte 24 = .ok (.aload_n 0, 1) := by decide +kernel
theorem dX6_tellByte_25 : decode cX6_tellByte 25 = .ok (.getfield 26, 3) := by decide +kernel
theorem dX6_tellByte_28 : decode cX6_tellByte 28 = .ok (.iconst 3, 1) := by decide +kernel
theorem dX6_tellByte_29 : decode cX6_tellByte 29 = .ok (.ishr, 1) := by decide +kernel
theorem dX6_tellByte_30 : decode cX6_tellByte 30 = .ok (.laload, 1) := by decide +kernel
theorem dX6_tellByte_31 : decode cX6_tellByte 31 = .ok (.aload_n 0, 1) := by decide +kernel
theorem dX6_tellByte_32 : decode cX6_tellByte 32 = .ok (.getfield 26, 3) := by decide +kernel
theorem dX6_tellByte_35 : decode cX6_tellByte 35 = .ok (.bipush 7, 2) := by decide +kernel
theorem dX6_tellByte_37 : decode cX6_tellByte 37 = .ok (.iand, 1) := by decide +kernel
theorem dX6_tellByte_38 : decode cX6_tellByte 38 = .ok (.iconst 3, 1) := by decide +kernel
theorem dX6_tellByte_39 : decode cX6_tellByte 39 = .ok (.ishl, 1) := by decide +kernel
theorem dX6_tellByte_40 : decode cX6_tellByte 40 = .ok (.lushr, 1) := by decide +kernel
theorem dX6_tellByte_41 : decode cX6_tellByte 41 = .ok (.l2i, 1) := by decide +kernel
theorem dX6_tellByte_42 : decode cX6_tellByte 42 = .ok (.sipush 255, 3) := by decide +kernel
theorem dX6_tellByte_45 : decode cX6_tellByte 45 = .ok (.iand, 1) := by decide +kernel
theorem dX6_tellByte_46 : decode cX6_tellByte 46 = .ok (.istore_n 1, 1) := by decide +kernel
theorem dX6_tellByte_47 : decode cX6_tellByte 47 = .ok (.aload_n 0, 1) := by decide +kernel
theorem dX6_tellByte_48 : decode cX6_tellByte 48 = .ok (.dup, 1) := by decide +kernel
theorem dX6_tellByte_49 : decode cX6_tellByte 49 = .ok (.getfield 26, 3) := by decide +kernel
theorem dX6_tellByte_52 : decode cX6_tellByte 52 = .ok (.iconst 1, 1) := by decide +kernel
theorem dX6_tellByte_53 : decode cX6_tellByte 53 = .ok (.iadd, 1) := by decide +kernel
theorem dX6_tellByte_54 : decode cX6_tellByte 54 = .ok (.putfield 26, 3) := by decide +kernel
theorem dX6_tellByte_57 : decode cX6_tellByte 57 = .ok (.iload_n 1, 1) := by decide +kernel
theorem dX6_tellByte_58 : decode cX6_tellByte 58 = .ok (.ireturn, 1) := by decide +kernel
theorem dX6_tellTo_0 : decode cX6_tellTo 0 = .ok (.iconst 0, 1) := by decide +kernel
theorem dX6_tellTo_1 : decode cX6_tellTo 1 = .ok (.istore_n 3, 1) := by decide +kernel
theorem dX6_tellTo_2 : decode cX6_tellTo 2 = .ok (.iload_n 3, 1) := by decide +kernel
theorem dX6_tellTo_3 : decode cX6_tellTo 3 = .ok (.iload_n 2, 1) := by decide +kernel
theorem dX6_tellTo_4 : decode cX6_tellTo 4 = .ok (.if_icmp .ge 17, 3) := by decide +kernel
theorem dX6_tellTo_7 : decode cX6_tellTo 7 = .ok (.aload_n 1, 1) := by decide +kernel
theorem dX6_tellTo_8 : decode cX6_tellTo 8 = .ok (.aload_n 0, 1) := by decide +kernel
theorem dX6_tellTo_9 : decode cX6_tellTo 9 = .ok (.invokevirtual 52, 3) := by decide +kernel
theorem dX6_tellTo_12 : decode cX6_tellTo 12 = .ok (.invokevirtual 56, 3) := by decide +kernel
theorem dX6_tellTo_15 : decode cX6_tellTo 15 = .ok (.iinc 3 1, 3) := by decide +kernel
theorem dX6_tellTo_18 : decode cX6_tellTo 18 = .ok (.goto (-16), 3) := by decide +kernel
theorem dX6_tellTo_21 : decode cX6_tellTo 21 = .ok (.return_, 1) := by decide +kernel
theorem dX6_mixIn_0 : decode cX6_mixIn 0 = .ok (.aload_n 0, 1) := by decide +kernel
theorem dX6_mixIn_1 : decode cX6_mixIn 1 = .ok (.getfield 9, 3) := by decide +kernel
theorem dX6_mixIn_4 : decode cX6_mixIn 4 = .ok (.iload_n 1, 1) := by decide +kernel
theorem dX6_mixIn_5 : decode cX6_mixIn 5 = .ok (.iconst 3, 1) := by decide +kernel
theorem dX6_mixIn_6 : decode cX6_mixIn 6 = .ok (.ishr, 1) := by decide +kernel
theorem dX6_mixIn_7 : decode cX6_mixIn 7 = .ok (.dup2, 1) := by decide +kernel
theorem dX6_mixIn_8 : decode cX6_mixIn 8 = .ok (.laload, 1) := by decide +kernel
theorem dX6_mixIn_9 : decode cX6_mixIn 9 = .ok (.iload_n 2, 1) := by decide +kernel
theorem dX6_mixIn_10 : decode cX6_mixIn 10 = .ok (.i2l, 1) := by decide +kernel
theorem dX6_mixIn_11 : decode cX6_mixIn 11 = .ok (.iload_n 1, 1) := by decide +kernel
theorem dX6_mixIn_12 : decode cX6_mixIn 12 = .ok (.bipush 7, 2) := by decide +kernel
theorem dX6_mixIn_14 : decode cX6_mixIn 14 = .ok (.iand, 1) := by decide +kernel
theorem dX6_mixIn_15 : decode cX6_mixIn 15 = .ok (.iconst 3, 1) := by decide +kernel
theorem dX6_mixIn_16 : decode cX6_mixIn 16 = .ok (.ishl, 1) := by decide +kernel
theorem dX6_mixIn_17 : decode cX6_mixIn 17 = .ok (.lshl, 1) := by decide +kernel
theorem dX6_mixIn_18 : decode cX6_mixIn 18 = .ok (.lxor, 1) := by decide +kernel
theorem dX6_mixIn_19 : decode cX6_mixIn 19 = .ok (.lastore, 1) := by decide +kernel
theorem dX6_mixIn_20 : decode cX6_mixIn 20 = .ok (.return_, 1) := by decide +kernel
theorem dX6_doRounds_0 : decode cX6_doRounds 0 = .ok (.aload_n 0, 1) := by decide +kernel
theorem dX6_doRounds_1 : decode cX6_doRounds 1 = .ok (.getfield 9, 3) := by decide +kernel
theorem dX6_doRounds_4 : decode cX6_doRounds 4 = .ok (.astore_n 1, 1) := by decide +kernel
theorem dX6_doRounds_5 : decode cX6_doRounds 5 = .ok (.iconst 0, 1) := by decide +kernel
theorem dX6_doRounds_6 : decode cX6_doRounds 6 = .ok (.istore_n 2, 1) := by decide +kernel
theorem dX6_doRounds_7 : decode cX6_doRounds 7 = .ok (.iload_n 2, 1) := by decide +kernel
theorem dX6_doRounds_8 : decode cX6_doRounds 8 = .ok (.bipush 24, 2) := by decide +kernel
theorem dX6_doRounds_10 : decode cX6_doRounds 10 = .ok (.if_icmp .ge 491, 3) := by decide +kernel
theorem dX6_doRounds_13 : decode cX6_doRounds 13 = .ok (.aload_n 1, 1) := by decide +kernel
theorem dX6_doRounds_14 : decode cX6_doRounds 14 = .ok (.iconst 0, 1) := by decide +kernel
theorem dX6_doRounds_15 : decode cX6_doRounds 15 = .ok (.laload, 1) := by decide +kernel
theorem dX6_doRounds_16 : decode cX6_doRounds 16 = .ok (.aload_n 1, 1) := by decide +kernel
theorem dX6_doRounds_17 : decode cX6_doRounds 17 = .ok (.iconst 5, 1) := by decide +kernel
theorem dX6_doRounds_18 : decode cX6_doRounds 18 = .ok (.laload, 1) := by decide +kernel
theorem dX6_doRounds_19 : decode cX6_doRounds 19 = .ok (.lxor, 1) := by decide +kernel
theorem dX6_doRounds_20 : decode cX6_doRounds 20 = .ok (.aload_n 1, 1) := by decide +kernel
theorem dX6_doRounds_21 : decode cX6_doRounds 21 = .ok (.bipush 10, 2) := by decide +kernel
theorem dX6_doRounds_23 : decode cX6_doRounds 23 = .ok (.laload, 1) := by decide +kernel
theorem dX6_doRounds_24 : decode cX6_doRounds 24 = .ok (.lxor, 1) := by decide +kernel
theorem dX6_doRounds_25 : decode cX6_doRounds 25 = .ok (.aload_n 1, 1) := by decide +kernel
theorem dX6_doRounds_26 : decode cX6_doRounds 26 = .ok (.bipush 15, 2) := by decide +kernel
theorem dX6_doRounds_28 : decode cX6_doRounds 28 = .ok (.laload, 1) := by decide +kernel
theorem dX6_doRounds_29 : decode cX6_doRounds 29 = .ok (.lxor, 1) := by decide +kernel
theorem dX6_doRounds_30 : decode cX6_doRounds 30 = .ok (.aload_n 1, 1) := by decide +kernel
theorem dX6_doRounds_31 : decode cX6_doRounds 31 = .ok (.bipush 20, 2) := by decide +kernel
theorem dX6_doRounds_33 : decode cX6_doRounds 33 = .ok (.laload, 1) := by decide +kernel
theorem dX6_doRounds_34 : decode cX6_doRounds 34 = .ok (.lxor, 1) := by decide +kernel
theorem dX6_doRounds_35 : decode cX6_doRounds 35 = .ok (.lstore_n 3, 1) := by decide +kernel
theorem dX6_doRounds_36 : decode cX6_doRounds 36 = .ok (.aload_n 1, 1) := by decide +kernel
theorem dX6_doRounds_37 : decode cX6_doRounds 37 = .ok (.iconst 1, 1) := by decide +kernel
theorem dX6_doRounds_38 : decode cX6_doRounds 38 = .ok (.laload, 1) := by decide +kernel
theorem dX6_doRounds_39 : decode cX6_doRounds 39 = .ok (.aload_n 1, 1) := by decide +kernel
theorem dX6_doRounds_40 : decode cX6_doRounds 40 = .ok (.bipush 6, 2) := by decide +kernel
theorem dX6_doRounds_42 : decode cX6_doRounds 42 = .ok (.laload, 1) := by decide +kernel
theorem dX6_doRounds_43 : decode cX6_doRounds 43 = .ok (.lxor, 1) := by decide +kernel
theorem dX6_doRounds_44 : decode cX6_doRounds 44 = .ok (.aload_n 1, 1) := by decide +kernel
theorem dX6_doRounds_45 : decode cX6_doRounds 45 = .ok (.bipush 11, 2) := by decide +kernel
theorem dX6_doRounds_47 : decode cX6_doRounds 47 = .ok (.laload, 1) := by decide +kernel
theorem dX6_doRounds_48 : decode cX6_doRounds 48 = .ok (.lxor, 1) := by decide +kernel
theorem dX6_doRounds_49 : decode cX6_doRounds 49 = .ok (.aload_n 1, 1) := by decide +kernel
theorem dX6_doRounds_50 : decode cX6_doRounds 50 = .ok (.bipush 16, 2) := by decide +kernel
theorem dX6_doRounds_52 : decode cX6_doRounds 52 = .ok (.laload, 1) := by decide +kernel
theorem dX6_doRounds_53 : decode cX6_doRounds 53 = .ok (.lxor, 1) := by decide +kernel
theorem dX6_doRounds_54 : decode cX6_doRounds 54 = .ok (.aload_n 1, 1) := by decide +kernel
theorem dX6_doRounds_55 : decode cX6_doRounds 55 = .ok (.bipush 21, 2) := by decide +kernel
theorem dX6_doRounds_57 : decode cX6_doRounds 57 = .ok (.laload, 1) := by decide +kernel
theorem dX6_doRounds_58 : decode cX6_doRounds 58 = .ok (.lxor, 1) := by decide +kernel
theorem dX6_doRounds_59 : decode cX6_doRounds 59 = .ok (.lstore 5, 2) := by decide +kernel
theorem dX6_doRounds_61 : decode cX6_doRounds 61 = .ok (.aload_n 1, 1) := by decide +kernel
theorem dX6_doRounds_62 : decode cX6_doRounds 62 = .ok (.iconst 2, 1) := by decide +kernel
theorem dX6_doRounds_63 : decode cX6_doRounds 63 = .ok (.laload, 1) := by decide +kernel
theorem dX6_doRounds_64 : decode cX6_doRounds 64 = .ok (.aload_n 1, 1) := by decide +kernel
theorem dX6_doRounds_65 : decode cX6_doRounds 65 = .ok (.bipush 7, 2) := by decide +kernel
theorem dX6_doRounds_67 : decode cX6_doRounds 67 = .ok (.laload, 1) := by decide +kernel
theorem dX6_doRounds_68 : decode cX6_doRounds 68 = .ok (.lxor, 1) := by decide +kernel
theorem dX6_doRounds_69 : decode cX6_doRounds 69 = .ok (.aload_n 1, 1) := by decide +kernel
theorem dX6_doRounds_70 : decode cX6_doRounds 70 = .ok (.bipush 12, 2) := by decide +kernel
theorem dX6_doRounds_72 : decode cX6_doRounds 72 = .ok (.laload, 1) := by decide +kernel
theorem dX6_doRounds_73 : decode cX6_doRounds 73 = .ok (.lxor, 1) := by decide +kernel
theorem dX6_doRounds_74 : decode cX6_doRounds 74 = .ok (.aload_n 1, 1) := by decide +kernel
theorem dX6_doRounds_75 : decode cX6_doRounds 75 = .ok (.bipush 17, 2) := by decide +kernel
theorem dX6_doRounds_77 : decode cX6_doRounds 77 = .ok (.laload, 1) := by decide +kernel
theorem dX6_doRounds_78 : decode cX6_doRounds 78 = .ok (.lxor, 1) := by decide +kernel
theorem dX6_doRounds_79 : decode cX6_doRounds 79 = .ok (.aload_n 1, 1) := by decide +kernel
theorem dX6_doRounds_80 : decode cX6_doRounds 80 = .ok (.bipush 22, 2) := by decide +kernel
theorem dX6_doRounds_82 : decode cX6_doRounds 82 = .ok (.laload, 1) := by decide +kernel
theorem dX6_doRounds_83 : decode cX6_doRounds 83 = .ok (.lxor, 1) := by decide +kernel
theorem dX6_doRounds_84 : decode cX6_doRounds 84 = .ok (.lstore 7, 2) := by decide +kernel
theorem dX6_doRounds_86 : decode cX6_doRounds 86 = .ok (.aload_n 1, 1) := by decide +kernel
theorem dX6_doRounds_87 : decode cX6_doRounds 87 = .ok (.iconst 3, 1) := by decide +kernel
theorem dX6_doRounds_88 : decode cX6_doRounds 88 = .ok (.laload, 1) := by decide +kernel
theorem dX6_doRounds_89 : decode cX6_doRounds 89 = .ok (.aload_n 1, 1) := by decide +kernel
theorem dX6_doRounds_90 : decode cX6_doRounds 90 = .ok (.bipush 8, 2) := by decide +kernel
theorem dX6_doRounds_92 : decode cX6_doRounds 92 = .ok (.laload, 1) := by decide +kernel
theorem dX6_doRounds_93 : decode cX6_doRounds 93 = .ok (.lxor, 1) := by decide +kernel
theorem dX6_doRounds_94 : decode cX6_doRounds 94 = .ok (.aload_n 1, 1) := by decide +kernel
theorem dX6_doRounds_95 : decode cX6_doRounds 95 = .ok (.bipush 13, 2) := by decide +kernel
theorem dX6_doRounds_97 : decode cX6_doRounds 97 = .ok (.laload, 1) := by decide +kernel
theorem dX6_doRounds_98 : decode cX6_doRounds 98 = .ok (.lxor, 1) := by decide +kernel
theorem dX6_doRounds_99 : decode cX6_doRounds 99 = .ok (.aload_n 1, 1) := by decide +kernel
theorem dX6_doRounds_100 : decode cX6_doRounds 100 = .ok (.bipush 18, 2) := by decide +kernel
theorem dX6_doRounds_102 : decode cX6_doRounds 102 = .ok (.laload, 1) := by decide +kernel
theorem dX6_doRounds_103 : decode cX6_doRounds 103 = .ok (.lxor, 1) := by decide +kernel
theorem dX6_doRounds_104 : decode cX6_doRounds 104 = .ok (.aload_n 1, 1) := by decide +kernel
theorem dX6_doRounds_105 : decode cX6_doRounds 105 = .ok (.bipush 23, 2) := by decide +kernel
theorem dX6_doRounds_107 : decode cX6_doRounds 107 = .ok (.laload, 1) := by decide +kernel
theorem dX6_doRounds_108 : decode cX6_doRounds 108 = .ok (.lxor, 1) := by decide +kernel
theorem dX6_doRounds_109 : decode cX6_doRounds 109 = .ok (.lstore 9, 2) := by decide +kernel
theorem dX6_doRounds_111 : decode cX6_doRounds 111 = .ok (.aload_n 1, 1) := by decide +kernel
theorem dX6_doRounds_112 : decode cX6_doRounds 112 = .ok (.iconst 4, 1) := by decide +kernel
theorem dX6_doRounds_113 : decode cX6_doRounds 113 = .ok (.laload, 1) := by decide +kernel
theorem dX6_doRounds_114 : decode cX6_doRounds 114 = .ok (.aload_n 1, 1) := by decide +kernel
theorem dX6_doRounds_115 : decode cX6_doRounds 115 = .ok (.bipush 9, 2) := by decide +kernel
theorem dX6_doRounds_117 : decode cX6_doRounds 117 = .ok (.laload, 1) := by decide +kernel
theorem dX6_doRounds_118 : decode cX6_doRounds 118 = .ok (.lxor, 1) := by decide +kernel
theorem dX6_doRounds_119 : decode cX6_doRounds 119 = .ok (.aload_n 1, 1) := by decide +kernel
theorem dX6_doRounds_120 : decode cX6_doRounds 120 = .ok (.bipush 14, 2) := by decide +kernel
theorem dX6_doRounds_122 : decode cX6_doRounds 122 = .ok (.laload, 1) := by decide +kernel
theorem dX6_doRounds_123 : decode cX6_doRounds 123 = .ok (.lxor, 1) := by decide +kernel
theorem dX6_doRounds_124 : decode cX6_doRounds 124 = .ok (.aload_n 1, 1) := by decide +kernel
theorem dX6_doRounds_125 : decode cX6_doRounds 125 = .ok (.bipush 19, 2) := by decide +kernel
theorem dX6_doRounds_127 : decode cX6_doRounds 127 = .ok (.laload, 1) := by decide +kernel
theorem dX6_doRounds_128 : decode cX6_doRounds 128 = .ok (.lxor, 1) := by decide +kernel
theorem dX6_doRounds_129 : decode cX6_doRounds 129 = .ok (.aload_n 1, 1) := by decide +kernel
theorem dX6_doRounds_130 : decode cX6_doRounds 130 = .ok (.bipush 24, 2) := by decide +kernel
theorem dX6_doRounds_132 : decode cX6_doRounds 132 = .ok (.laload, 1) := by decide +kernel
theorem dX6_doRounds_133 : decode cX6_doRounds 133 = .ok (.lxor, 1) := by decide +kernel
theorem dX6_doRounds_134 : decode cX6_doRounds 134 = .ok (.lstore 11, 2) := by decide +kernel
theorem dX6_doRounds_136 : decode cX6_doRounds 136 = .ok (.lload 11, 2) := by decide +kernel
theorem dX6_doRounds_138 : decode cX6_doRounds 138 = .ok (.lload 5, 2) := by decide +kernel
theorem dX6_doRounds_140 : decode cX6_doRounds 140 = .ok (.iconst 1, 1) := by decide +kernel
theorem dX6_doRounds_141 : decode cX6_doRounds 141 = .ok (.lshl, 1) := by decide +kernel
theorem dX6_doRounds_142 : decode cX6_doRounds 142 = .ok (.lload 5, 2) := by decide +kernel
theorem dX6_doRounds_144 : decode cX6_doRounds 144 = .ok (.bipush 63, 2) := by decide +kernel
theorem dX6_doRounds_146 : decode cX6_doRounds 146 = .ok (.lushr, 1) := by decide +kernel
theorem dX6_doRounds_147 : decode cX6_doRounds 147 = .ok (.lor, 1) := by decide +kernel
theorem dX6_doRounds_148 : decode cX6_doRounds 148 = .ok (.lxor, 1) := by decide +kernel
theorem dX6_doRounds_149 : decode cX6_doRounds 149 = .ok (.lstore 13, 2) := by decide +kernel
theorem dX6_doRounds_151 : decode cX6_doRounds 151 = .ok (.lload_n 3, 1) := by decide +kernel
theorem dX6_doRounds_152 : decode cX6_doRounds 152 = .ok (.lload 7, 2) := by decide +kernel
theorem dX6_doRounds_154 : decode cX6_doRounds 154 = .ok (.iconst 1, 1) := by decide +kernel
theorem dX6_doRounds_155 : decode cX6_doRounds 155 = .ok (.lshl, 1) := by decide +kernel
theorem dX6_doRounds_156 : decode cX6_doRounds 156 = .ok (.lload 7, 2) := by decide +kernel
theorem dX6_doRounds_158 : decode cX6_doRounds 158 = .ok (.bipush 63, 2) := by decide +kernel
theorem dX6_doRounds_160 : decode cX6_doRounds 160 = .ok (.lushr, 1) := by decide +kernel
theorem dX6_doRounds_161 : decode cX6_doRounds 161 = .ok (.lor, 1) := by decide +kernel
theorem dX6_doRounds_162 : decode cX6_doRounds 162 = .ok (.lxor, 1) := by decide +kernel
theorem dX6_doRounds_163 : decode cX6_doRounds 163 = .ok (.lstore 15, 2) := by decide +kernel
theorem dX6_doRounds_165 : decode cX6_doRounds 165 = .ok (.lload 5, 2) := by decide +kernel
theorem dX6_doRounds_167 : decode cX6_doRounds 167 = .ok (.lload 9, 2) := by decide +kernel
theorem dX6_doRounds_169 : decode cX6_doRounds 169 = .ok (.iconst 1, 1) := by decide +kernel
theorem dX6_doRounds_170 : decode cX6_doRounds 170 = .ok (.lshl, 1) := by decide +kernel
theorem dX6_doRounds_171 : decode cX6_doRounds 171 = .ok (.lload 9, 2) := by decide +kernel
theorem dX6_doRounds_173 : decode cX6_doRounds 173 = .ok (.bipush 63, 2) := by decide +kernel
theorem dX6_doRounds_175 : decode cX6_doRounds 175 = .ok (.lushr, 1) := by decide +kernel
theorem dX6_doRounds_176 : decode cX6_doRounds 176 = .ok (.lor, 1) := by decide +kernel
theorem dX6_doRounds_177 : decode cX6_doRounds 177 = .ok (.lxor, 1) := by decide +kernel
theorem dX6_doRounds_178 : decode cX6_doRounds 178 = .ok (.lstore 17, 2) := by decide +kernel
theorem dX6_doRounds_180 : decode cX6_doRounds 180 = .ok (.lload 7, 2) := by decide +kernel
theorem dX6_doRounds_182 : decode cX6_doRounds 182 = .ok (.lload 11, 2) := by decide +kernel
theorem dX6_doRounds_184 : decode cX6_doRounds 184 = .ok (.iconst 1, 1) := by decide +kernel
theorem dX6_doRounds_185 : decode cX6_doRounds 185 = .ok (.lshl, 1) := by decide +kernel
theorem dX6_doRounds_186 : decode cX6_doRounds 186 = .ok (.lload 11, 2) := by decide +kernel
theorem dX6_doRounds_188 : decode cX6_doRounds 188 = .ok (.bipush 63, 2) := by decide +kernel
theorem dX6_doRounds_190 : decode cX6_doRounds 190 = .ok (.lushr, 1) := by decide +kernel
theorem dX6_doRounds_191 : decode cX6_doRounds 191 = .ok (.lor, 1) := by decide +kernel
theorem dX6_doRounds_192 : decode cX6_doRounds 192 = .ok (.lxor, 1) := by decide +kernel
theorem dX6_doRounds_193 : decode cX6_doRounds 193 = .ok (.lstore 19, 2) := by decide +kernel
theorem dX6_doRounds_195 : decode cX6_doRounds 195 = .ok (.lload 9, 2) := by decide +kernel
theorem dX6_doRounds_197 : decode cX6_doRounds 197 = .ok (.lload_n 3, 1) := by decide +kernel
theorem dX6_doRounds_198 : decode cX6_doRounds 198 = .ok (.iconst 1, 1) := by decide +kernel
theorem dX6_doRounds_199 : decode cX6_doRounds 199 = .ok (.lshl, 1) := by decide +kernel
theorem dX6_doRounds_200 : decode cX6_doRounds 200 = .ok (.lload_n 3, 1) := by decide +kernel
theorem dX6_doRounds_201 : decode cX6_doRounds 201 = .ok (.bipush 63, 2) := by decide +kernel
theorem dX6_doRounds_203 : decode cX6_doRounds 203 = .ok (.lushr, 1) := by decide +kernel
theorem dX6_doRounds_204 : decode cX6_doRounds 204 = .ok (.lor, 1) := by decide +kernel
theorem dX6_doRounds_205 : decode cX6_doRounds 205 = .ok (.lxor, 1) := by decide +kernel
theorem dX6_doRounds_206 : decode cX6_doRounds 206 = .ok (.lstore 21, 2) := by decide +kernel
theorem dX6_doRounds_208 : decode cX6_doRounds 208 = .ok (.iconst 0, 1) := by decide +kernel
theorem dX6_doRounds_209 : decode cX6_doRounds 209 = .ok (.istore 23, 2) := by decide +kernel
theorem dX6_doRounds_211 : decode cX6_doRounds 211 = .ok (.iload 23, 2) := by decide +kernel
theorem dX6_doRounds_213 : decode cX6_doRounds 213 = .ok (.bipush 25, 2) := by decide +kernel
theorem dX6_doRounds_215 : decode cX6_doRounds 215 = .ok (.if_icmp .ge 62, 3) := by decide +kernel
theorem dX6_doRounds_218 : decode cX6_doRounds 218 = .ok (.aload_n 1, 1) := by decide +kernel
theorem dX6_doRounds_219 : decode cX6_doRounds 219 = .ok (.iload 23, 2) := by decide +kernel
theorem dX6_doRounds_221 : decode cX6_doRounds 221 = .ok (.dup2, 1) := by decide +kernel
theorem dX6_doRounds_222 : decode cX6_doRounds 222 = .ok (.laload, 1) := by decide +kernel
theorem dX6_doRounds_223 : decode cX6_doRounds 223 = .ok (.lload 13, 2) := by decide +kernel
theorem dX6_doRounds_225 : decode cX6_doRounds 225 = .ok (.lxor, 1) := by decide +kernel
theorem dX6_doRounds_226 : decode cX6_doRounds 226 = .ok (.lastore, 1) := by decide +kernel
theorem dX6_doRounds_227 : decode cX6_doRounds 227 = .ok (.aload_n 1, 1) := by decide +kernel
theorem dX6_doRounds_228 : decode cX6_doRounds 228 = .ok (.iload 23, 2) := by decide +kernel
theorem dX6_doRounds_230 : decode cX6_doRounds 230 = .ok (.iconst 1, 1) := by decide +kernel
theorem dX6_doRounds_231 : decode cX6_doRounds 231 = .ok (.iadd, 1) := by decide +kernel
theorem dX6_doRounds_232 : decode cX6_doRounds 232 = .ok (.dup2, 1) := by decide +kernel
theorem dX6_doRounds_233 : decode cX6_doRounds 233 = .ok (.laload, 1) := by decide +kernel
theorem dX6_doRounds_234 : decode cX6_doRounds 234 = .ok (.lload 15, 2) := by decide +kernel
theorem dX6_doRounds_236 : decode cX6_doRounds 236 = .ok (.lxor, 1) := by decide +kernel
theorem dX6_doRounds_237 : decode cX6_doRounds 237 = .ok (.lastore, 1) := by decide +kernel
theorem dX6_doRounds_238 : decode cX6_doRounds 238 = .ok (.aload_n 1, 1) := by decide +kernel
theorem dX6_doRounds_239 : decode cX6_doRounds 239 = .ok (.iload 23, 2) := by decide +kernel
theorem dX6_doRounds_241 : decode cX6_doRounds 241 = .ok (.iconst 2, 1) := by decide +kernel
theorem dX6_doRounds_242 : decode cX6_doRounds 242 = .ok (.iadd, 1) := by decide +kernel
theorem dX6_doRounds_243 : decode cX6_doRounds 243 = .ok (.dup2, 1) := by decide +kernel
theorem dX6_doRounds_244 : decode cX6_doRounds 244 = .ok (.laload, 1) := by decide +kernel
theorem dX6_doRounds_245 : decode cX6_doRounds 245 = .ok (.lload 17, 2) := by decide +kernel
theorem dX6_doRounds_247 : decode cX6_doRounds 247 = .ok (.lxor, 1) := by decide +kernel
theorem dX6_doRounds_248 : decode cX6_doRounds 248 = .ok (.lastore, 1) := by decide +kernel
theorem dX6_doRounds_249 : decode cX6_doRounds 249 = .ok (.aload_n 1, 1) := by decide +kernel
theorem dX6_doRounds_250 : decode cX6_doRounds 250 = .ok (.iload 23, 2) := by decide +kernel
theorem dX6_doRounds_252 : decode cX6_doRounds 252 = .ok (.iconst 3, 1) := by decide +kernel
theorem dX6_doRounds_253 : decode cX6_doRounds 253 = .ok (.iadd, 1) := by decide +kernel
theorem dX6_doRounds_254 : decode cX6_doRounds 254 = .ok (.dup2, 1) := by decide +kernel
theorem dX6_doRounds_255 : decode cX6_doRounds 255 = .ok (.laload, 1) := by decide +kernel
theorem dX6_doRounds_256 : decode cX6_doRounds 256 = .ok (.lload 19, 2) := by decide +kernel
theorem dX6_doRounds_258 : decode cX6_doRounds 258 = .ok (.lxor, 1) := by decide +kernel
theorem dX6_doRounds_259 : decode cX6_doRounds 259 = .ok (.lastore, 1) := by decide +kernel
theorem dX6_doRounds_260 : decode cX6_doRounds 260 = .ok (.aload_n 1, 1) := by decide +kernel
theorem dX6_doRounds_261 : decode cX6_doRounds 261 = .ok (.iload 23, 2) := by decide +kernel
theorem dX6_doRounds_263 : decode cX6_doRounds 263 = .ok (.iconst 4, 1) := by decide +kernel
theorem dX6_doRounds_264 : decode cX6_doRounds 264 = .ok (.iadd, 1) := by decide +kernel
theorem dX6_doRounds_265 : decode cX6_doRounds 265 = .ok (.dup2, 1) := by decide +kernel
theorem dX6_doRounds_266 : decode cX6_doRounds 266 = .ok (.laload, 1) := by decide +kernel
theorem dX6_doRounds_267 : decode cX6_doRounds 267 = .ok (.lload 21, 2) := by decide +kernel
theorem dX6_doRounds_269 : decode cX6_doRounds 269 = .ok (.lxor, 1) := by decide +kernel
theorem dX6_doRounds_270 : decode cX6_doRounds 270 = .ok (.lastore, 1) := by decide +kernel
theorem dX6_doRounds_271 : decode cX6_doRounds 271 = .ok (.iinc 23 5, 3) := by decide +kernel
theorem dX6_doRounds_274 : decode cX6_doRounds 274 = .ok (.goto (-63), 3) := by decide +kernel
theorem dX6_doRounds_277 : decode cX6_doRounds 277 = .ok (.aload_n 1, 1) := by decide +kernel
theorem dX6_doRounds_278 : decode cX6_doRounds 278 = .ok (.iconst 1, 1) := by decide +kernel
theorem dX6_doRounds_279 : decode cX6_doRounds 279 = .ok (.laload, 1) := by decide +kernel
theorem dX6_doRounds_280 : decode cX6_doRounds 280 = .ok (.lstore 23, 2) := by decide +kernel
theorem dX6_doRounds_282 : decode cX6_doRounds 282 = .ok (.iconst 0, 1) := by decide +kernel
theorem dX6_doRounds_283 : decode cX6_doRounds 283 = .ok (.istore 25, 2) := by decide +kernel
theorem dX6_doRounds_285 : decode cX6_doRounds 285 = .ok (.iload 25, 2) := by decide +kernel
theorem dX6_doRounds_287 : decode cX6_doRounds 287 = .ok (.bipush 24, 2) := by decide +kernel
theorem dX6_doRounds_289 : decode cX6_doRounds 289 = .ok (.if_icmp .ge 53, 3) := by decide +kernel
theorem dX6_doRounds_292 : decode cX6_doRounds 292 = .ok (.getstatic 59, 3) := by decide +kernel
theorem dX6_doRounds_295 : decode cX6_doRounds 295 = .ok (.iload 25, 2) := by decide +kernel
theorem dX6_doRounds_297 : decode cX6_doRounds 297 = .ok (.iaload, 1) := by decide +kernel
theorem dX6_doRounds_298 : decode cX6_doRounds 298 = .ok (.istore 26, 2) := by decide +kernel
theorem dX6_doRounds_300 : decode cX6_doRounds 300 = .ok (.getstatic 62, 3) := by decide +kernel
theorem dX6_doRounds_303 : decode cX6_doRounds 303 = .ok (.iload 25, 2) := by decide +kernel
theorem dX6_doRounds_305 : decode cX6_doRounds 305 = .ok (.iaload, 1) := by decide +kernel
theorem dX6_doRounds_306 : decode cX6_doRounds 306 = .ok (.istore 27, 2) := by decide +kernel
theorem dX6_doRounds_308 : decode cX6_doRounds 308 = .ok (.aload_n 1, 1) := by decide +kernel
theorem dX6_doRounds_309 : decode cX6_doRounds 309 = .ok (.iload 26, 2) := by decide +kernel
theorem dX6_doRounds_311 : decode cX6_doRounds 311 = .ok (.laload, 1) := by decide +kernel
theorem dX6_doRounds_312 : decode cX6_doRounds 312 = .ok (.lstore 28, 2) := by decide +kernel
theorem dX6_doRounds_314 : decode cX6_doRounds 314 = .ok (.aload_n 1, 1) := by decide +kernel
theorem dX6_doRounds_315 : decode cX6_doRounds 315 = .ok (.iload 26, 2) := by decide +kernel
theorem dX6_doRounds_317 : decode cX6_doRounds 317 = .ok (.lload 23, 2) := by decide +kernel
theorem dX6_doRounds_319 : decode cX6_doRounds 319 = .ok (.iload 27, 2) := by decide +kernel
theorem dX6_doRounds_321 : decode cX6_doRounds 321 = .ok (.lshl, 1) := by decide +kernel
theorem dX6_doRounds_322 : decode cX6_doRounds 322 = .ok (.lload 23, 2) := by decide +kernel
theorem dX6_doRounds_324 : decode cX6_doRounds 324 = .ok (.bipush 64, 2) := by decide +kernel
theorem dX6_doRounds_326 : decode cX6_doRounds 326 = .ok (.iload 27, 2) := by decide +kernel
theorem dX6_doRounds_328 : decode cX6_doRounds 328 = .ok (.isub, 1) := by decide +kernel
theorem dX6_doRounds_329 : decode cX6_doRounds 329 = .ok (.lushr, 1) := by decide +kernel
theorem dX6_doRounds_330 : decode cX6_doRounds 330 = .ok (.lor, 1) := by decide +kernel
theorem dX6_doRounds_331 : decode cX6_doRounds 331 = .ok (.lastore, 1) := by decide +kernel
theorem dX6_doRounds_332 : decode cX6_doRounds 332 = .ok (.lload 28, 2) := by decide +kernel
theorem dX6_doRounds_334 : decode cX6_doRounds 334 = .ok (.lstore 23, 2) := by decide +kernel
theorem dX6_doRounds_336 : decode cX6_doRounds 336 = .ok (.iinc 25 1, 3) := by decide +kernel
theorem dX6_doRounds_339 : decode cX6_doRounds 339 = .ok (.goto (-54), 3) := by decide +kernel
theorem dX6_doRounds_342 : decode cX6_doRounds 342 = .ok (.iconst 0, 1) := by decide +kernel
theorem dX6_doRounds_343 : decode cX6_doRounds 343 = .ok (.istore 25, 2) := by decide +kernel
theorem dX6_doRounds_345 : decode cX6_doRounds 345 = .ok (.iload 25, 2) := by decide +kernel
theorem dX6_doRounds_347 : decode cX6_doRounds 347 = .ok (.bipush 25, 2) := by decide +kernel
theorem dX6_doRounds_349 : decode cX6_doRounds 349 = .ok (.if_icmp .ge 135, 3) := by decide +kernel
theorem dX6_doRounds_352 : decode cX6_doRounds 352 = .ok (.aload_n 1, 1) := by decide +kernel
theorem dX6_doRounds_353 : decode cX6_doRounds 353 = .ok (.iload 25, 2) := by decide +kernel
theorem dX6_doRounds_355 : decode cX6_doRounds 355 = .ok (.laload, 1) := by decide +kernel
theorem dX6_doRounds_356 : decode cX6_doRounds 356 = .ok (.lstore 26, 2) := by decide +kernel
theorem dX6_doRounds_358 : decode cX6_doRounds 358 = .ok (.aload_n 1, 1) := by decide +kernel
theorem dX6_doRounds_359 : decode cX6_doRounds 359 = .ok (.iload 25, 2) := by decide +kernel
theorem dX6_doRounds_361 : decode cX6_doRounds 361 = .ok (.iconst 1, 1) := by decide +kernel
theorem dX6_doRounds_362 : decode cX6_doRounds 362 = .ok (.iadd, 1) := by decide +kernel
theorem dX6_doRounds_363 : decode cX6_doRounds 363 = .ok (.laload, 1) := by decide +kernel
theorem dX6_doRounds_364 : decode cX6_doRounds 364 = .ok (.lstore 28, 2) := by decide +kernel
theorem dX6_doRounds_366 : decode cX6_doRounds 366 = .ok (.aload_n 1, 1) := by decide +kernel
theorem dX6_doRounds_367 : decode cX6_doRounds 367 = .ok (.iload 25, 2) := by decide +kernel
theorem dX6_doRounds_369 : decode cX6_doRounds 369 = .ok (.iconst 2, 1) := by decide +kernel
theorem dX6_doRounds_370 : decode cX6_doRounds 370 = .ok (.iadd, 1) := by decide +kernel
theorem dX6_doRounds_371 : decode cX6_doRounds 371 = .ok (.laload, 1) := by decide +kernel
theorem dX6_doRounds_372 : decode cX6_doRounds 372 = .ok (.lstore 30, 2) := by decide +kernel
theorem dX6_doRounds_374 : decode cX6_doRounds 374 = .ok (.aload_n 1, 1) := by decide +kernel
theorem dX6_doRounds_375 : decode cX6_doRounds 375 = .ok (.iload 25, 2) := by decide +kernel
theorem dX6_doRounds_377 : decode cX6_doRounds 377 = .ok (.iconst 3, 1) := by decide +kernel
theorem dX6_doRounds_378 : decode cX6_doRounds 378 = .ok (.iadd, 1) := by decide +kernel
theorem dX6_doRounds_379 : decode cX6_doRounds 379 = .ok (.laload, 1) := by decide +kernel
theorem dX6_doRounds_380 : decode cX6_doRounds 380 = .ok (.lstore 32, 2) := by decide +kernel
theorem dX6_doRounds_382 : decode cX6_doRounds 382 = .ok (.aload_n 1, 1) := by decide +kernel
theorem dX6_doRounds_383 : decode cX6_doRounds 383 = .ok (.iload 25, 2) := by decide +kernel
theorem dX6_doRounds_385 : decode cX6_doRounds 385 = .ok (.iconst 4, 1) := by decide +kernel
theorem dX6_doRounds_386 : decode cX6_doRounds 386 = .ok (.iadd, 1) := by decide +kernel
theorem dX6_doRounds_387 : decode cX6_doRounds 387 = .ok (.laload, 1) := by decide +kernel
theorem dX6_doRounds_388 : decode cX6_doRounds 388 = .ok (.lstore 34, 2) := by decide +kernel
theorem dX6_doRounds_390 : decode cX6_doRounds 390 = .ok (.aload_n 1, 1) := by decide +kernel
theorem dX6_doRounds_391 : decode cX6_doRounds 391 = .ok (.iload 25, 2) := by decide +kernel
theorem dX6_doRounds_393 : decode cX6_doRounds 393 = .ok (.lload 26, 2) := by decide +kernel
theorem dX6_doRounds_395 : decode cX6_doRounds 395 = .ok (.lload 28, 2) := by decide +kernel
theorem dX6_doRounds_397 : decode cX6_doRounds 397 = .ok (.ldc2_w 65, 3) := by decide +kernel
theorem dX6_doRounds_400 : decode cX6_doRounds 400 = .ok (.lxor, 1) := by decide +kernel
theorem dX6_doRounds_401 : decode cX6_doRounds 401 = .ok (.lload 30, 2) := by decide +kernel
theorem dX6_doRounds_403 : decode cX6_doRounds 403 = .ok (.land, 1) := by decide +kernel
theorem dX6_doRounds_404 : decode cX6_doRounds 404 = .ok (.lxor, 1) := by decide +kernel
theorem dX6_doRounds_405 : decode cX6_doRounds 405 = .ok (.lastore, 1) := by decide +kernel
theorem dX6_doRounds_406 : decode cX6_doRounds 406 = .ok (.aload_n 1, 1) := by decide +kernel
theorem dX6_doRounds_407 : decode cX6_doRounds 407 = .ok (.iload 25, 2) := by decide +kernel
theorem dX6_doRounds_409 : decode cX6_doRounds 409 = .ok (.iconst 1, 1) := by decide +kernel
theorem dX6_doRounds_410 : decode cX6_doRounds 410 = .ok (.iadd, 1) := by decide +kernel
theorem dX6_doRounds_411 : decode cX6_doRounds 411 = .ok (.lload 28, 2) := by decide +kernel
theorem dX6_doRounds_413 : decode cX6_doRounds 413 = .ok (.lload 30, 2) := by decide +kernel
theorem dX6_doRounds_415 : decode cX6_doRounds 415 = .ok (.ldc2_w 65, 3) := by decide +kernel
theorem dX6_doRounds_418 : decode cX6_doRounds 418 = .ok (.lxor, 1) := by decide +kernel
theorem dX6_doRounds_419 : decode cX6_doRounds 419 = .ok (.lload 32, 2) := by decide +kernel
theorem dX6_doRounds_421 : decode cX6_doRounds 421 = .ok (.land, 1) := by decide +kernel
theorem dX6_doRounds_422 : decode cX6_doRounds 422 = .ok (.lxor, 1) := by decide +kernel
theorem dX6_doRounds_423 : decode cX6_doRounds 423 = .ok (.lastore, 1) := by decide +kernel
theorem dX6_doRounds_424 : decode cX6_doRounds 424 = .ok (.aload_n 1, 1) := by decide +kernel
theorem dX6_doRounds_425 : decode cX6_doRounds 425 = .ok (.iload 25, 2) := by decide +kernel
theorem dX6_doRounds_427 : decode cX6_doRounds 427 = .ok (.iconst 2, 1) := by decide +kernel
theorem dX6_doRounds_428 : decode cX6_doRounds 428 = .ok (.iadd, 1) := by decide +kernel
theorem dX6_doRounds_429 : decode cX6_doRounds 429 = .ok (.lload 30, 2) := by decide +kernel
theorem dX6_doRounds_431 : decode cX6_doRounds 431 = .ok (.lload 32, 2) := by decide +kernel
theorem dX6_doRounds_433 : decode cX6_doRounds 433 = .ok (.ldc2_w 65, 3) := by decide +kernel
theorem dX6_doRounds_436 : decode cX6_doRounds 436 = .ok (.lxor, 1) := by decide +kernel
theorem dX6_doRounds_437 : decode cX6_doRounds 437 = .ok (.lload 34, 2) := by decide +kernel
theorem dX6_doRounds_439 : decode cX6_doRounds 439 = .ok (.land, 1) := by decide +kernel
theorem dX6_doRounds_440 : decode cX6_doRounds 440 = .ok (.lxor, 1) := by decide +kernel
theorem dX6_doRounds_441 : decode cX6_doRounds 441 = .ok (.lastore, 1) := by decide +kernel
theorem dX6_doRounds_442 : decode cX6_doRounds 442 = .ok (.aload_n 1, 1) := by decide +kernel
theorem dX6_doRounds_443 : decode cX6_doRounds 443 = .ok (.iload 25, 2) := by decide +kernel
theorem dX6_doRounds_445 : decode cX6_doRounds 445 = .ok (.iconst 3, 1) := by decide +kernel
theorem dX6_doRounds_446 : decode cX6_doRounds 446 = .ok (.iadd, 1) := by decide +kernel
theorem dX6_doRounds_447 : decode cX6_doRounds 447 = .ok (.lload 32, 2) := by decide +kernel
theorem dX6_doRounds_449 : decode cX6_doRounds 449 = .ok (.lload 34, 2) := by decide +kernel
theorem dX6_doRounds_451 : decode cX6_doRounds 451 = .ok (.ldc2_w 65, 3) := by decide +kernel
theorem dX6_doRounds_454 : decode cX6_doRounds 454 = .ok (.lxor, 1) := by decide +kernel
theorem dX6_doRounds_455 : decode cX6_doRounds 455 = .ok (.lload 26, 2) := by decide +kernel
theorem dX6_doRounds_457 : decode cX6_doRounds 457 = .ok (.land, 1) := by decide +kernel
theorem dX6_doRounds_458 : decode cX6_doRounds 458 = .ok (.lxor, 1) := by decide +kernel
theorem dX6_doRounds_459 : decode cX6_doRounds 459 = .ok (.lastore, 1) := by decide +kernel
theorem dX6_doRounds_460 : decode cX6_doRounds 460 = .ok (.aload_n 1, 1) := by decide +kernel
theorem dX6_doRounds_461 : decode cX6_doRounds 461 = .ok (.iload 25, 2) := by decide +kernel
theorem dX6_doRounds_463 : decode cX6_doRounds 463 = .ok (.iconst 4, 1) := by decide +kernel
theorem dX6_doRounds_464 : decode cX6_doRounds 464 = .ok (.iadd, 1) := by decide +kernel
theorem dX6_doRounds_465 : decode cX6_doRounds 465 = .ok (.lload 34, 2) := by decide +kernel
theorem dX6_doRounds_467 : decode cX6_doRounds 467 = .ok (.lload 26, 2) := by decide +kernel
theorem dX6_doRounds_469 : decode cX6_doRounds 469 = .ok (.ldc2_w 65, 3) := by decide +kernel
theorem dX6_doRounds_472 : decode cX6_doRounds 472 = .ok (.lxor, 1) := by decide +kernel
theorem dX6_doRounds_473 : decode cX6_doRounds 473 = .ok (.lload 28, 2) := by decide +kernel
theorem dX6_doRounds_475 : decode cX6_doRounds 475 = .ok (.land, 1) := by decide +kernel
theorem dX6_doRounds_476 : decode cX6_doRounds 476 = .ok (.lxor, 1) := by decide +kernel
theorem dX6_doRounds_477 : decode cX6_doRounds 477 = .ok (.lastore, 1) := by decide +kernel
theorem dX6_doRounds_478 : decode cX6_doRounds 478 = .ok (.iinc 25 5, 3) := by decide +kernel
theorem dX6_doRounds_481 : decode cX6_doRounds 481 = .ok (.goto (-136), 3) := by decide +kernel
theorem dX6_doRounds_484 : decode cX6_doRounds 484 = .ok (.aload_n 1, 1) := by decide +kernel
theorem dX6_doRounds_485 : decode cX6_doRounds 485 = .ok (.iconst 0, 1) := by decide +kernel
theorem dX6_doRounds_486 : decode cX6_doRounds 486 = .ok (.dup2, 1) := by decide +kernel
theorem dX6_doRounds_487 : decode cX6_doRounds 487 = .ok (.laload, 1) := by decide +kernel
theorem dX6_doRounds_488 : decode cX6_doRounds 488 = .ok (.getstatic 67, 3) := by decide +kernel
theorem dX6_doRounds_491 : decode cX6_doRounds 491 = .ok (.iload_n 2, 1) := by decide +kernel
theorem dX6_doRounds_492 : decode cX6_doRounds 492 = .ok (.laload, 1) := by decide +kernel
theorem dX6_doRounds_493 : decode cX6_doRounds 493 = .ok (.lxor, 1) := by decide +kernel
theorem dX6_doRounds_494 : decode cX6_doRounds 494 = .ok (.lastore, 1) := by decide +kernel
theorem dX6_doRounds_495 : decode cX6_doRounds 495 = .ok (.iinc 2 1, 3) := by decide +kernel
theorem dX6_doRounds_498 : decode cX6_doRounds 498 = .ok (.goto (-491), 3) := by decide +kernel
theorem dX6_doRounds_501 : decode cX6_doRounds 501 = .ok (.return_, 1) := by decide +kernel
end
section
theorem dX7_init_0 : decode cX7_init 0 = .ok (.aload_n 0, 1) := by decide +kernel
theorem dX7_init_1 : decode cX7_init 1 = .ok (.invokespecial 1, 3) := by decide +kernel
theorem dX7_init_4 : decode cX7_init 4 = .ok (.aload_n 0, 1) := by decide +kernel
theorem dX7_init_5 : decode cX7_init 5 = .ok (.new 7, 3) := by decide +kernel
theorem dX7_init_8 : decode cX7_init 8 = .ok (.dup, 1) := by decide +kernel
theorem dX7_init_9 : decode cX7_init 9 = .ok (.sipush 4000, 3) := by decide +kernel
theorem dX7_init_12 : decode cX7_init 12 = .ok (.invokespecial 11, 3) := by decide +kernel
theorem dX7_init_15 : decode cX7_init 15 = .ok (.putfield 14, 3) := by decide +kernel
theorem dX7_init_18 : decode cX7_init 18 = .ok (.aload_n 0, 1) := by decide +kernel
theorem dX7_init_19 : decode cX7_init 19 = .ok (.new 7, 3) := by decide +kernel
theorem dX7_init_22 : decode cX7_init 22 = .ok (.dup, 1) := by decide +kernel
theorem dX7_init_23 : decode cX7_init 23 = .ok (.sipush 1568, 3) := by decide +kernel
theorem dX7_init_26 : decode cX7_init 26 = .ok (.invokespecial 11, 3) := by decide +kernel
theorem dX7_init_29 : decode cX7_init 29 = .ok (.putfield 18, 3) := by decide +kernel
theorem dX7_init_32 : decode cX7_init 32 = .ok (.aload_n 0, 1) := by decide +kernel
theorem dX7_init_33 : decode cX7_init 33 = .ok (.new 7, 3) := by decide +kernel
theorem dX7_init_36 : decode cX7_init 36 = .ok (.dup, 1) := by decide +kernel
theorem dX7_init_37 : decode cX7_init 37 = .ok (.sipush 3168, 3) := by decide +kernel
theorem dX7_init_40 : decode cX7_init 40 = .ok (.invokespecial 11, 3) := by decide +kernel
theorem dX7_init_43 : decode cX7_init 43 = .ok (.putfield 21, 3) := by decide +kernel
theorem dX7_init_46 : decode cX7_init 46 = .ok (.aload_n 0, 1) := by decide +kernel
theorem dX7_init_47 : decode cX7_init 47 = .ok (.new 7, 3) := by decide +kernel
theorem dX7_init_50 : decode cX7_init 50 = .ok (.dup, 1) := by decide +kernel
theorem dX7_init_51 : decode cX7_init 51 = .ok (.sipush 1568, 3) := by decide +kernel
theorem dX7_init_54 : decode cX7_init 54 = .ok (.invokespecial 11, 3) := by decide +kernel
theorem dX7_init_57 : decode cX7_init 57 = .ok (.putfield 24, 3) := by decide +kernel
theorem dX7_init_60 : decode cX7_init 60 = .ok (.aload_n 0, 1) := by decide +kernel
theorem dX7_init_61 : decode cX7_init 61 = .ok (.new 7, 3) := by decide +kernel
theorem dX7_init_64 : decode cX7_init 64 = .ok (.dup, 1) := by decide +kernel
theorem dX7_init_65 : decode cX7_init 65 = .ok (.bipush 32, 2) := by decide +kernel
theorem dX7_init_67 : decode cX7_init 67 = .ok (.invokespecial 11, 3) := by decide +kernel
theorem dX7_init_70 : decode cX7_init 70 = .ok (.putfield 27, 3) := by decide +kernel
theorem dX7_init_73 : decode cX7_init 73 = .ok (.aload_n 0, 1) := by decide +kernel
theorem dX7_init_74 : decode cX7_init 74 = .ok (.new 7, 3) := by decide +kernel
theorem dX7_init_77 : decode cX7_init 77 = .ok (.dup, 1) := by decide +kernel
theorem dX7_init_78 : decode cX7_init 78 = .ok (.sipush 1000, 3) := by decide +kernel
theorem dX7_init_81 : decode cX7_init 81 = .ok (.invokespecial 11, 3) := by decide +kernel
theorem dX7_init_84 : decode cX7_init 84 = .ok (.putfield 30, 3) := by decide +kernel
theorem dX7_init_87 : decode cX7_init 87 = .ok (.aload_n 0, 1) := by decide +kernel
theorem dX7_init_88 : decode cX7_init 88 = .ok (.iconst 4, 1) := by decide +kernel
theorem dX7_init_89 : decode cX7_init 89 = .ok (.sipush 256, 3) := by decide +kernel
theorem dX7_init_92 : decode cX7_init 92 = .ok (.multianewarray 33 2, 4) := by decide +kernel
theorem dX7_init_96 : decode cX7_init 96 = .ok (.putfield 35, 3) := by decide +kernel
theorem dX7_init_99 : decode cX7_init 99 = .ok (.aload_n 0, 1) := by decide +kernel
theorem dX7_init_100 : decode cX7_init 100 = .ok (.new 38, 3) := by decide +kernel
theorem dX7_init_103 : decode cX7_init 103 = .ok (.dup, 1) := by decide +kernel
theorem dX7_init_104 : decode cX7_init 104 = .ok (.invokespecial 40, 3) := by decide +kernel
theorem dX7_init_107 : decode cX7_init 107 = .ok (.putfield 41, 3) := by decide +kernel
theorem dX7_init_110 : decode cX7_init 110 = .ok (.aload_n 0, 1) := by decide +kernel
theorem dX7_init_111 : decode cX7_init 111 = .ok (.new 45, 3) := by decide +kernel
theorem dX7_init_114 : decode cX7_init 114 = .ok (.dup, 1) := by decide +kernel
theorem dX7_init_115 : decode cX7_init 115 = .ok (.aload_n 0, 1) := by decide +kernel
theorem dX7_init_116 : decode cX7_init 116 = .ok (.getfield 41, 3) := by decide +kernel
theorem dX7_init_119 : decode cX7_init 119 = .ok (.invokespecial 47, 3) := by decide +kernel
theorem dX7_init_122 : decode cX7_init 122 = .ok (.putfield 50, 3) := by decide +kernel
theorem dX7_init_125 : decode cX7_init 125 = .ok (.aload_n 0, 1) := by decide +kernel
theorem dX7_init_126 : decode cX7_init 126 = .ok (.new 54, 3) := by decide +kernel
theorem dX7_init_129 : decode cX7_init 129 = .ok (.dup, 1) := by decide +kernel
theorem dX7_init_130 : decode cX7_init 130 = .ok (.aload_n 0, 1) := by decide +kernel
theorem dX7_init_131 : decode cX7_init 131 = .ok (.getfield 41, 3) := by decide +kernel
theorem dX7_init_134 : decode cX7_init 134 = .ok (.aload_n 0, 1) := by decide +kernel
theorem dX7_init_135 : decode cX7_init 135 = .ok (.getfield 50, 3) := by decide +kernel
theorem dX7_init_138 : decode cX7_init 138 = .ok (.invokespecial 56, 3) := by decide +kernel
theorem dX7_init_141 : decode cX7_init 141 = .ok (.putfield 59, 3) := by decide +kernel
theorem dX7_init_144 : decode cX7_init 144 = .ok (.aload_n 0, 1) := by decide +kernel
theorem dX7_init_145 : decode cX7_init 145 = .ok (.sipush 256, 3) := by decide +kernel
theorem dX7_init_148 : decode cX7_init 148 = .ok (.newarray .int, 2) := by decide +kernel
theorem dX7_init_150 : decode cX7_init 150 = .ok (.putfield 63, 3) := by decide +kernel
theorem dX7_init_153 : decode cX7_init 153 = .ok (.aload_n 0, 1) := by decide +kernel
theorem dX7_init_154 : decode cX7_init 154 = .ok (.getstatic 67, 3) := by decide +kernel
theorem dX7_init_157 : decode cX7_init 157 = .ok (.putfield 73, 3) := by decide +kernel
theorem dX7_init_160 : decode cX7_init 160 = .ok (.aload_n 0, 1) := by decide +kernel
theorem dX7_init_161 : decode cX7_init 161 = .ok (.sipush 280, 3) := by decide +kernel
theorem dX7_init_164 : decode cX7_init 164 = .ok (.putfield 76, 3) := by decide +kernel
theorem dX7_init_167 : decode cX7_init 167 = .ok (.return_, 1) := by decide +kernel
theorem dX7_feed_0 : decode cX7_feed 0 = .ok (.aload_n 0, 1) := by decide +kernel
theorem dX7_feed_1 : decode cX7_feed 1 = .ok (.getfield 14, 3) := by decide +kernel
theorem dX7_feed_4 : decode cX7_feed 4 = .ok (.invokevirtual 80, 3) := by decide +kernel
theorem dX7_feed_7 : decode cX7_feed 7 = .ok (.bipush 20, 2) := by decide +kernel
theorem dX7_feed_9 : decode cX7_feed 9 = .ok (.iadd, 1) := by decide +kernel
theorem dX7_feed_10 : decode cX7_feed 10 = .ok (.sipush 4000, 3) := by decide +kernel
theorem dX7_feed_13 : decode cX7_feed 13 = .ok (.if_icmp .le 5, 3) := by decide +kernel
theorem dX7_feed_16 : decode cX7_feed 16 = .ok (.iconst (-1), 1) := by decide +kernel
theorem dX7_feed_17 : decode cX7_feed 17 = .ok (.ireturn, 1) := by decide +kernel
theorem dX7_feed_18 : decode cX7_feed 18 = .ok (.aload_n 0, 1) := by decide +kernel
theorem dX7_feed_19 : decode cX7_feed 19 = .ok (.getfield 14, 3) := by decide +kernel
theorem dX7_feed_22 : decode cX7_feed 22 = .ok (.iload_n 1, 1) := by decide +kernel
theorem dX7_feed_23 : decode cX7_feed 23 = .ok (.invokevirtual 84, 3) := by decide +kernel
theorem dX7_feed_26 : decode cX7_feed 26 = .ok (.aload_n 0, 1) := by decide +kernel
theorem dX7_feed_27 : decode cX7_feed 27 = .ok (.getfield 14, 3) := by decide +kernel
theorem dX7_feed_30 : decode cX7_feed 30 = .ok (.iload_n 2, 1) := by decide +kernel
theorem dX7_feed_31 : decode cX7_feed 31 = .ok (.invokevirtual 84, 3) := by decide +kernel
theorem dX7_feed_34 : decode cX7_feed 34 = .ok (.aload_n 0, 1) := by decide +kernel
theorem dX7_feed_35 : decode cX7_feed 35 = .ok (.getfield 14, 3) := by decide +kernel
theorem dX7_feed_38 : decode cX7_feed 38 = .ok (.iload_n 3, 1) := by decide +kernel
theorem dX7_feed_39 : decode cX7_feed 39 = .ok (.invokevirtual 84, 3) := by decide +kernel
theorem dX7_feed_42 : decode cX7_feed 42 = .ok (.aload_n 0, 1) := by decide +kernel
theorem dX7_feed_43 : decode cX7_feed 43 = .ok (.getfield 14, 3) := by decide +kernel
theorem dX7_feed_46 : decode cX7_feed 46 = .ok (.iload 4, 2) := by decide +kernel
theorem dX7_feed_48 : decode cX7_feed 48 = .ok (.invokevirtual 84, 3) := by decide +kernel
theorem dX7_feed_51 : decode cX7_feed 51 = .ok (.aload_n 0, 1) := by decide +kernel
theorem dX7_feed_52 : decode cX7_feed 52 = .ok (.getfield 14, 3) := by decide +kernel
theorem dX7_feed_55 : decode cX7_feed 55 = .ok (.iload 5, 2) := by decide +kernel
theorem dX7_feed_57 : decode cX7_feed 57 = .ok (.invokevirtual 84, 3) := by decide +kernel
theorem dX7_feed_60 : decode cX7_feed 60 = .ok (.aload_n 0, 1) := by decide +kernel
theorem dX7_feed_61 : decode cX7_feed 61 = .ok (.getfield 14, 3) := by decide +kernel
theorem dX7_feed_64 : decode cX7_feed 64 = .ok (.invokevirtual 80, 3) := by decide +kernel
theorem dX7_feed_67 : decode cX7_feed 67 = .ok (.ireturn, 1) := by decide +kernel
theorem dX7_end_0 : decode cX7_end 0 = .ok (.iload_n 1, 1) := by decide +kernel
theorem dX7_end_1 : decode cX7_end 1 = .ok (.ifCond .lt 14, 3) := by decide +kernel
theorem dX7_end_4 : decode cX7_end 4 = .ok (.iload_n 1, 1) := by decide +kernel
theorem dX7_end_5 : decode cX7_end 5 = .ok (.aload_n 0, 1) := by decide +kernel
theorem dX7_end_6 : decode cX7_end 6 = .ok (.getfield 14, 3) := by decide +kernel
theorem dX7_end_9 : decode cX7_end 9 = .ok (.invokevirtual 80, 3) := by decide +kernel
theorem dX7_end_12 : decode cX7_end 12 = .ok (.if_icmp .le 5, 3) := by decide +kernel
theorem dX7_end_15 : decode cX7_end 15 = .ok (.iconst (-1), 1) := by decide +kernel
theorem dX7_end_16 : decode cX7_end 16 = .ok (.ireturn, 1) := by decide +kernel
theorem dX7_end_17 : decode cX7_end 17 = .ok (.aload_n 0, 1) := by decide +kernel
theorem dX7_end_18 : decode cX7_end 18 = .ok (.getfield 14, 3) := by decide +kernel
theorem dX7_end_21 : decode cX7_end 21 = .ok (.iload_n 1, 1) := by decide +kernel
theorem dX7_end_22 : decode cX7_end 22 = .ok (.invokevirtual 87, 3) := by decide +kernel
theorem dX7_end_25 : decode cX7_end 25 = .ok (.iload_n 1, 1) := by decide +kernel
theorem dX7_end_26 : decode cX7_end 26 = .ok (.ireturn, 1) := by decide +kernel
theorem dX7_take_0 : decode cX7_take 0 = .ok (.iload_n 1, 1) := by decide +kernel
theorem dX7_take_1 : decode cX7_take 1 = .ok (.iconst 5, 1) := by decide +kernel
theorem dX7_take_2 : decode cX7_take 2 = .ok (.if_icmp .ne 7, 3) := by decide +kernel
theorem dX7_take_5 : decode cX7_take 5 = .ok (.aconst_null, 1) := by decide +kernel
theorem dX7_take_6 : decode cX7_take 6 = .ok (.goto 8, 3) := by decide +kernel
theorem dX7_take_9 : decode cX7_take 9 = .ok (.aload_n 0, 1) := by decide +kernel
theorem dX7_take_10 : decode cX7_take 10 = .ok (.iload_n 1, 1) := by decide +kernel
theorem dX7_take_11 : decode cX7_take 11 = .ok (.invokevirtual 90, 3) := by decide +kernel
theorem dX7_take_14 : decode cX7_take 14 = .ok (.astore_n 2, 1) := by decide +kernel
theorem dX7_take_15 : decode cX7_take 15 = .ok (.aload_n 2, 1) := by decide +kernel
theorem dX7_take_16 : decode cX7_take 16 = .ok (.ifnonnull 5, 3) := by decide +kernel
theorem dX7_take_19 : decode cX7_take 19 = .ok (.iconst (-1), 1) := by decide +kernel
theorem dX7_take_20 : decode cX7_take 20 = .ok (.ireturn, 1) := by decide +kernel
theorem dX7_take_21 : decode cX7_take 21 = .ok (.aload_n 0, 1) := by decide +kernel
theorem dX7_take_22 : decode cX7_take 22 = .ok (.getfield 14, 3) := by decide +kernel
theorem dX7_take_25 : decode cX7_take 25 = .ok (.aload_n 2, 1) := by decide +kernel
theorem dX7_take_26 : decode cX7_take 26 = .ok (.invokevirtual 94, 3) := by decide +kernel
theorem dX7_take_29 : decode cX7_take 29 = .ok (.aload_n 0, 1) := by decide +kernel
theorem dX7_take_30 : decode cX7_take 30 = .ok (.getfield 14, 3) := by decide +kernel
theorem dX7_take_33 : decode cX7_take 33 = .ok (.invokevirtual 80, 3) := by decide +kernel
theorem dX7_take_36 : decode cX7_take 36 = .ok (.ireturn, 1) := by decide +kernel
theorem dX7_alter_0 : decode cX7_alter 0 = .ok (.aload_n 0, 1) := by decide +kernel
theorem dX7_alter_1 : decode cX7_alter 1 = .ok (.getfield 14, 3) := by decide +kernel
theorem dX7_alter_4 : decode cX7_alter 4 = .ok (.iload_n 1, 1) := by decide +kernel
theorem dX7_alter_5 : decode cX7_alter 5 = .ok (.iload_n 2, 1) := by decide +kernel
theorem dX7_alter_6 : decode cX7_alter 6 = .ok (.invokevirtual 98, 3) := by decide +kernel
theorem dX7_alter_9 : decode cX7_alter 9 = .ok (.ireturn, 1) := by decide +kernel
theorem dX7_choose_0 : decode cX7_choose 0 = .ok (.iload_n 1, 1) := by decide +kernel
theorem dX7_choose_1 : decode cX7_choose 1 = .ok (.invokestatic 102, 3) := by decide +kernel
theorem dX7_choose_4 : decode cX7_choose 4 = .ok (.astore_n 2, 1) := by decide +kernel
theorem dX7_choose_5 : decode cX7_choose 5 = .ok (.aload_n 2, 1) := by decide +kernel
theorem dX7_choose_6 : decode cX7_choose 6 = .ok (.ifnonnull 5, 3) := by decide +kernel
theorem dX7_choose_9 : decode cX7_choose 9 = .ok (.iconst (-1), 1) := by decide +kernel
theorem dX7_choose_10 : decode cX7_choose 10 = .ok (.ireturn, 1) := by decide +kernel
theorem dX7_choose_11 : decode cX7_choose 11 = .ok (.aload_n 0, 1) := by decide +kernel
theorem dX7_choose_12 : decode cX7_choose 12 = .ok (.aload_n 2, 1) := by decide +kernel
theorem dX7_choose_13 : decode cX7_choose 13 = .ok (.putfield 73, 3) := by decide +kernel
theorem dX7_choose_16 : decode cX7_choose 16 = .ok (.aload_n 0, 1) := by decide +kernel
theorem dX7_choose_17 : decode cX7_choose 17 = .ok (.getfield 18, 3) := by decide +kernel
theorem dX7_choose_20 : decode cX7_choose 20 = .ok (.invokevirtual 106, 3) := by decide +kernel
theorem dX7_choose_23 : decode cX7_choose 23 = .ok (.aload_n 0, 1) := by decide +kernel
theorem dX7_choose_24 : decode cX7_choose 24 = .ok (.getfield 21, 3) := by decide +kernel
theorem dX7_choose_27 : decode cX7_choose 27 = .ok (.invokevirtual 106, 3) := by decide +kernel
theorem dX7_choose_30 : decode cX7_choose 30 = .ok (.aload_n 0, 1) := by decide +kernel
theorem dX7_choose_31 : decode cX7_choose 31 = .ok (.getfield 24, 3) := by decide +kernel
theorem dX7_choose_34 : decode cX7_choose 34 = .ok (.invokevirtual 106, 3) := by decide +kernel
theorem dX7_choose_37 : decode cX7_choose 37 = .ok (.aload_n 0, 1) := by decide +kernel
theorem dX7_choose_38 : decode cX7_choose 38 = .ok (.getfield 27, 3) := by decide +kernel
theorem dX7_choose_41 : decode cX7_choose 41 = .ok (.invokevirtual 106, 3) := by decide +kernel
theorem dX7_choose_44 : decode cX7_choose 44 = .ok (.aload_n 0, 1) := by decide +kernel
theorem dX7_choose_45 : decode cX7_choose 45 = .ok (.getfield 73, 3) := by decide +kernel
theorem dX7_choose_48 : decode cX7_choose 48 = .ok (.invokevirtual 109, 3) := by decide +kernel
theorem dX7_choose_51 : decode cX7_choose 51 = .ok (.ireturn, 1) := by decide +kernel
theorem dX7_bound_0 : decode cX7_bound 0 = .ok (.iload_n 1, 1) := by decide +kernel
theorem dX7_bound_1 : decode cX7_bound 1 = .ok (.iconst 1, 1) := by decide +kernel
theorem dX7_bound_2 : decode cX7_bound 2 = .ok (.if_icmp .lt 10, 3) := by decide +kernel
theorem dX7_bound_5 : decode cX7_bound 5 = .ok (.iload_n 1, 1) := by decide +kernel
theorem dX7_bound_6 : decode cX7_bound 6 = .ok (.sipush 280, 3) := by decide +kernel
theorem dX7_bound_9 : decode cX7_bound 9 = .ok (.if_icmp .le 5, 3) := by decide +kernel
theorem dX7_bound_12 : decode cX7_bound 12 = .ok (.iconst (-1), 1) := by decide +kernel
theorem dX7_bound_13 : decode cX7_bound 13 = .ok (.ireturn, 1) := by decide +kernel
theorem dX7_bound_14 : decode cX7_bound 14 = .ok (.aload_n 0, 1) := by decide +kernel
theorem dX7_bound_15 : decode cX7_bound 15 = .ok (.iload_n 1, 1) := by decide +kernel
theorem dX7_bound_16 : decode cX7_bound 16 = .ok (.putfield 76, 3) := by decide +kernel
theorem dX7_bound_19 : decode cX7_bound 19 = .ok (.iload_n 1, 1) := by decide +kernel
theorem dX7_bound_20 : decode cX7_bound 20 = .ok (.ireturn, 1) := by decide +kernel
theorem dX7_length_0 : decode cX7_length 0 = .ok (.aload_n 0, 1) := by decide +kernel
theorem dX7_length_1 : decode cX7_length 1 = .ok (.iload_n 1, 1) := by decide +kernel
theorem dX7_length_2 : decode cX7_length 2 = .ok (.invokevirtual 90, 3) := by decide +kernel
theorem dX7_length_5 : decode cX7_length 5 = .ok (.astore_n 2, 1) := by decide +kernel
theorem dX7_length_6 : decode cX7_length 6 = .ok (.aload_n 2, 1) := by decide +kernel
theorem dX7_length_7 : decode cX7_length 7 = .ok (.ifnonnull 7, 3) := by decide +kernel
theorem dX7_length_10 : decode cX7_length 10 = .ok (.iconst (-1), 1) := by decide +kernel
theorem dX7_length_11 : decode cX7_length 11 = .ok (.goto 7, 3) := by decide +kernel
theorem dX7_length_14 : decode cX7_length 14 = .ok (.aload_n 2, 1) := by decide +kernel
theorem dX7_length_15 : decode cX7_length 15 = .ok (.invokevirtual 80, 3) := by decide +kernel
theorem dX7_length_18 : decode cX7_length 18 = .ok (.ireturn, 1) := by decide +kernel
theorem dX7_at_0 : decode cX7_at 0 = .ok (.aload_n 0, 1) := by decide +kernel
theorem dX7_at_1 : decode cX7_at 1 = .ok (.iload_n 1, 1) := by decide +kernel
theorem dX7_at_2 : decode cX7_at 2 = .ok (.invokevirtual 90, 3) := by decide +kernel
theorem dX7_at_5 : decode cX7_at 5 = .ok (.astore_n 3, 1) := by decide +kernel
theorem dX7_at_6 : decode cX7_at 6 = .ok (.aload_n 3, 1) := by decide +kernel
theorem dX7_at_7 : decode cX7_at 7 = .ok (.ifnonnull 7, 3) := by decide +kernel
theorem dX7_at_10 : decode cX7_at 10 = .ok (.iconst (-1), 1) := by decide +kernel
theorem dX7_at_11 : decode cX7_at 11 = .ok (.goto 8, 3) := by decide +kernel
theorem dX7_at_14 : decode cX7_at 14 = .ok (.aload_n 3, 1) := by decide +kernel
theorem dX7_at_15 : decode cX7_at 15 = .ok (.iload_n 2, 1) := by decide +kernel
theorem dX7_at_16 : decode cX7_at 16 = .ok (.invokevirtual 112, 3) := by decide +kernel
theorem dX7_at_19 : decode cX7_at 19 = .ok (.ireturn, 1) := by decide +kernel
theorem dX7_make_0 : decode cX7_make 0 = .ok (.aload_n 0, 1) := by decide +kernel
theorem dX7_make_1 : decode cX7_make 1 = .ok (.getfield 14, 3) := by decide +kernel
theorem dX7_make_4 : decode cX7_make 4 = .ok (.invokevirtual 80, 3) := by decide +kernel
theorem dX7_make_7 : decode cX7_make 7 = .ok (.bipush 64, 2) := by decide +kernel
theorem dX7_make_9 : decode cX7_make 9 = .ok (.if_icmp .ne 7, 3) := by decide +kernel
theorem dX7_make_12 : decode cX7_make 12 = .ok (.iconst 1, 1) := by decide +kernel
theorem dX7_make_13 : decode cX7_make 13 = .ok (.goto 4, 3) := by decide +kernel
theorem dX7_make_16 : decode cX7_make 16 = .ok (.iconst 0, 1) := by decide +kernel
theorem dX7_make_17 : decode cX7_make 17 = .ok (.istore_n 1, 1) := by decide +kernel
theorem dX7_make_18 : decode cX7_make 18 = .ok (.iload_n 1, 1) := by decide +kernel
theorem dX7_make_19 : decode cX7_make 19 = .ok (.ifCond .eq 29, 3) := by decide +kernel
theorem dX7_make_22 : decode cX7_make 22 = .ok (.aload_n 0, 1) := by decide +kernel
theorem dX7_make_23 : decode cX7_make 23 = .ok (.getfield 59, 3) := by decide +kernel
theorem dX7_make_26 : decode cX7_make 26 = .ok (.aload_n 0, 1) := by decide +kernel
theorem dX7_make_27 : decode cX7_make 27 = .ok (.getfield 73, 3) := by decide +kernel
theorem dX7_make_30 : decode cX7_make 30 = .ok (.aload_n 0, 1) := by decide +kernel
theorem dX7_make_31 : decode cX7_make 31 = .ok (.getfield 14, 3) := by decide +kernel
theorem dX7_make_34 : decode cX7_make 34 = .ok (.aload_n 0, 1) := by decide +kernel
theorem dX7_make_35 : decode cX7_make 35 = .ok (.getfield 76, 3) := by decide +kernel
theorem dX7_make_38 : decode cX7_make 38 = .ok (.invokevirtual 116, 3) := by decide +kernel
theorem dX7_make_41 : decode cX7_make 41 = .ok (.ifCond .eq 7, 3) := by decide +kernel
theorem dX7_make_44 : decode cX7_make 44 = .ok (.iconst 1, 1) := by decide +kernel
theorem dX7_make_45 : decode cX7_make 45 = .ok (.goto 4, 3) := by decide +kernel
theorem dX7_make_48 : decode cX7_make 48 = .ok (.iconst 0, 1) := by decide +kernel
theorem dX7_make_49 : decode cX7_make 49 = .ok (.istore_n 2, 1) := by decide +kernel
theorem dX7_make_50 : decode cX7_make 50 = .ok (.aload_n 0, 1) := by decide +kernel
theorem dX7_make_51 : decode cX7_make 51 = .ok (.getfield 14, 3) := by decide +kernel
theorem dX7_make_54 : decode cX7_make 54 = .ok (.invokevirtual 106, 3) := by decide +kernel
theorem dX7_make_57 : decode cX7_make 57 = .ok (.iload_n 1, 1) := by decide +kernel
theorem dX7_make_58 : decode cX7_make 58 = .ok (.ifCond .ne 5, 3) := by decide +kernel
theorem dX7_make_61 : decode cX7_make 61 = .ok (.iconst (-1), 1) := by decide +kernel
theorem dX7_make_62 : decode cX7_make 62 = .ok (.ireturn, 1) := by decide +kernel
theorem dX7_make_63 : decode cX7_make 63 = .ok (.iload_n 2, 1) := by decide +kernel
theorem dX7_make_64 : decode cX7_make 64 = .ok (.ifCond .ne 6, 3) := by decide +kernel
theorem dX7_make_67 : decode cX7_make 67 = .ok (.bipush (-2), 2) := by decide +kernel
theorem dX7_make_69 : decode cX7_make 69 = .ok (.ireturn, 1) := by decide +kernel
theorem dX7_make_70 : decode cX7_make 70 = .ok (.aload_n 0, 1) := by decide +kernel
theorem dX7_make_71 : decode cX7_make 71 = .ok (.getfield 21, 3) := by decide +kernel
theorem dX7_make_74 : decode cX7_make 74 = .ok (.aload_n 0, 1) := by decide +kernel
theorem dX7_make_75 : decode cX7_make 75 = .ok (.getfield 59, 3) := by decide +kernel
theorem dX7_make_78 : decode cX7_make 78 = .ok (.invokevirtual 120, 3) := by decide +kernel
theorem dX7_make_81 : decode cX7_make 81 = .ok (.invokevirtual 94, 3) := by decide +kernel
theorem dX7_make_84 : decode cX7_make 84 = .ok (.aload_n 0, 1) := by decide +kernel
theorem dX7_make_85 : decode cX7_make 85 = .ok (.getfield 18, 3) := by decide +kernel
theorem dX7_make_88 : decode cX7_make 88 = .ok (.invokevirtual 106, 3) := by decide +kernel
theorem dX7_make_91 : decode cX7_make 91 = .ok (.aload_n 0, 1) := by decide +kernel
theorem dX7_make_92 : decode cX7_make 92 = .ok (.getfield 18, 3) := by decide +kernel
theorem dX7_make_95 : decode cX7_make 95 = .ok (.aload_n 0, 1) := by decide +kernel
theorem dX7_make_96 : decode cX7_make 96 = .ok (.getfield 21, 3) := by decide +kernel
theorem dX7_make_99 : decode cX7_make 99 = .ok (.aload_n 0, 1) := by decide +kernel
theorem dX7_make_100 : decode cX7_make 100 = .ok (.getfield 73, 3) := by decide +kernel
theorem dX7_make_103 : decode cX7_make 103 = .ok (.invokevirtual 123, 3) := by decide +kernel
theorem dX7_make_106 : decode cX7_make 106 = .ok (.aload_n 0, 1) := by decide +kernel
theorem dX7_make_107 : decode cX7_make 107 = .ok (.getfield 73, 3) := by decide +kernel
theorem dX7_make_110 : decode cX7_make 110 = .ok (.invokevirtual 109, 3) := by decide +kernel
theorem dX7_make_113 : decode cX7_make 113 = .ok (.invokevirtual 126, 3) := by decide +kernel
theorem dX7_make_116 : decode cX7_make 116 = .ok (.aload_n 0, 1) := by decide +kernel
theorem dX7_make_117 : decode cX7_make 117 = .ok (.getfield 24, 3) := by decide +kernel
theorem dX7_make_120 : decode cX7_make 120 = .ok (.invokevirtual 106, 3) := by decide +kernel
theorem dX7_make_123 : decode cX7_make 123 = .ok (.aload_n 0, 1) := by decide +kernel
theorem dX7_make_124 : decode cX7_make 124 = .ok (.getfield 27, 3) := by decide +kernel
theorem dX7_make_127 : decode cX7_make 127 = .ok (.invokevirtual 106, 3) := by decide +kernel
theorem dX7_make_130 : decode cX7_make 130 = .ok (.aload_n 0, 1) := by decide +kernel
theorem dX7_make_131 : decode cX7_make 131 = .ok (.getfield 18, 3) := by decide +kernel
theorem dX7_make_134 : decode cX7_make 134 = .ok (.invokevirtual 80, 3) := by decide +kernel
theorem dX7_make_137 : decode cX7_make 137 = .ok (.ireturn, 1) := by decide +kernel
theorem dX7_load_0 : decode cX7_load 0 = .ok (.iload_n 1, 1) := by decide +kernel
theorem dX7_load_1 : decode cX7_load 1 = .ok (.ifCond .eq 15, 3) := by decide +kernel
theorem dX7_load_4 : decode cX7_load 4 = .ok (.iload_n 1, 1) := by decide +kernel
theorem dX7_load_5 : decode cX7_load 5 = .ok (.iconst 1, 1) := by decide +kernel
theorem dX7_load_6 : decode cX7_load 6 = .ok (.if_icmp .eq 10, 3) := by decide +kernel
theorem dX7_load_9 : decode cX7_load 9 = .ok (.iload_n 1, 1) := by decide +kernel
theorem dX7_load_10 : decode cX7_load 10 = .ok (.iconst 2, 1) := by decide +kernel
theorem dX7_load_11 : decode cX7_load 11 = .ok (.if_icmp .eq 5, 3) := by decide +kernel
theorem dX7_load_14 : decode cX7_load 14 = .ok (.iconst (-1), 1) := by decide +kernel
theorem dX7_load_15 : decode cX7_load 15 = .ok (.ireturn, 1) := by decide +kernel
theorem dX7_load_16 : decode cX7_load 16 = .ok (.aload_n 0, 1) := by decide +kernel
theorem dX7_load_17 : decode cX7_load 17 = .ok (.iload_n 1, 1) := by decide +kernel
theorem dX7_load_18 : decode cX7_load 18 = .ok (.invokevirtual 130, 3) := by decide +kernel
theorem dX7_load_21 : decode cX7_load 21 = .ok (.istore_n 2, 1) := by decide +kernel
theorem dX7_load_22 : decode cX7_load 22 = .ok (.aload_n 0, 1) := by decide +kernel
theorem dX7_load_23 : decode cX7_load 23 = .ok (.iload_n 1, 1) := by decide +kernel
theorem dX7_load_24 : decode cX7_load 24 = .ok (.invokevirtual 90, 3) := by decide +kernel
theorem dX7_load_27 : decode cX7_load 27 = .ok (.astore_n 3, 1) := by decide +kernel
theorem dX7_load_28 : decode cX7_load 28 = .ok (.iload_n 2, 1) := by decide +kernel
theorem dX7_load_29 : decode cX7_load 29 = .ok (.ifCond .lt 15, 3) := by decide +kernel
theorem dX7_load_32 : decode cX7_load 32 = .ok (.aload_n 3, 1) := by decide +kernel
theorem dX7_load_33 : decode cX7_load 33 = .ok (.ifnull 11, 3) := by decide +kernel
theorem dX7_load_36 : decode cX7_load 36 = .ok (.aload_n 3, 1) := by decide +kernel
theorem dX7_load_37 : decode cX7_load 37 = .ok (.aload_n 0, 1) := by decide +kernel
theorem dX7_load_38 : decode cX7_load 38 = .ok (.getfield 14, 3) := by decide +kernel
theorem dX7_load_41 : decode cX7_load 41 = .ok (.invokevirtual 94, 3) := by decide +kernel
theorem dX7_load_44 : decode cX7_load 44 = .ok (.aload_n 0, 1) := by decide +kernel
theorem dX7_load_45 : decode cX7_load 45 = .ok (.getfield 14, 3) := by decide +kernel
theorem dX7_load_48 : decode cX7_load 48 = .ok (.invokevirtual 106, 3) := by decide +kernel
theorem dX7_load_51 : decode cX7_load 51 = .ok (.iload_n 2, 1) := by decide +kernel
theorem dX7_load_52 : decode cX7_load 52 = .ok (.ireturn, 1) := by decide +kernel
theorem dX7_wrap_0 : decode cX7_wrap 0 = .ok (.aload_n 0, 1) := by decide +kernel
theorem dX7_wrap_1 : decode cX7_wrap 1 = .ok (.getfield 14, 3) := by decide +kernel
theorem dX7_wrap_4 : decode cX7_wrap 4 = .ok (.invokevirtual 80, 3) := by decide +kernel
theorem dX7_wrap_7 : decode cX7_wrap 7 = .ok (.bipush 32, 2) := by decide +kernel
theorem dX7_wrap_9 : decode cX7_wrap 9 = .ok (.if_icmp .ne 17, 3) := by decide +kernel
theorem dX7_wrap_12 : decode cX7_wrap 12 = .ok (.aload_n 0, 1) := by decide +kernel
theorem dX7_wrap_13 : decode cX7_wrap 13 = .ok (.getfield 18, 3) := by decide +kernel
theorem dX7_wrap_16 : decode cX7_wrap 16 = .ok (.invokevirtual 80, 3) := by decide +kernel
theorem dX7_wrap_19 : decode cX7_wrap 19 = .ok (.ifCond .le 7, 3) := by decide +kernel
theorem dX7_wrap_22 : decode cX7_wrap 22 = .ok (.iconst 1, 1) := by decide +kernel
theorem dX7_wrap_23 : decode cX7_wrap 23 = .ok (.goto 4, 3) := by decide +kernel
theorem dX7_wrap_26 : decode cX7_wrap 26 = .ok (.iconst 0, 1) := by decide +kernel
theorem dX7_wrap_27 : decode cX7_wrap 27 = .ok (.istore_n 1, 1) := by decide +kernel
theorem dX7_wrap_28 : decode cX7_wrap 28 = .ok (.iconst 0, 1) := by decide +kernel
theorem dX7_wrap_29 : decode cX7_wrap 29 = .ok (.istore_n 2, 1) := by decide +kernel
theorem dX7_wrap_30 : decode cX7_wrap 30 = .ok (.iload_n 1, 1) := by decide +kernel
theorem dX7_wrap_31 : decode cX7_wrap 31 = .ok (.ifCond .eq 43, 3) := by decide +kernel
theorem dX7_wrap_34 : decode cX7_wrap 34 = .ok (.aload_n 0, 1) := by decide +kernel
theorem dX7_wrap_35 : decode cX7_wrap 35 = .ok (.getfield 59, 3) := by decide +kernel
theorem dX7_wrap_38 : decode cX7_wrap 38 = .ok (.aload_n 0, 1) := by decide +kernel
theorem dX7_wrap_39 : decode cX7_wrap 39 = .ok (.getfield 73, 3) := by decide +kernel
theorem dX7_wrap_42 : decode cX7_wrap 42 = .ok (.aload_n 0, 1) := by decide +kernel
theorem dX7_wrap_43 : decode cX7_wrap 43 = .ok (.getfield 18, 3) := by decide +kernel
theorem dX7_wrap_46 : decode cX7_wrap 46 = .ok (.aload_n 0, 1) := by decide +kernel
theorem dX7_wrap_47 : decode cX7_wrap 47 = .ok (.getfield 14, 3) := by decide +kernel
theorem dX7_wrap_50 : decode cX7_wrap 50 = .ok (.invokevirtual 133, 3) := by decide +kernel
theorem dX7_wrap_53 : decode cX7_wrap 53 = .ok (.aload_n 0, 1) := by decide +kernel
theorem dX7_wrap_54 : decode cX7_wrap 54 = .ok (.getfield 59, 3) := by decide +kernel
theorem dX7_wrap_57 : decode cX7_wrap 57 = .ok (.aload_n 0, 1) := by decide +kernel
theorem dX7_wrap_58 : decode cX7_wrap 58 = .ok (.getfield 73, 3) := by decide +kernel
theorem dX7_wrap_61 : decode cX7_wrap 61 = .ok (.aload_n 0, 1) := by decide +kernel
theorem dX7_wrap_62 : decode cX7_wrap 62 = .ok (.getfield 18, 3) := by decide +kernel
theorem dX7_wrap_65 : decode cX7_wrap 65 = .ok (.iconst 0, 1) := by decide +kernel
theorem dX7_wrap_66 : decode cX7_wrap 66 = .ok (.aload_n 0, 1) := by decide +kernel
theorem dX7_wrap_67 : decode cX7_wrap 67 = .ok (.getfield 76, 3) := by decide +kernel
theorem dX7_wrap_70 : decode cX7_wrap 70 = .ok (.invokevirtual 137, 3) := by decide +kernel
theorem dX7_wrap_73 : decode cX7_wrap 73 = .ok (.istore_n 2, 1) := by decide +kernel
theorem dX7_wrap_74 : decode cX7_wrap 74 = .ok (.aload_n 0, 1) := by decide +kernel
theorem dX7_wrap_75 : decode cX7_wrap 75 = .ok (.getfield 14, 3) := by decide +kernel
theorem dX7_wrap_78 : decode cX7_wrap 78 = .ok (.invokevirtual 106, 3) := by decide +kernel
theorem dX7_wrap_81 : decode cX7_wrap 81 = .ok (.iload_n 1, 1) := by decide +kernel
theorem dX7_wrap_82 : decode cX7_wrap 82 = .ok (.ifCond .ne 5, 3) := by decide +kernel
theorem dX7_wrap_85 : decode cX7_wrap 85 = .ok (.iconst (-1), 1) := by decide +kernel
theorem dX7_wrap_86 : decode cX7_wrap 86 = .ok (.ireturn, 1) := by decide +kernel
theorem dX7_wrap_87 : decode cX7_wrap 87 = .ok (.iload_n 2, 1) := by decide +kernel
theorem dX7_wrap_88 : decode cX7_wrap 88 = .ok (.ifCond .ne 6, 3) := by decide +kernel
theorem dX7_wrap_91 : decode cX7_wrap 91 = .ok (.bipush (-2), 2) := by decide +kernel
theorem dX7_wrap_93 : decode cX7_wrap 93 = .ok (.ireturn, 1) := by decide +kernel
theorem dX7_wrap_94 : decode cX7_wrap 94 = .ok (.aload_n 0, 1) := by decide +kernel
theorem dX7_wrap_95 : decode cX7_wrap 95 = .ok (.getfield 24, 3) := by decide +kernel
theorem dX7_wrap_98 : decode cX7_wrap 98 = .ok (.aload_n 0, 1) := by decide +kernel
theorem dX7_wrap_99 : decode cX7_wrap 99 = .ok (.getfield 59, 3) := by decide +kernel
theorem dX7_wrap_102 : decode cX7_wrap 102 = .ok (.invokevirtual 120, 3) := by decide +kernel
theorem dX7_wrap_105 : decode cX7_wrap 105 = .ok (.invokevirtual 94, 3) := by decide +kernel
theorem dX7_wrap_108 : decode cX7_wrap 108 = .ok (.aload_n 0, 1) := by decide +kernel
theorem dX7_wrap_109 : decode cX7_wrap 109 = .ok (.getfield 27, 3) := by decide +kernel
theorem dX7_wrap_112 : decode cX7_wrap 112 = .ok (.invokevirtual 106, 3) := by decide +kernel
theorem dX7_wrap_115 : decode cX7_wrap 115 = .ok (.aload_n 0, 1) := by decide +kernel
theorem dX7_wrap_116 : decode cX7_wrap 116 = .ok (.getfield 27, 3) := by decide +kernel
theorem dX7_wrap_119 : decode cX7_wrap 119 = .ok (.aload_n 0, 1) := by decide +kernel
theorem dX7_wrap_120 : decode cX7_wrap 120 = .ok (.getfield 59, 3) := by decide +kernel
theorem dX7_wrap_123 : decode cX7_wrap 123 = .ok (.invokevirtual 141, 3) := by decide +kernel
theorem dX7_wrap_126 : decode cX7_wrap 126 = .ok (.iconst 0, 1) := by decide +kernel
theorem dX7_wrap_127 : decode cX7_wrap 127 = .ok (.bipush 32, 2) := by decide +kernel
theorem dX7_wrap_129 : decode cX7_wrap 129 = .ok (.invokevirtual 126, 3) := by decide +kernel
theorem dX7_wrap_132 : decode cX7_wrap 132 = .ok (.aload_n 0, 1) := by decide +kernel
theorem dX7_wrap_133 : decode cX7_wrap 133 = .ok (.getfield 24, 3) := by decide +kernel
theorem dX7_wrap_136 : decode cX7_wrap 136 = .ok (.invokevirtual 80, 3) := by decide +kernel
theorem dX7_wrap_139 : decode cX7_wrap 139 = .ok (.ireturn, 1) := by decide +kernel
theorem dX7_unwrap_0 : decode cX7_unwrap 0 = .ok (.aload_n 0, 1) := by decide +kernel
theorem dX7_unwrap_1 : decode cX7_unwrap 1 = .ok (.getfield 21, 3) := by decide +kernel
theorem dX7_unwrap_4 : decode cX7_unwrap 4 = .ok (.invokevirtual 80, 3) := by decide +kernel
theorem dX7_unwrap_7 : decode cX7_unwrap 7 = .ok (.ifCond .eq 13, 3) := by decide +kernel
theorem dX7_unwrap_10 : decode cX7_unwrap 10 = .ok (.aload_n 0, 1) := by decide +kernel
theorem dX7_unwrap_11 : decode cX7_unwrap 11 = .ok (.getfield 24, 3) := by decide +kernel
theorem dX7_unwrap_14 : decode cX7_unwrap 14 = .ok (.invokevirtual 80, 3) := by decide +kernel
theorem dX7_unwrap_17 : decode cX7_unwrap 17 = .ok (.ifCond .ne 5, 3) := by decide +kernel
theorem dX7_unwrap_20 : decode cX7_unwrap 20 = .ok (.iconst (-1), 1) := by decide +kernel
theorem dX7_unwrap_21 : decode cX7_unwrap 21 = .ok (.ireturn, 1) := by decide +kernel
theorem dX7_unwrap_22 : decode cX7_unwrap 22 = .ok (.aload_n 0, 1) := by decide +kernel
theorem dX7_unwrap_23 : decode cX7_unwrap 23 = .ok (.getfield 59, 3) := by decide +kernel
theorem dX7_unwrap_26 : decode cX7_unwrap 26 = .ok (.aload_n 0, 1) := by decide +kernel
theorem dX7_unwrap_27 : decode cX7_unwrap 27 = .ok (.getfield 73, 3) := by decide +kernel
theorem dX7_unwrap_30 : decode cX7_unwrap 30 = .ok (.aload_n 0, 1) := by decide +kernel
theorem dX7_unwrap_31 : decode cX7_unwrap 31 = .ok (.getfield 21, 3) := by decide +kernel
theorem dX7_unwrap_34 : decode cX7_unwrap 34 = .ok (.aload_n 0, 1) := by decide +kernel
theorem dX7_unwrap_35 : decode cX7_unwrap 35 = .ok (.getfield 24, 3) := by decide +kernel
theorem dX7_unwrap_38 : decode cX7_unwrap 38 = .ok (.invokevirtual 144, 3) := by decide +kernel
theorem dX7_unwrap_41 : decode cX7_unwrap 41 = .ok (.aload_n 0, 1) := by decide +kernel
theorem dX7_unwrap_42 : decode cX7_unwrap 42 = .ok (.getfield 59, 3) := by decide +kernel
theorem dX7_unwrap_45 : decode cX7_unwrap 45 = .ok (.aload_n 0, 1) := by decide +kernel
theorem dX7_unwrap_46 : decode cX7_unwrap 46 = .ok (.getfield 73, 3) := by decide +kernel
theorem dX7_unwrap_49 : decode cX7_unwrap 49 = .ok (.aload_n 0, 1) := by decide +kernel
theorem dX7_unwrap_50 : decode cX7_unwrap 50 = .ok (.getfield 21, 3) := by decide +kernel
theorem dX7_unwrap_53 : decode cX7_unwrap 53 = .ok (.aload_n 0, 1) := by decide +kernel
theorem dX7_unwrap_54 : decode cX7_unwrap 54 = .ok (.getfield 73, 3) := by decide +kernel
theorem dX7_unwrap_57 : decode cX7_unwrap 57 = .ok (.invokevirtual 123, 3) := by decide +kernel
theorem dX7_unwrap_60 : decode cX7_unwrap 60 = .ok (.aload_n 0, 1) := by decide +kernel
theorem dX7_unwrap_61 : decode cX7_unwrap 61 = .ok (.getfield 76, 3) := by decide +kernel
theorem dX7_unwrap_64 : decode cX7_unwrap 64 = .ok (.invokevirtual 137, 3) := by decide +kernel
theorem dX7_unwrap_67 : decode cX7_unwrap 67 = .ok (.ifCond .ne 6, 3) := by decide +kernel
theorem dX7_unwrap_70 : decode cX7_unwrap 70 = .ok (.bipush (-2), 2) := by decide +kernel
theorem dX7_unwrap_72 : decode cX7_unwrap 72 = .ok (.ireturn, 1) := by decide +kernel
theorem dX7_unwrap_73 : decode cX7_unwrap 73 = .ok (.aload_n 0, 1) := by decide +kernel
theorem dX7_unwrap_74 : decode cX7_unwrap 74 = .ok (.getfield 27, 3) := by decide +kernel
theorem dX7_unwrap_77 : decode cX7_unwrap 77 = .ok (.invokevirtual 106, 3) := by decide +kernel
theorem dX7_unwrap_80 : decode cX7_unwrap 80 = .ok (.aload_n 0, 1) := by decide +kernel
theorem dX7_unwrap_81 : decode cX7_unwrap 81 = .ok (.getfield 59, 3) := by decide +kernel
theorem dX7_unwrap_84 : decode cX7_unwrap 84 = .ok (.invokevirtual 120, 3) := by decide +kernel
theorem dX7_unwrap_87 : decode cX7_unwrap 87 = .ok (.aload_n 0, 1) := by decide +kernel
theorem dX7_unwrap_88 : decode cX7_unwrap 88 = .ok (.getfield 24, 3) := by decide +kernel
theorem dX7_unwrap_91 : decode cX7_unwrap 91 = .ok (.invokevirtual 147, 3) := by decide +kernel
theorem dX7_unwrap_94 : decode cX7_unwrap 94 = .ok (.ifCond .eq 22, 3) := by decide +kernel
theorem dX7_unwrap_97 : decode cX7_unwrap 97 = .ok (.aload_n 0, 1) := by decide +kernel
theorem dX7_unwrap_98 : decode cX7_unwrap 98 = .ok (.getfield 27, 3) := by decide +kernel
theorem dX7_unwrap_101 : decode cX7_unwrap 101 = .ok (.aload_n 0, 1) := by decide +kernel
theorem dX7_unwrap_102 : decode cX7_unwrap 102 = .ok (.getfield 59, 3) := by decide +kernel
theorem dX7_unwrap_105 : decode cX7_unwrap 105 = .ok (.invokevirtual 141, 3) := by decide +kernel
theorem dX7_unwrap_108 : decode cX7_unwrap 108 = .ok (.iconst 0, 1) := by decide +kernel
theorem dX7_unwrap_109 : decode cX7_unwrap 109 = .ok (.bipush 32, 2) := by decide +kernel
theorem dX7_unwrap_111 : decode cX7_unwrap 111 = .ok (.invokevirtual 126, 3) := by decide +kernel
theorem dX7_unwrap_114 : decode cX7_unwrap 114 = .ok (.iconst 1, 1) := by decide +kernel
theorem dX7_unwrap_115 : decode cX7_unwrap 115 = .ok (.ireturn, 1) := by decide +kernel
theorem dX7_unwrap_116 : decode cX7_unwrap 116 = .ok (.aload_n 0, 1) := by decide +kernel
theorem dX7_unwrap_117 : decode cX7_unwrap 117 = .ok (.getfield 59, 3) := by decide +kernel
theorem dX7_unwrap_120 : decode cX7_unwrap 120 = .ok (.aload_n 0, 1) := by decide +kernel
theorem dX7_unwrap_121 : decode cX7_unwrap 121 = .ok (.getfield 73, 3) := by decide +kernel
theorem dX7_unwrap_124 : decode cX7_unwrap 124 = .ok (.aload_n 0, 1) := by decide +kernel
theorem dX7_unwrap_125 : decode cX7_unwrap 125 = .ok (.getfield 21, 3) := by decide +kernel
theorem dX7_unwrap_128 : decode cX7_unwrap 128 = .ok (.aload_n 0, 1) := by decide +kernel
theorem dX7_unwrap_129 : decode cX7_unwrap 129 = .ok (.getfield 24, 3) := by decide +kernel
theorem dX7_unwrap_132 : decode cX7_unwrap 132 = .ok (.aload_n 0, 1) := by decide +kernel
theorem dX7_unwrap_133 : decode cX7_unwrap 133 = .ok (.getfield 27, 3) := by decide +kernel
theorem dX7_unwrap_136 : decode cX7_unwrap 136 = .ok (.invokevirtual 151, 3) := by decide +kernel
theorem dX7_unwrap_139 : decode cX7_unwrap 139 = .ok (.iconst 0, 1) := by decide +kernel
theorem dX7_unwrap_140 : decode cX7_unwrap 140 = .ok (.ireturn, 1) := by decide +kernel
theorem dX7_hash_0 : decode cX7_hash 0 = .ok (.iload_n 1, 1) := by decide +kernel
theorem dX7_hash_1 : decode cX7_hash 1 = .ok (.iload_n 2, 1) := by decide +kernel
theorem dX7_hash_2 : decode cX7_hash 2 = .ok (.invokestatic 155, 3) := by decide +kernel
theorem dX7_hash_5 : decode cX7_hash 5 = .ok (.istore_n 3, 1) := by decide +kernel
theorem dX7_hash_6 : decode cX7_hash 6 = .ok (.iload_n 3, 1) := by decide +kernel
theorem dX7_hash_7 : decode cX7_hash 7 = .ok (.iconst (-1), 1) := by decide +kernel
theorem dX7_hash_8 : decode cX7_hash 8 = .ok (.if_icmp .ne 5, 3) := by decide +kernel
theorem dX7_hash_11 : decode cX7_hash 11 = .ok (.iconst (-1), 1) := by decide +kernel
theorem dX7_hash_12 : decode cX7_hash 12 = .ok (.ireturn, 1) := by decide +kernel
theorem dX7_hash_13 : decode cX7_hash 13 = .ok (.aload_n 0, 1) := by decide +kernel
theorem dX7_hash_14 : decode cX7_hash 14 = .ok (.getfield 41, 3) := by decide +kernel
theorem dX7_hash_17 : decode cX7_hash 17 = .ok (.iload_n 1, 1) := by decide +kernel
theorem dX7_hash_18 : decode cX7_hash 18 = .ok (.invokevirtual 159, 3) := by decide +kernel
theorem dX7_hash_21 : decode cX7_hash 21 = .ok (.aload_n 0, 1) := by decide +kernel
theorem dX7_hash_22 : decode cX7_hash 22 = .ok (.getfield 41, 3) := by decide +kernel
theorem dX7_hash_25 : decode cX7_hash 25 = .ok (.aload_n 0, 1) := by decide +kernel
theorem dX7_hash_26 : decode cX7_hash 26 = .ok (.getfield 14, 3) := by decide +kernel
theorem dX7_hash_29 : decode cX7_hash 29 = .ok (.iconst 0, 1) := by decide +kernel
theorem dX7_hash_30 : decode cX7_hash 30 = .ok (.aload_n 0, 1) := by decide +kernel
theorem dX7_hash_31 : decode cX7_hash 31 = .ok (.getfield 14, 3) := by decide +kernel
theorem dX7_hash_34 : decode cX7_hash 34 = .ok (.invokevirtual 80, 3) := by decide +kernel
theorem dX7_hash_37 : decode cX7_hash 37 = .ok (.invokevirtual 162, 3) := by decide +kernel
theorem dX7_hash_40 : decode cX7_hash 40 = .ok (.aload_n 0, 1) := by decide +kernel
theorem dX7_hash_41 : decode cX7_hash 41 = .ok (.getfield 41, 3) := by decide +kernel
theorem dX7_hash_44 : decode cX7_hash 44 = .ok (.invokevirtual 165, 3) := by decide +kernel
theorem dX7_hash_47 : decode cX7_hash 47 = .ok (.aload_n 0, 1) := by decide +kernel
theorem dX7_hash_48 : decode cX7_hash 48 = .ok (.getfield 30, 3) := by decide +kernel
theorem dX7_hash_51 : decode cX7_hash 51 = .ok (.invokevirtual 106, 3) := by decide +kernel
theorem dX7_hash_54 : decode cX7_hash 54 = .ok (.aload_n 0, 1) := by decide +kernel
theorem dX7_hash_55 : decode cX7_hash 55 = .ok (.getfield 41, 3) := by decide +kernel
theorem dX7_hash_58 : decode cX7_hash 58 = .ok (.aload_n 0, 1) := by decide +kernel
theorem dX7_hash_59 : decode cX7_hash 59 = .ok (.getfield 30, 3) := by decide +kernel
theorem dX7_hash_62 : decode cX7_hash 62 = .ok (.iload_n 3, 1) := by decide +kernel
theorem dX7_hash_63 : decode cX7_hash 63 = .ok (.invokevirtual 168, 3) := by decide +kernel
theorem dX7_hash_66 : decode cX7_hash 66 = .ok (.aload_n 0, 1) := by decide +kernel
theorem dX7_hash_67 : decode cX7_hash 67 = .ok (.getfield 14, 3) := by decide +kernel
theorem dX7_hash_70 : decode cX7_hash 70 = .ok (.invokevirtual 106, 3) := by decide +kernel
theorem dX7_hash_73 : decode cX7_hash 73 = .ok (.iload_n 3, 1) := by decide +kernel
theorem dX7_hash_74 : decode cX7_hash 74 = .ok (.ireturn, 1) := by decide +kernel
theorem dX7_put_0 : decode cX7_put 0 = .ok (.iload_n 1, 1) := by decide +kernel
theorem dX7_put_1 : decode cX7_put 1 = .ok (.invokestatic 172, 3) := by decide +kernel
theorem dX7_put_4 : decode cX7_put 4 = .ok (.ifCond .eq 14, 3) := by decide +kernel
theorem dX7_put_7 : decode cX7_put 7 = .ok (.iload_n 2, 1) := by decide +kernel
theorem dX7_put_8 : decode cX7_put 8 = .ok (.ifCond .lt 10, 3) := by decide +kernel
theorem dX7_put_11 : decode cX7_put 11 = .ok (.iload_n 2, 1) := by decide +kernel
theorem dX7_put_12 : decode cX7_put 12 = .ok (.sipush 256, 3) := by decide +kernel
theorem dX7_put_15 : decode cX7_put 15 = .ok (.if_icmp .lt 5, 3) := by decide +kernel
theorem dX7_put_18 : decode cX7_put 18 = .ok (.iconst (-1), 1) := by decide +kernel
theorem dX7_put_19 : decode cX7_put 19 = .ok (.ireturn, 1) := by decide +kernel
theorem dX7_put_20 : decode cX7_put 20 = .ok (.aload_n 0, 1) := by decide +kernel
theorem dX7_put_21 : decode cX7_put 21 = .ok (.getfield 35, 3) := by decide +kernel
theorem dX7_put_24 : decode cX7_put 24 = .ok (.iload_n 1, 1) := by decide +kernel
theorem dX7_put_25 : decode cX7_put 25 = .ok (.aaload, 1) := by decide +kernel
theorem dX7_put_26 : decode cX7_put 26 = .ok (.iload_n 2, 1) := by decide +kernel
theorem dX7_put_27 : decode cX7_put 27 = .ok (.iload_n 3, 1) := by decide +kernel
theorem dX7_put_28 : decode cX7_put 28 = .ok (.sipush 3329, 3) := by decide +kernel
theorem dX7_put_31 : decode cX7_put 31 = .ok (.invokestatic 176, 3) := by decide +kernel
theorem dX7_put_34 : decode cX7_put 34 = .ok (.iastore, 1) := by decide +kernel
theorem dX7_put_35 : decode cX7_put 35 = .ok (.aload_n 0, 1) := by decide +kernel
theorem dX7_put_36 : decode cX7_put 36 = .ok (.getfield 35, 3) := by decide +kernel
theorem dX7_put_39 : decode cX7_put 39 = .ok (.iload_n 1, 1) := by decide +kernel
theorem dX7_put_40 : decode cX7_put 40 = .ok (.aaload, 1) := by decide +kernel
theorem dX7_put_41 : decode cX7_put 41 = .ok (.iload_n 2, 1) := by decide +kernel
theorem dX7_put_42 : decode cX7_put 42 = .ok (.iaload, 1) := by decide +kernel
theorem dX7_put_43 : decode cX7_put 43 = .ok (.ireturn, 1) := by decide +kernel
theorem dX7_number_0 : decode cX7_number 0 = .ok (.iload_n 1, 1) := by decide +kernel
theorem dX7_number_1 : decode cX7_number 1 = .ok (.invokestatic 172, 3) := by decide +kernel
theorem dX7_number_4 : decode cX7_number 4 = .ok (.ifCond .eq 14, 3) := by decide +kernel
theorem dX7_number_7 : decode cX7_number 7 = .ok (.iload_n 2, 1) := by decide +kernel
theorem dX7_number_8 : decode cX7_number 8 = .ok (.ifCond .lt 10, 3) := by decide +kernel
theorem dX7_number_11 : decode cX7_number 11 = .ok (.iload_n 2, 1) := by decide +kernel
theorem dX7_number_12 : decode cX7_number 12 = .ok (.sipush 256, 3) := by decide +kernel
theorem dX7_number_15 : decode cX7_number 15 = .ok (.if_icmp .lt 5, 3) := by decide +kernel
theorem dX7_number_18 : decode cX7_number 18 = .ok (.iconst (-1), 1) := by decide +kernel
theorem dX7_number_19 : decode cX7_number 19 = .ok (.ireturn, 1) := by decide +kernel
theorem dX7_number_20 : decode cX7_number 20 = .ok (.aload_n 0, 1) := by decide +kernel
theorem dX7_number_21 : decode cX7_number 21 = .ok (.getfield 35, 3) := by decide +kernel
theorem dX7_number_24 : decode cX7_number 24 = .ok (.iload_n 1, 1) := by decide +kernel
theorem dX7_number_25 : decode cX7_number 25 = .ok (.aaload, 1) := by decide +kernel
theorem dX7_number_26 : decode cX7_number 26 = .ok (.iload_n 2, 1) := by decide +kernel
theorem dX7_number_27 : decode cX7_number 27 = .ok (.iaload, 1) := by decide +kernel
theorem dX7_number_28 : decode cX7_number 28 = .ok (.ireturn, 1) := by decide +kernel
theorem dX7_forward_0 : decode cX7_forward 0 = .ok (.iload_n 1, 1) := by decide +kernel
theorem dX7_forward_1 : decode cX7_forward 1 = .ok (.invokestatic 172, 3) := by decide +kernel
theorem dX7_forward_4 : decode cX7_forward 4 = .ok (.ifCond .ne 5, 3) := by decide +kernel
theorem dX7_forward_7 : decode cX7_forward 7 = .ok (.iconst 0, 1) := by decide +kernel
theorem dX7_forward_8 : decode cX7_forward 8 = .ok (.ireturn, 1) := by decide +kernel
theorem dX7_forward_9 : decode cX7_forward 9 = .ok (.aload_n 0, 1) := by decide +kernel
theorem dX7_forward_10 : decode cX7_forward 10 = .ok (.getfield 35, 3) := by decide +kernel
theorem dX7_forward_13 : decode cX7_forward 13 = .ok (.iload_n 1, 1) := by decide +kernel
theorem dX7_forward_14 : decode cX7_forward 14 = .ok (.aaload, 1) := by decide +kernel
theorem dX7_forward_15 : decode cX7_forward 15 = .ok (.invokestatic 181, 3) := by decide +kernel
theorem dX7_forward_18 : decode cX7_forward 18 = .ok (.iconst 1, 1) := by decide +kernel
theorem dX7_forward_19 : decode cX7_forward 19 = .ok (.ireturn, 1) := by decide +kernel
theorem dX7_back_0 : decode cX7_back 0 = .ok (.iload_n 1, 1) := by decide +kernel
theorem dX7_back_1 : decode cX7_back 1 = .ok (.invokestatic 172, 3) := by decide +kernel
theorem dX7_back_4 : decode cX7_back 4 = .ok (.ifCond .ne 5, 3) := by decide +kernel
theorem dX7_back_7 : decode cX7_back 7 = .ok (.iconst 0, 1) := by decide +kernel
theorem dX7_back_8 : decode cX7_back 8 = .ok (.ireturn, 1) := by decide +kernel
theorem dX7_back_9 : decode cX7_back 9 = .ok (.aload_n 0, 1) := by decide +kernel
theorem dX7_back_10 : decode cX7_back 10 = .ok (.getfield 35, 3) := by decide +kernel
theorem dX7_back_13 : decode cX7_back 13 = .ok (.iload_n 1, 1) := by decide +kernel
theorem dX7_back_14 : decode cX7_back 14 = .ok (.aaload, 1) := by decide +kernel
theorem dX7_back_15 : decode cX7_back 15 = .ok (.invokestatic 187, 3) := by decide +kernel
theorem dX7_back_18 : decode cX7_back 18 = .ok (.iconst 1, 1) := by decide +kernel
theorem dX7_back_19 : decode cX7_back 19 = .ok (.ireturn, 1) := by decide +kernel
theorem dX7_pairs_0 : decode cX7_pairs 0 = .ok (.iload_n 1, 1) := by decide +kernel
theorem dX7_pairs_1 : decode cX7_pairs 1 = .ok (.invokestatic 172, 3) := by decide +kernel
theorem dX7_pairs_4 : decode cX7_pairs 4 = .ok (.ifCond .eq 17, 3) := by decide +kernel
theorem dX7_pairs_7 : decode cX7_pairs 7 = .ok (.iload_n 2, 1) := by decide +kernel
theorem dX7_pairs_8 : decode cX7_pairs 8 = .ok (.invokestatic 172, 3) := by decide +kernel
theorem dX7_pairs_11 : decode cX7_pairs 11 = .ok (.ifCond .eq 10, 3) := by decide +kernel
theorem dX7_pairs_14 : decode cX7_pairs 14 = .ok (.iload_n 3, 1) := by decide +kernel
theorem dX7_pairs_15 : decode cX7_pairs 15 = .ok (.invokestatic 172, 3) := by decide +kernel
theorem dX7_pairs_18 : decode cX7_pairs 18 = .ok (.ifCond .ne 5, 3) := by decide +kernel
theorem dX7_pairs_21 : decode cX7_pairs 21 = .ok (.iconst 0, 1) := by decide +kernel
theorem dX7_pairs_22 : decode cX7_pairs 22 = .ok (.ireturn, 1) := by decide +kernel
theorem dX7_pairs_23 : decode cX7_pairs 23 = .ok (.aload_n 0, 1) := by decide +kernel
theorem dX7_pairs_24 : decode cX7_pairs 24 = .ok (.getfield 35, 3) := by decide +kernel
theorem dX7_pairs_27 : decode cX7_pairs 27 = .ok (.iload_n 1, 1) := by decide +kernel
theorem dX7_pairs_28 : decode cX7_pairs 28 = .ok (.aaload, 1) := by decide +kernel
theorem dX7_pairs_29 : decode cX7_pairs 29 = .ok (.aload_n 0, 1) := by decide +kernel
theorem dX7_pairs_30 : decode cX7_pairs 30 = .ok (.getfield 35, 3) := by decide +kernel
theorem dX7_pairs_33 : decode cX7_pairs 33 = .ok (.iload_n 2, 1) := by decide +kernel
theorem dX7_pairs_34 : decode cX7_pairs 34 = .ok (.aaload, 1) := by decide +kernel
theorem dX7_pairs_35 : decode cX7_pairs 35 = .ok (.aload_n 0, 1) := by decide +kernel
theorem dX7_pairs_36 : decode cX7_pairs 36 = .ok (.getfield 35, 3) := by decide +kernel
theorem dX7_pairs_39 : decode cX7_pairs 39 = .ok (.iload_n 3, 1) := by decide +kernel
theorem dX7_pairs_40 : decode cX7_pairs 40 = .ok (.aaload, 1) := by decide +kernel
theorem dX7_pairs_41 : decode cX7_pairs 41 = .ok (.invokestatic 190, 3) := by decide +kernel
theorem dX7_pairs_44 : decode cX7_pairs 44 = .ok (.iconst 1, 1) := by decide +kernel
theorem dX7_pairs_45 : decode cX7_pairs 45 = .ok (.ireturn, 1) := by decide +kernel
theorem dX7_add_0 : decode cX7_add 0 = .ok (.iload_n 1, 1) := by decide +kernel
theorem dX7_add_1 : decode cX7_add 1 = .ok (.invokestatic 172, 3) := by decide +kernel
theorem dX7_add_4 : decode cX7_add 4 = .ok (.ifCond .eq 20, 3) := by decide +kernel
theorem dX7_add_7 : decode cX7_add 7 = .ok (.iload_n 2, 1) := by decide +kernel
theorem dX7_add_8 : decode cX7_add 8 = .ok (.invokestatic 172, 3) := by decide +kernel
theorem dX7_add_11 : decode cX7_add 11 = .ok (.ifCond .eq 13, 3) := by decide +kernel
theorem dX7_add_14 : decode cX7_add 14 = .ok (.iload_n 3, 1) := by decide +kernel
theorem dX7_add_15 : decode cX7_add 15 = .ok (.iconst 1, 1) := by decide +kernel
theorem dX7_add_16 : decode cX7_add 16 = .ok (.if_icmp .eq 10, 3) := by decide +kernel
theorem dX7_add_19 : decode cX7_add 19 = .ok (.iload_n 3, 1) := by decide +kernel
theorem dX7_add_20 : decode cX7_add 20 = .ok (.iconst (-1), 1) := by decide +kernel
theorem dX7_add_21 : decode cX7_add 21 = .ok (.if_icmp .eq 5, 3) := by decide +kernel
theorem dX7_add_24 : decode cX7_add 24 = .ok (.iconst 0, 1) := by decide +kernel
theorem dX7_add_25 : decode cX7_add 25 = .ok (.ireturn, 1) := by decide +kernel
theorem dX7_add_26 : decode cX7_add 26 = .ok (.aload_n 0, 1) := by decide +kernel
theorem dX7_add_27 : decode cX7_add 27 = .ok (.getfield 35, 3) := by decide +kernel
theorem dX7_add_30 : decode cX7_add 30 = .ok (.iload_n 1, 1) := by decide +kernel
theorem dX7_add_31 : decode cX7_add 31 = .ok (.aaload, 1) := by decide +kernel
theorem dX7_add_32 : decode cX7_add 32 = .ok (.aload_n 0, 1) := by decide +kernel
theorem dX7_add_33 : decode cX7_add 33 = .ok (.getfield 35, 3) := by decide +kernel
theorem dX7_add_36 : decode cX7_add 36 = .ok (.iload_n 2, 1) := by decide +kernel
theorem dX7_add_37 : decode cX7_add 37 = .ok (.aaload, 1) := by decide +kernel
theorem dX7_add_38 : decode cX7_add 38 = .ok (.iload_n 3, 1) := by decide +kernel
theorem dX7_add_39 : decode cX7_add 39 = .ok (.invokestatic 194, 3) := by decide +kernel
theorem dX7_add_42 : decode cX7_add 42 = .ok (.iconst 1, 1) := by decide +kernel
theorem dX7_add_43 : decode cX7_add 43 = .ok (.ireturn, 1) := by decide +kernel
theorem dX7_press_0 : decode cX7_press 0 = .ok (.iload_n 1, 1) := by decide +kernel
theorem dX7_press_1 : decode cX7_press 1 = .ok (.invokestatic 172, 3) := by decide +kernel
theorem dX7_press_4 : decode cX7_press 4 = .ok (.ifCond .eq 14, 3) := by decide +kernel
theorem dX7_press_7 : decode cX7_press 7 = .ok (.iload_n 2, 1) := by decide +kernel
theorem dX7_press_8 : decode cX7_press 8 = .ok (.iconst 1, 1) := by decide +kernel
theorem dX7_press_9 : decode cX7_press 9 = .ok (.if_icmp .lt 9, 3) := by decide +kernel
theorem dX7_press_12 : decode cX7_press 12 = .ok (.iload_n 2, 1) := by decide +kernel
theorem dX7_press_13 : decode cX7_press 13 = .ok (.bipush 11, 2) := by decide +kernel
theorem dX7_press_15 : decode cX7_press 15 = .ok (.if_icmp .le 5, 3) := by decide +kernel
theorem dX7_press_18 : decode cX7_press 18 = .ok (.iconst 0, 1) := by decide +kernel
theorem dX7_press_19 : decode cX7_press 19 = .ok (.ireturn, 1) := by decide +kernel
theorem dX7_press_20 : decode cX7_press 20 = .ok (.aload_n 0, 1) := by decide +kernel
theorem dX7_press_21 : decode cX7_press 21 = .ok (.getfield 35, 3) := by decide +kernel
theorem dX7_press_24 : decode cX7_press 24 = .ok (.iload_n 1, 1) := by decide +kernel
theorem dX7_press_25 : decode cX7_press 25 = .ok (.aaload, 1) := by decide +kernel
theorem dX7_press_26 : decode cX7_press 26 = .ok (.iload_n 2, 1) := by decide +kernel
theorem dX7_press_27 : decode cX7_press 27 = .ok (.invokestatic 198, 3) := by decide +kernel
theorem dX7_press_30 : decode cX7_press 30 = .ok (.iconst 1, 1) := by decide +kernel
theorem dX7_press_31 : decode cX7_press 31 = .ok (.ireturn, 1) := by decide +kernel
theorem dX7_stretch_0 : decode cX7_stretch 0 = .ok (.iload_n 1, 1) := by decide +kernel
theorem dX7_stretch_1 : decode cX7_stretch 1 = .ok (.invokestatic 172, 3) := by decide +kernel
theorem dX7_stretch_4 : decode cX7_stretch 4 = .ok (.ifCond .eq 14, 3) := by decide +kernel
theorem dX7_stretch_7 : decode cX7_stretch 7 = .ok (.iload_n 2, 1) := by decide +kernel
theorem dX7_stretch_8 : decode cX7_stretch 8 = .ok (.iconst 1, 1) := by decide +kernel
theorem dX7_stretch_9 : decode cX7_stretch 9 = .ok (.if_icmp .lt 9, 3) := by decide +kernel
theorem dX7_stretch_12 : decode cX7_stretch 12 = .ok (.iload_n 2, 1) := by decide +kernel
theorem dX7_stretch_13 : decode cX7_stretch 13 = .ok (.bipush 11, 2) := by decide +kernel
theorem dX7_stretch_15 : decode cX7_stretch 15 = .ok (.if_icmp .le 5, 3) := by decide +kernel
theorem dX7_stretch_18 : decode cX7_stretch 18 = .ok (.iconst 0, 1) := by decide +kernel
theorem dX7_stretch_19 : decode cX7_stretch 19 = .ok (.ireturn, 1) := by decide +kernel
theorem dX7_stretch_20 : decode cX7_stretch 20 = .ok (.aload_n 0, 1) := by decide +kernel
theorem dX7_stretch_21 : decode cX7_stretch 21 = .ok (.getfield 35, 3) := by decide +kernel
theorem dX7_stretch_24 : decode cX7_stretch 24 = .ok (.iload_n 1, 1) := by decide +kernel
theorem dX7_stretch_25 : decode cX7_stretch 25 = .ok (.aaload, 1) := by decide +kernel
theorem dX7_stretch_26 : decode cX7_stretch 26 = .ok (.iload_n 2, 1) := by decide +kernel
theorem dX7_stretch_27 : decode cX7_stretch 27 = .ok (.invokestatic 204, 3) := by decide +kernel
theorem dX7_stretch_30 : decode cX7_stretch 30 = .ok (.iconst 1, 1) := by decide +kernel
theorem dX7_stretch_31 : decode cX7_stretch 31 = .ok (.ireturn, 1) := by decide +kernel
theorem dX7_encode_0 : decode cX7_encode 0 = .ok (.iload_n 1, 1) := by decide +kernel
theorem dX7_encode_1 : decode cX7_encode 1 = .ok (.invokestatic 172, 3) := by decide +kernel
theorem dX7_encode_4 : decode cX7_encode 4 = .ok (.ifCond .eq 14, 3) := by decide +kernel
theorem dX7_encode_7 : decode cX7_encode 7 = .ok (.iload_n 2, 1) := by decide +kernel
theorem dX7_encode_8 : decode cX7_encode 8 = .ok (.iconst 1, 1) := by decide +kernel
theorem dX7_encode_9 : decode cX7_encode 9 = .ok (.if_icmp .lt 9, 3) := by decide +kernel
theorem dX7_encode_12 : decode cX7_encode 12 = .ok (.iload_n 2, 1) := by decide +kernel
theorem dX7_encode_13 : decode cX7_encode 13 = .ok (.bipush 12, 2) := by decide +kernel
theorem dX7_encode_15 : decode cX7_encode 15 = .ok (.if_icmp .le 5, 3) := by decide +kernel
theorem dX7_encode_18 : decode cX7_encode 18 = .ok (.iconst (-1), 1) := by decide +kernel
theorem dX7_encode_19 : decode cX7_encode 19 = .ok (.ireturn, 1) := by decide +kernel
theorem dX7_encode_20 : decode cX7_encode 20 = .ok (.aload_n 0, 1) := by decide +kernel
theorem dX7_encode_21 : decode cX7_encode 21 = .ok (.getfield 30, 3) := by decide +kernel
theorem dX7_encode_24 : decode cX7_encode 24 = .ok (.invokevirtual 106, 3) := by decide +kernel
theorem dX7_encode_27 : decode cX7_encode 27 = .ok (.aload_n 0, 1) := by decide +kernel
theorem dX7_encode_28 : decode cX7_encode 28 = .ok (.getfield 35, 3) := by decide +kernel
theorem dX7_encode_31 : decode cX7_encode 31 = .ok (.iload_n 1, 1) := by decide +kernel
theorem dX7_encode_32 : decode cX7_encode 32 = .ok (.aaload, 1) := by decide +kernel
theorem dX7_encode_33 : decode cX7_encode 33 = .ok (.iload_n 2, 1) := by decide +kernel
theorem dX7_encode_34 : decode cX7_encode 34 = .ok (.aload_n 0, 1) := by decide +kernel
theorem dX7_encode_35 : decode cX7_encode 35 = .ok (.getfield 30, 3) := by decide +kernel
theorem dX7_encode_38 : decode cX7_encode 38 = .ok (.invokestatic 207, 3) := by decide +kernel
theorem dX7_encode_41 : decode cX7_encode 41 = .ok (.aload_n 0, 1) := by decide +kernel
theorem dX7_encode_42 : decode cX7_encode 42 = .ok (.getfield 30, 3) := by decide +kernel
theorem dX7_encode_45 : decode cX7_encode 45 = .ok (.invokevirtual 80, 3) := by decide +kernel
theorem dX7_encode_48 : decode cX7_encode 48 = .ok (.ireturn, 1) := by decide +kernel
theorem dX7_decode_0 : decode cX7_decode 0 = .ok (.iload_n 1, 1) := by decide +kernel
theorem dX7_decode_1 : decode cX7_decode 1 = .ok (.invokestatic 172, 3) := by decide +kernel
theorem dX7_decode_4 : decode cX7_decode 4 = .ok (.ifCond .eq 14, 3) := by decide +kernel
theorem dX7_decode_7 : decode cX7_decode 7 = .ok (.iload_n 2, 1) := by decide +kernel
theorem dX7_decode_8 : decode cX7_decode 8 = .ok (.iconst 1, 1) := by decide +kernel
theorem dX7_decode_9 : decode cX7_decode 9 = .ok (.if_icmp .lt 9, 3) := by decide +kernel
theorem dX7_decode_12 : decode cX7_decode 12 = .ok (.iload_n 2, 1) := by decide +kernel
theorem dX7_decode_13 : decode cX7_decode 13 = .ok (.bipush 12, 2) := by decide +kernel
theorem dX7_decode_15 : decode cX7_decode 15 = .ok (.if_icmp .le 5, 3) := by decide +kernel
theorem dX7_decode_18 : decode cX7_decode 18 = .ok (.iconst (-1), 1) := by decide +kernel
theorem dX7_decode_19 : decode cX7_decode 19 = .ok (.ireturn, 1) := by decide +kernel
theorem dX7_decode_20 : decode cX7_decode 20 = .ok (.aload_n 0, 1) := by decide +kernel
theorem dX7_decode_21 : decode cX7_decode 21 = .ok (.getfield 14, 3) := by decide +kernel
theorem dX7_decode_24 : decode cX7_decode 24 = .ok (.invokevirtual 80, 3) := by decide +kernel
theorem dX7_decode_27 : decode cX7_decode 27 = .ok (.bipush 32, 2) := by decide +kernel
theorem dX7_decode_29 : decode cX7_decode 29 = .ok (.iload_n 2, 1) := by decide +kernel
theorem dX7_decode_30 : decode cX7_decode 30 = .ok (.imul, 1) := by decide +kernel
theorem dX7_decode_31 : decode cX7_decode 31 = .ok (.if_icmp .ne 7, 3) := by decide +kernel
theorem dX7_decode_34 : decode cX7_decode 34 = .ok (.iconst 1, 1) := by decide +kernel
theorem dX7_decode_35 : decode cX7_decode 35 = .ok (.goto 4, 3) := by decide +kernel
theorem dX7_decode_38 : decode cX7_decode 38 = .ok (.iconst 0, 1) := by decide +kernel
theorem dX7_decode_39 : decode cX7_decode 39 = .ok (.istore_n 3, 1) := by decide +kernel
theorem dX7_decode_40 : decode cX7_decode 40 = .ok (.iload_n 3, 1) := by decide +kernel
theorem dX7_decode_41 : decode cX7_decode 41 = .ok (.ifCond .eq 18, 3) := by decide +kernel
theorem dX7_decode_44 : decode cX7_decode 44 = .ok (.aload_n 0, 1) := by decide +kernel
theorem dX7_decode_45 : decode cX7_decode 45 = .ok (.getfield 35, 3) := by decide +kernel
theorem dX7_decode_48 : decode cX7_decode 48 = .ok (.iload_n 1, 1) := by decide +kernel
theorem dX7_decode_49 : decode cX7_decode 49 = .ok (.aaload, 1) := by decide +kernel
theorem dX7_decode_50 : decode cX7_decode 50 = .ok (.iload_n 2, 1) := by decide +kernel
theorem dX7_decode_51 : decode cX7_decode 51 = .ok (.aload_n 0, 1) := by decide +kernel
theorem dX7_decode_52 : decode cX7_decode 52 = .ok (.getfield 14, 3) := by decide +kernel
theorem dX7_decode_55 : decode cX7_decode 55 = .ok (.iconst 0, 1) := by decide +kernel
theorem dX7_decode_56 : decode cX7_decode 56 = .ok (.invokestatic 211, 3) := by decide +kernel
theorem dX7_decode_59 : decode cX7_decode 59 = .ok (.aload_n 0, 1) := by decide +kernel
theorem dX7_decode_60 : decode cX7_decode 60 = .ok (.getfield 14, 3) := by decide +kernel
theorem dX7_decode_63 : decode cX7_decode 63 = .ok (.invokevirtual 106, 3) := by decide +kernel
theorem dX7_decode_66 : decode cX7_decode 66 = .ok (.iload_n 3, 1) := by decide +kernel
theorem dX7_decode_67 : decode cX7_decode 67 = .ok (.ifCond .eq 9, 3) := by decide +kernel
theorem dX7_decode_70 : decode cX7_decode 70 = .ok (.sipush 256, 3) := by decide +kernel
theorem dX7_decode_73 : decode cX7_decode 73 = .ok (.goto 4, 3) := by decide +kernel
theorem dX7_decode_76 : decode cX7_decode 76 = .ok (.iconst (-1), 1) := by decide +kernel
theorem dX7_decode_77 : decode cX7_decode 77 = .ok (.ireturn, 1) := by decide +kernel
theorem dX7_sample_0 : decode cX7_sample 0 = .ok (.iload_n 1, 1) := by decide +kernel
theorem dX7_sample_1 : decode cX7_sample 1 = .ok (.invokestatic 172, 3) := by decide +kernel
theorem dX7_sample_4 : decode cX7_sample 4 = .ok (.ifCond .ne 5, 3) := by decide +kernel
theorem dX7_sample_7 : decode cX7_sample 7 = .ok (.iconst (-1), 1) := by decide +kernel
theorem dX7_sample_8 : decode cX7_sample 8 = .ok (.ireturn, 1) := by decide +kernel
theorem dX7_sample_9 : decode cX7_sample 9 = .ok (.iconst (-1), 1) := by decide +kernel
theorem dX7_sample_10 : decode cX7_sample 10 = .ok (.istore 4, 2) := by decide +kernel
theorem dX7_sample_12 : decode cX7_sample 12 = .ok (.aload_n 0, 1) := by decide +kernel
theorem dX7_sample_13 : decode cX7_sample 13 = .ok (.getfield 14, 3) := by decide +kernel
theorem dX7_sample_16 : decode cX7_sample 16 = .ok (.invokevirtual 80, 3) := by decide +kernel
theorem dX7_sample_19 : decode cX7_sample 19 = .ok (.bipush 32, 2) := by decide +kernel
theorem dX7_sample_21 : decode cX7_sample 21 = .ok (.if_icmp .ne 27, 3) := by decide +kernel
theorem dX7_sample_24 : decode cX7_sample 24 = .ok (.aload_n 0, 1) := by decide +kernel
theorem dX7_sample_25 : decode cX7_sample 25 = .ok (.getfield 50, 3) := by decide +kernel
theorem dX7_sample_28 : decode cX7_sample 28 = .ok (.aload_n 0, 1) := by decide +kernel
theorem dX7_sample_29 : decode cX7_sample 29 = .ok (.getfield 63, 3) := by decide +kernel
theorem dX7_sample_32 : decode cX7_sample 32 = .ok (.aload_n 0, 1) := by decide +kernel
theorem dX7_sample_33 : decode cX7_sample 33 = .ok (.getfield 14, 3) := by decide +kernel
theorem dX7_sample_36 : decode cX7_sample 36 = .ok (.iconst 0, 1) := by decide +kernel
theorem dX7_sample_37 : decode cX7_sample 37 = .ok (.iload_n 3, 1) := by decide +kernel
theorem dX7_sample_38 : decode cX7_sample 38 = .ok (.iload_n 2, 1) := by decide +kernel
theorem dX7_sample_39 : decode cX7_sample 39 = .ok (.aload_n 0, 1) := by decide +kernel
theorem dX7_sample_40 : decode cX7_sample 40 = .ok (.getfield 76, 3) := by decide +kernel
theorem dX7_sample_43 : decode cX7_sample 43 = .ok (.invokevirtual 215, 3) := by decide +kernel
theorem dX7_sample_46 : decode cX7_sample 46 = .ok (.istore 4, 2) := by decide +kernel
theorem dX7_sample_48 : decode cX7_sample 48 = .ok (.aload_n 0, 1) := by decide +kernel
theorem dX7_sample_49 : decode cX7_sample 49 = .ok (.getfield 14, 3) := by decide +kernel
theorem dX7_sample_52 : decode cX7_sample 52 = .ok (.invokevirtual 106, 3) := by decide +kernel
theorem dX7_sample_55 : decode cX7_sample 55 = .ok (.iload 4, 2) := by decide +kernel
theorem dX7_sample_57 : decode cX7_sample 57 = .ok (.ifCond .le 21, 3) := by decide +kernel
theorem dX7_sample_60 : decode cX7_sample 60 = .ok (.aload_n 0, 1) := by decide +kernel
theorem dX7_sample_61 : decode cX7_sample 61 = .ok (.getfield 63, 3) := by decide +kernel
theorem dX7_sample_64 : decode cX7_sample 64 = .ok (.iconst 0, 1) := by decide +kernel
theorem dX7_sample_65 : decode cX7_sample 65 = .ok (.aload_n 0, 1) := by decide +kernel
theorem dX7_sample_66 : decode cX7_sample 66 = .ok (.getfield 35, 3) := by decide +kernel
theorem dX7_sample_69 : decode cX7_sample 69 = .ok (.iload_n 1, 1) := by decide +kernel
theorem dX7_sample_70 : decode cX7_sample 70 = .ok (.aaload, 1) := by decide +kernel
theorem dX7_sample_71 : decode cX7_sample 71 = .ok (.iconst 0, 1) := by decide +kernel
theorem dX7_sample_72 : decode cX7_sample 72 = .ok (.sipush 256, 3) := by decide +kernel
theorem dX7_sample_75 : decode cX7_sample 75 = .ok (.invokestatic 219, 3) := by decide +kernel
theorem dX7_sample_78 : decode cX7_sample 78 = .ok (.iload 4, 2) := by decide +kernel
theorem dX7_sample_80 : decode cX7_sample 80 = .ok (.ireturn, 1) := by decide +kernel
theorem dX7_noise_0 : decode cX7_noise 0 = .ok (.iload_n 1, 1) := by decide +kernel
theorem dX7_noise_1 : decode cX7_noise 1 = .ok (.invokestatic 172, 3) := by decide +kernel
theorem dX7_noise_4 : decode cX7_noise 4 = .ok (.ifCond .eq 13, 3) := by decide +kernel
theorem dX7_noise_7 : decode cX7_noise 7 = .ok (.iload_n 2, 1) := by decide +kernel
theorem dX7_noise_8 : decode cX7_noise 8 = .ok (.iconst 2, 1) := by decide +kernel
theorem dX7_noise_9 : decode cX7_noise 9 = .ok (.if_icmp .eq 10, 3) := by decide +kernel
theorem dX7_noise_12 : decode cX7_noise 12 = .ok (.iload_n 2, 1) := by decide +kernel
theorem dX7_noise_13 : decode cX7_noise 13 = .ok (.iconst 3, 1) := by decide +kernel
theorem dX7_noise_14 : decode cX7_noise 14 = .ok (.if_icmp .eq 5, 3) := by decide +kernel
theorem dX7_noise_17 : decode cX7_noise 17 = .ok (.iconst (-1), 1) := by decide +kernel
theorem dX7_noise_18 : decode cX7_noise 18 = .ok (.ireturn, 1) := by decide +kernel
theorem dX7_noise_19 : decode cX7_noise 19 = .ok (.aload_n 0, 1) := by decide +kernel
theorem dX7_noise_20 : decode cX7_noise 20 = .ok (.getfield 14, 3) := by decide +kernel
theorem dX7_noise_23 : decode cX7_noise 23 = .ok (.invokevirtual 80, 3) := by decide +kernel
theorem dX7_noise_26 : decode cX7_noise 26 = .ok (.bipush 32, 2) := by decide +kernel
theorem dX7_noise_28 : decode cX7_noise 28 = .ok (.if_icmp .ne 7, 3) := by decide +kernel
theorem dX7_noise_31 : decode cX7_noise 31 = .ok (.iconst 1, 1) := by decide +kernel
theorem dX7_noise_32 : decode cX7_noise 32 = .ok (.goto 4, 3) := by decide +kernel
theorem dX7_noise_35 : decode cX7_noise 35 = .ok (.iconst 0, 1) := by decide +kernel
theorem dX7_noise_36 : decode cX7_noise 36 = .ok (.istore 4, 2) := by decide +kernel
theorem dX7_noise_38 : decode cX7_noise 38 = .ok (.iload 4, 2) := by decide +kernel
theorem dX7_noise_40 : decode cX7_noise 40 = .ok (.ifCond .eq 23, 3) := by decide +kernel
theorem dX7_noise_43 : decode cX7_noise 43 = .ok (.aload_n 0, 1) := by decide +kernel
theorem dX7_noise_44 : decode cX7_noise 44 = .ok (.getfield 50, 3) := by decide +kernel
theorem dX7_noise_47 : decode cX7_noise 47 = .ok (.aload_n 0, 1) := by decide +kernel
theorem dX7_noise_48 : decode cX7_noise 48 = .ok (.getfield 35, 3) := by decide +kernel
theorem dX7_noise_51 : decode cX7_noise 51 = .ok (.iload_n 1, 1) := by decide +kernel
theorem dX7_noise_52 : decode cX7_noise 52 = .ok (.aaload, 1) := by decide +kernel
theorem dX7_noise_53 : decode cX7_noise 53 = .ok (.aload_n 0, 1) := by decide +kernel
theorem dX7_noise_54 : decode cX7_noise 54 = .ok (.getfield 14, 3) := by decide +kernel
theorem dX7_noise_57 : decode cX7_noise 57 = .ok (.iconst 0, 1) := by decide +kernel
theorem dX7_noise_58 : decode cX7_noise 58 = .ok (.iload_n 2, 1) := by decide +kernel
theorem dX7_noise_59 : decode cX7_noise 59 = .ok (.iload_n 3, 1) := by decide +kernel
theorem dX7_noise_60 : decode cX7_noise 60 = .ok (.invokevirtual 225, 3) := by decide +kernel
theorem dX7_noise_63 : decode cX7_noise 63 = .ok (.aload_n 0, 1) := by decide +kernel
theorem dX7_noise_64 : decode cX7_noise 64 = .ok (.getfield 14, 3) := by decide +kernel
theorem dX7_noise_67 : decode cX7_noise 67 = .ok (.invokevirtual 106, 3) := by decide +kernel
theorem dX7_noise_70 : decode cX7_noise 70 = .ok (.iload 4, 2) := by decide +kernel
theorem dX7_noise_72 : decode cX7_noise 72 = .ok (.ifCond .eq 9, 3) := by decide +kernel
theorem dX7_noise_75 : decode cX7_noise 75 = .ok (.sipush 256, 3) := by decide +kernel
theorem dX7_noise_78 : decode cX7_noise 78 = .ok (.goto 4, 3) := by decide +kernel
theorem dX7_noise_81 : decode cX7_noise 81 = .ok (.iconst (-1), 1) := by decide +kernel
theorem dX7_noise_82 : decode cX7_noise 82 = .ok (.ireturn, 1) := by decide +kernel
theorem dX7_isPolynomial_0 : decode cX7_isPolynomial 0 = .ok (.iload_n 0, 1) := by decide +kernel
theorem dX7_isPolynomial_1 : decode cX7_isPolynomial 1 = .ok (.ifCond .lt 12, 3) := by decide +kernel
theorem dX7_isPolynomial_4 : decode cX7_isPolynomial 4 = .ok (.iload_n 0, 1) := by decide +kernel
theorem dX7_isPolynomial_5 : decode cX7_isPolynomial 5 = .ok (.iconst 4, 1) := by decide +kernel
theorem dX7_isPolynomial_6 : decode cX7_isPolynomial 6 = .ok (.if_icmp .ge 7, 3) := by decide +kernel
theorem dX7_isPolynomial_9 : decode cX7_isPolynomial 9 = .ok (.iconst 1, 1) := by decide +kernel
theorem dX7_isPolynomial_10 : decode cX7_isPolynomial 10 = .ok (.goto 4, 3) := by decide +kernel
theorem dX7_isPolynomial_13 : decode cX7_isPolynomial 13 = .ok (.iconst 0, 1) := by decide +kernel
theorem dX7_isPolynomial_14 : decode cX7_isPolynomial 14 = .ok (.ireturn, 1) := by decide +kernel
theorem dX7_rowOf_0 : decode cX7_rowOf 0 = .ok (.iload_n 1, 1) := by decide +kernel
theorem dX7_rowOf_1 : decode cX7_rowOf 1 = .ok (.tableswitch 69 0 5 #[39, 44, 49, 54, 59, 64], 39) := by decide +kernel
theorem dX7_rowOf_40 : decode cX7_rowOf 40 = .ok (.aload_n 0, 1) := by decide +kernel
theorem dX7_rowOf_41 : decode cX7_rowOf 41 = .ok (.getfield 18, 3) := by decide +kernel
theorem dX7_rowOf_44 : decode cX7_rowOf 44 = .ok (.areturn, 1) := by decide +kernel
theorem dX7_rowOf_45 : decode cX7_rowOf 45 = .ok (.aload_n 0, 1) := by decide +kernel
theorem dX7_rowOf_46 : decode cX7_rowOf 46 = .ok (.getfield 21, 3) := by decide +kernel
theorem dX7_rowOf_49 : decode cX7_rowOf 49 = .ok (.areturn, 1) := by decide +kernel
theorem dX7_rowOf_50 : decode cX7_rowOf 50 = .ok (.aload_n 0, 1) := by decide +kernel
theorem dX7_rowOf_51 : decode cX7_rowOf 51 = .ok (.getfield 24, 3) := by decide +kernel
theorem dX7_rowOf_54 : decode cX7_rowOf 54 = .ok (.areturn, 1) := by decide +kernel
theorem dX7_rowOf_55 : decode cX7_rowOf 55 = .ok (.aload_n 0, 1) := by decide +kernel
theorem dX7_rowOf_56 : decode cX7_rowOf 56 = .ok (.getfield 27, 3) := by decide +kernel
theorem dX7_rowOf_59 : decode cX7_rowOf 59 = .ok (.areturn, 1) := by decide +kernel
theorem dX7_rowOf_60 : decode cX7_rowOf 60 = .ok (.aload_n 0, 1) := by decide +kernel
theorem dX7_rowOf_61 : decode cX7_rowOf 61 = .ok (.getfield 30, 3) := by decide +kernel
theorem dX7_rowOf_64 : decode cX7_rowOf 64 = .ok (.areturn, 1) := by decide +kernel
theorem dX7_rowOf_65 : decode cX7_rowOf 65 = .ok (.aload_n 0, 1) := by decide +kernel
theorem dX7_rowOf_66 : decode cX7_rowOf 66 = .ok (.getfield 14, 3) := by decide +kernel
theorem dX7_rowOf_69 : decode cX7_rowOf 69 = .ok (.areturn, 1) := by decide +kernel
theorem dX7_rowOf_70 : decode cX7_rowOf 70 = .ok (.aconst_null, 1) := by decide +kernel
theorem dX7_rowOf_71 : decode cX7_rowOf 71 = .ok (.areturn, 1) := by decide +kernel
theorem dX7_checkTapeAs_0 : decode cX7_checkTapeAs 0 = .ok (.iload_n 1, 1) := by decide +kernel
theorem dX7_checkTapeAs_1 : decode cX7_checkTapeAs 1 = .ok (.ifCond .ne 52, 3) := by decide +kernel
theorem dX7_checkTapeAs_4 : decode cX7_checkTapeAs 4 = .ok (.aload_n 0, 1) := by decide +kernel
theorem dX7_checkTapeAs_5 : decode cX7_checkTapeAs 5 = .ok (.getfield 14, 3) := by decide +kernel
theorem dX7_checkTapeAs_8 : decode cX7_checkTapeAs 8 = .ok (.invokevirtual 80, 3) := by decide +kernel
theorem dX7_checkTapeAs_11 : decode cX7_checkTapeAs 11 = .ok (.aload_n 0, 1) := by decide +kernel
theorem dX7_checkTapeAs_12 : decode cX7_checkTapeAs 12 = .ok (.getfield 73, 3) := by decide +kernel
theorem dX7_checkTapeAs_15 : decode cX7_checkTapeAs 15 = .ok (.invokevirtual 109, 3) := by decide +kernel
theorem dX7_checkTapeAs_18 : decode cX7_checkTapeAs 18 = .ok (.if_icmp .eq 5, 3) := by decide +kernel
theorem dX7_checkTapeAs_21 : decode cX7_checkTapeAs 21 = .ok (.iconst (-1), 1) := by decide +kernel
theorem dX7_checkTapeAs_22 : decode cX7_checkTapeAs 22 = .ok (.ireturn, 1) := by decide +kernel
theorem dX7_checkTapeAs_23 : decode cX7_checkTapeAs 23 = .ok (.aload_n 0, 1) := by decide +kernel
theorem dX7_checkTapeAs_24 : decode cX7_checkTapeAs 24 = .ok (.getfield 14, 3) := by decide +kernel
theorem dX7_checkTapeAs_27 : decode cX7_checkTapeAs 27 = .ok (.aload_n 0, 1) := by decide +kernel
theorem dX7_checkTapeAs_28 : decode cX7_checkTapeAs 28 = .ok (.getfield 73, 3) := by decide +kernel
theorem dX7_checkTapeAs_31 : decode cX7_checkTapeAs 31 = .ok (.invokevirtual 123, 3) := by decide +kernel
theorem dX7_checkTapeAs_34 : decode cX7_checkTapeAs 34 = .ok (.invokestatic 229, 3) := by decide +kernel
theorem dX7_checkTapeAs_37 : decode cX7_checkTapeAs 37 = .ok (.ifCond .eq 13, 3) := by decide +kernel
theorem dX7_checkTapeAs_40 : decode cX7_checkTapeAs 40 = .ok (.aload_n 0, 1) := by decide +kernel
theorem dX7_checkTapeAs_41 : decode cX7_checkTapeAs 41 = .ok (.getfield 14, 3) := by decide +kernel
theorem dX7_checkTapeAs_44 : decode cX7_checkTapeAs 44 = .ok (.invokevirtual 80, 3) := by decide +kernel
theorem dX7_checkTapeAs_47 : decode cX7_checkTapeAs 47 = .ok (.goto 5, 3) := by decide +kernel
theorem dX7_checkTapeAs_50 : decode cX7_checkTapeAs 50 = .ok (.bipush (-2), 2) := by decide +kernel
theorem dX7_checkTapeAs_52 : decode cX7_checkTapeAs 52 = .ok (.ireturn, 1) := by decide +kernel
theorem dX7_checkTapeAs_53 : decode cX7_checkTapeAs 53 = .ok (.iload_n 1, 1) := by decide +kernel
theorem dX7_checkTapeAs_54 : decode cX7_checkTapeAs 54 = .ok (.iconst 1, 1) := by decide +kernel
theorem dX7_checkTapeAs_55 : decode cX7_checkTapeAs 55 = .ok (.if_icmp .ne 53, 3) := by decide +kernel
theorem dX7_checkTapeAs_58 : decode cX7_checkTapeAs 58 = .ok (.aload_n 0, 1) := by decide +kernel
theorem dX7_checkTapeAs_59 : decode cX7_checkTapeAs 59 = .ok (.getfield 14, 3) := by decide +kernel
theorem dX7_checkTapeAs_62 : decode cX7_checkTapeAs 62 = .ok (.invokevirtual 80, 3) := by decide +kernel
theorem dX7_checkTapeAs_65 : decode cX7_checkTapeAs 65 = .ok (.aload_n 0, 1) := by decide +kernel
theorem dX7_checkTapeAs_66 : decode cX7_checkTapeAs 66 = .ok (.getfield 73, 3) := by decide +kernel
theorem dX7_checkTapeAs_69 : decode cX7_checkTapeAs 69 = .ok (.invokevirtual 233, 3) := by decide +kernel
theorem dX7_checkTapeAs_72 : decode cX7_checkTapeAs 72 = .ok (.if_icmp .eq 5, 3) := by decide +kernel
theorem dX7_checkTapeAs_75 : decode cX7_checkTapeAs 75 = .ok (.iconst (-1), 1) := by decide +kernel
theorem dX7_checkTapeAs_76 : decode cX7_checkTapeAs 76 = .ok (.ireturn, 1) := by decide +kernel
theorem dX7_checkTapeAs_77 : decode cX7_checkTapeAs 77 = .ok (.aload_n 0, 1) := by decide +kernel
theorem dX7_checkTapeAs_78 : decode cX7_checkTapeAs 78 = .ok (.getfield 59, 3) := by decide +kernel
theorem dX7_checkTapeAs_81 : decode cX7_checkTapeAs 81 = .ok (.aload_n 0, 1) := by decide +kernel
theorem dX7_checkTapeAs_82 : decode cX7_checkTapeAs 82 = .ok (.getfield 73, 3) := by decide +kernel
theorem dX7_checkTapeAs_85 : decode cX7_checkTapeAs 85 = .ok (.aload_n 0, 1) := by decide +kernel
theorem dX7_checkTapeAs_86 : decode cX7_checkTapeAs 86 = .ok (.getfield 14, 3) := by decide +kernel
theorem dX7_checkTapeAs_89 : decode cX7_checkTapeAs 89 = .ok (.invokevirtual 236, 3) := by decide +kernel
theorem dX7_checkTapeAs_92 : decode cX7_checkTapeAs 92 = .ok (.ifCond .eq 13, 3) := by decide +kernel
theorem dX7_checkTapeAs_95 : decode cX7_checkTapeAs 95 = .ok (.aload_n 0, 1) := by decide +kernel
theorem dX7_checkTapeAs_96 : decode cX7_checkTapeAs 96 = .ok (.getfield 14, 3) := by decide +kernel
theorem dX7_checkTapeAs_99 : decode cX7_checkTapeAs 99 = .ok (.invokevirtual 80, 3) := by decide +kernel
theorem dX7_checkTapeAs_102 : decode cX7_checkTapeAs 102 = .ok (.goto 5, 3) := by decide +kernel
theorem dX7_checkTapeAs_105 : decode cX7_checkTapeAs 105 = .ok (.bipush (-3), 2) := by decide +kernel
theorem dX7_checkTapeAs_107 : decode cX7_checkTapeAs 107 = .ok (.ireturn, 1) := by decide +kernel
theorem dX7_checkTapeAs_108 : decode cX7_checkTapeAs 108 = .ok (.aload_n 0, 1) := by decide +kernel
theorem dX7_checkTapeAs_109 : decode cX7_checkTapeAs 109 = .ok (.getfield 14, 3) := by decide +kernel
theorem dX7_checkTapeAs_112 : decode cX7_checkTapeAs 112 = .ok (.invokevirtual 80, 3) := by decide +kernel
theorem dX7_checkTapeAs_115 : decode cX7_checkTapeAs 115 = .ok (.aload_n 0, 1) := by decide +kernel
theorem dX7_checkTapeAs_116 : decode cX7_checkTapeAs 116 = .ok (.getfield 73, 3) := by decide +kernel
theorem dX7_checkTapeAs_119 : decode cX7_checkTapeAs 119 = .ok (.invokevirtual 240, 3) := by decide +kernel
theorem dX7_checkTapeAs_122 : decode cX7_checkTapeAs 122 = .ok (.if_icmp .ne 13, 3) := by decide +kernel
theorem dX7_checkTapeAs_125 : decode cX7_checkTapeAs 125 = .ok (.aload_n 0, 1) := by decide +kernel
theorem dX7_checkTapeAs_126 : decode cX7_checkTapeAs 126 = .ok (.getfield 14, 3) := by decide +kernel
theorem dX7_checkTapeAs_129 : decode cX7_checkTapeAs 129 = .ok (.invokevirtual 80, 3) := by decide +kernel
theorem dX7_checkTapeAs_132 : decode cX7_checkTapeAs 132 = .ok (.goto 4, 3) := by decide +kernel
theorem dX7_checkTapeAs_135 : decode cX7_checkTapeAs 135 = .ok (.iconst (-1), 1) := by decide +kernel
theorem dX7_checkTapeAs_136 : decode cX7_checkTapeAs 136 = .ok (.ireturn, 1) := by decide +kernel
theorem dX7_hashLength_0 : decode cX7_hashLength 0 = .ok (.iload_n 0, 1) := by decide +kernel
theorem dX7_hashLength_1 : decode cX7_hashLength 1 = .ok (.tableswitch 54 0 3 #[31, 34, 37, 37], 31) := by decide +kernel
theorem dX7_hashLength_32 : decode cX7_hashLength 32 = .ok (.bipush 32, 2) := by decide +kernel
theorem dX7_hashLength_34 : decode cX7_hashLength 34 = .ok (.ireturn, 1) := by decide +kernel
theorem dX7_hashLength_35 : decode cX7_hashLength 35 = .ok (.bipush 64, 2) := by decide +kernel
theorem dX7_hashLength_37 : decode cX7_hashLength 37 = .ok (.ireturn, 1) := by decide +kernel
theorem dX7_hashLength_38 : decode cX7_hashLength 38 = .ok (.iload_n 1, 1) := by decide +kernel
theorem dX7_hashLength_39 : decode cX7_hashLength 39 = .ok (.ifCond .lt 14, 3) := by decide +kernel
theorem dX7_hashLength_42 : decode cX7_hashLength 42 = .ok (.iload_n 1, 1) := by decide +kernel
theorem dX7_hashLength_43 : decode cX7_hashLength 43 = .ok (.sipush 1000, 3) := by decide +kernel
theorem dX7_hashLength_46 : decode cX7_hashLength 46 = .ok (.if_icmp .gt 7, 3) := by decide +kernel
theorem dX7_hashLength_49 : decode cX7_hashLength 49 = .ok (.iload_n 1, 1) := by decide +kernel
theorem dX7_hashLength_50 : decode cX7_hashLength 50 = .ok (.goto 4, 3) := by decide +kernel
theorem dX7_hashLength_53 : decode cX7_hashLength 53 = .ok (.iconst (-1), 1) := by decide +kernel
theorem dX7_hashLength_54 : decode cX7_hashLength 54 = .ok (.ireturn, 1) := by decide +kernel
theorem dX7_hashLength_55 : decode cX7_hashLength 55 = .ok (.iconst (-1), 1) := by decide +kernel
theorem dX7_hashLength_56 : decode cX7_hashLength 56 = .ok (.ireturn, 1) := by decide +kernel
end
section
theorem dX8_init_0 : decode cX8_init 0 = .ok (.aload_n 0, 1) := by decide +kernel
theorem dX8_init_1 : decode cX8_init 1 = .ok (.invokespecial 1, 3) := by decide +kernel
theorem dX8_init_4 : decode cX8_init 4 = .ok (.aload_n 0, 1) := by decide +kernel
theorem dX8_init_5 : decode cX8_init 5 = .ok (.sipush 20000, 3) := by decide +kernel
theorem dX8_init_8 : decode cX8_init 8 = .ok (.newarray .byte, 2) := by decide +kernel
theorem dX8_init_10 : decode cX8_init 10 = .ok (.putfield 7, 3) := by decide +kernel
theorem dX8_init_13 : decode cX8_init 13 = .ok (.aload_n 0, 1) := by decide +kernel
theorem dX8_init_14 : decode cX8_init 14 = .ok (.iconst 3, 1) := by decide +kernel
theorem dX8_init_15 : decode cX8_init 15 = .ok (.putfield 13, 3) := by decide +kernel
theorem dX8_init_18 : decode cX8_init 18 = .ok (.aload_n 0, 1) := by decide +kernel
theorem dX8_init_19 : decode cX8_init 19 = .ok (.sipush 280, 3) := by decide +kernel
theorem dX8_init_22 : decode cX8_init 22 = .ok (.putfield 17, 3) := by decide +kernel
theorem dX8_init_25 : decode cX8_init 25 = .ok (.aload_n 0, 1) := by decide +kernel
theorem dX8_init_26 : decode cX8_init 26 = .ok (.sipush 1600, 3) := by decide +kernel
theorem dX8_init_29 : decode cX8_init 29 = .ok (.newarray .byte, 2) := by decide +kernel
theorem dX8_init_31 : decode cX8_init 31 = .ok (.putfield 20, 3) := by decide +kernel
theorem dX8_init_34 : decode cX8_init 34 = .ok (.aload_n 0, 1) := by decide +kernel
theorem dX8_init_35 : decode cX8_init 35 = .ok (.sipush 1600, 3) := by decide +kernel
theorem dX8_init_38 : decode cX8_init 38 = .ok (.newarray .byte, 2) := by decide +kernel
theorem dX8_init_40 : decode cX8_init 40 = .ok (.putfield 23, 3) := by decide +kernel
theorem dX8_init_43 : decode cX8_init 43 = .ok (.aload_n 0, 1) := by decide +kernel
theorem dX8_init_44 : decode cX8_init 44 = .ok (.sipush 320, 3) := by decide +kernel
theorem dX8_init_47 : decode cX8_init 47 = .ok (.newarray .byte, 2) := by decide +kernel
theorem dX8_init_49 : decode cX8_init 49 = .ok (.putfield 26, 3) := by decide +kernel
theorem dX8_init_52 : decode cX8_init 52 = .ok (.aload_n 0, 1) := by decide +kernel
theorem dX8_init_53 : decode cX8_init 53 = .ok (.sipush 1600, 3) := by decide +kernel
theorem dX8_init_56 : decode cX8_init 56 = .ok (.newarray .int, 2) := by decide +kernel
theorem dX8_init_58 : decode cX8_init 58 = .ok (.putfield 29, 3) := by decide +kernel
theorem dX8_init_61 : decode cX8_init 61 = .ok (.aload_n 0, 1) := by decide +kernel
theorem dX8_init_62 : decode cX8_init 62 = .ok (.sipush 168, 3) := by decide +kernel
theorem dX8_init_65 : decode cX8_init 65 = .ok (.newarray .byte, 2) := by decide +kernel
theorem dX8_init_67 : decode cX8_init 67 = .ok (.putfield 33, 3) := by decide +kernel
theorem dX8_init_70 : decode cX8_init 70 = .ok (.aload_n 0, 1) := by decide +kernel
theorem dX8_init_71 : decode cX8_init 71 = .ok (.sipush 5120, 3) := by decide +kernel
theorem dX8_init_74 : decode cX8_init 74 = .ok (.newarray .int, 2) := by decide +kernel
theorem dX8_init_76 : decode cX8_init 76 = .ok (.putfield 36, 3) := by decide +kernel
theorem dX8_init_79 : decode cX8_init 79 = .ok (.aload_n 0, 1) := by decide +kernel
theorem dX8_init_80 : decode cX8_init 80 = .ok (.sipush 256, 3) := by decide +kernel
theorem dX8_init_83 : decode cX8_init 83 = .ok (.newarray .int, 2) := by decide +kernel
theorem dX8_init_85 : decode cX8_init 85 = .ok (.putfield 39, 3) := by decide +kernel
theorem dX8_init_88 : decode cX8_init 88 = .ok (.aload_n 0, 1) := by decide +kernel
theorem dX8_init_89 : decode cX8_init 89 = .ok (.sipush 128, 3) := by decide +kernel
theorem dX8_init_92 : decode cX8_init 92 = .ok (.newarray .int, 2) := by decide +kernel
theorem dX8_init_94 : decode cX8_init 94 = .ok (.putfield 42, 3) := by decide +kernel
theorem dX8_init_97 : decode cX8_init 97 = .ok (.aload_n 0, 1) := by decide +kernel
theorem dX8_init_98 : decode cX8_init 98 = .ok (.invokevirtual 45, 3) := by decide +kernel
theorem dX8_init_101 : decode cX8_init 101 = .ok (.aload_n 0, 1) := by decide +kernel
theorem dX8_init_102 : decode cX8_init 102 = .ok (.invokevirtual 48, 3) := by decide +kernel
theorem dX8_init_105 : decode cX8_init 105 = .ok (.aload_n 0, 1) := by decide +kernel
theorem dX8_init_106 : decode cX8_init 106 = .ok (.invokevirtual 51, 3) := by decide +kernel
theorem dX8_init_109 : decode cX8_init 109 = .ok (.return_, 1) := by decide +kernel
theorem dX8_copy_0 : decode cX8_copy 0 = .ok (.iconst 0, 1) := by decide +kernel
theorem dX8_copy_1 : decode cX8_copy 1 = .ok (.istore 4, 2) := by decide +kernel
theorem dX8_copy_3 : decode cX8_copy 3 = .ok (.iload 4, 2) := by decide +kernel
theorem dX8_copy_5 : decode cX8_copy 5 = .ok (.iload_n 3, 1) := by decide +kernel
theorem dX8_copy_6 : decode cX8_copy 6 = .ok (.if_icmp .ge 27, 3) := by decide +kernel
theorem dX8_copy_9 : decode cX8_copy 9 = .ok (.aload_n 0, 1) := by decide +kernel
theorem dX8_copy_10 : decode cX8_copy 10 = .ok (.getfield 7, 3) := by decide +kernel
theorem dX8_copy_13 : decode cX8_copy 13 = .ok (.iload_n 2, 1) := by decide +kernel
theorem dX8_copy_14 : decode cX8_copy 14 = .ok (.iload 4, 2) := by decide +kernel
theorem dX8_copy_16 : decode cX8_copy 16 = .ok (.iadd, 1) := by decide +kernel
theorem dX8_copy_17 : decode cX8_copy 17 = .ok (.aload_n 0, 1) := by decide +kernel
theorem dX8_copy_18 : decode cX8_copy 18 = .ok (.getfield 7, 3) := by decide +kernel
theorem dX8_copy_21 : decode cX8_copy 21 = .ok (.iload_n 1, 1) := by decide +kernel
theorem dX8_copy_22 : decode cX8_copy 22 = .ok (.iload 4, 2) := by decide +kernel
theorem dX8_copy_24 : decode cX8_copy 24 = .ok (.iadd, 1) := by decide +kernel
theorem dX8_copy_25 : decode cX8_copy 25 = .ok (.baload, 1) := by decide +kernel
theorem dX8_copy_26 : decode cX8_copy 26 = .ok (.bastore, 1) := by decide +kernel
theorem dX8_copy_27 : decode cX8_copy 27 = .ok (.iinc 4 1, 3) := by decide +kernel
theorem dX8_copy_30 : decode cX8_copy 30 = .ok (.goto (-27), 3) := by decide +kernel
theorem dX8_copy_33 : decode cX8_copy 33 = .ok (.return_, 1) := by decide +kernel
theorem dX8_byteAt_0 : decode cX8_byteAt 0 = .ok (.aload_n 0, 1) := by decide +kernel
theorem dX8_byteAt_1 : decode cX8_byteAt 1 = .ok (.getfield 7, 3) := by decide +kernel
theorem dX8_byteAt_4 : decode cX8_byteAt 4 = .ok (.iload_n 1, 1) := by decide +kernel
theorem dX8_byteAt_5 : decode cX8_byteAt 5 = .ok (.baload, 1) := by decide +kernel
theorem dX8_byteAt_6 : decode cX8_byteAt 6 = .ok (.sipush 255, 3) := by decide +kernel
theorem dX8_byteAt_9 : decode cX8_byteAt 9 = .ok (.iand, 1) := by decide +kernel
theorem dX8_byteAt_10 : decode cX8_byteAt 10 = .ok (.ireturn, 1) := by decide +kernel
theorem dX8_bit_0 : decode cX8_bit 0 = .ok (.bipush 64, 2) := by decide +kernel
theorem dX8_bit_2 : decode cX8_bit 2 = .ok (.iconst 5, 1) := by decide +kernel
theorem dX8_bit_3 : decode cX8_bit 3 = .ok (.iload_n 1, 1) := by decide +kernel
theorem dX8_bit_4 : decode cX8_bit 4 = .ok (.imul, 1) := by decide +kernel
theorem dX8_bit_5 : decode cX8_bit 5 = .ok (.iload_n 0, 1) := by decide +kernel
theorem dX8_bit_6 : decode cX8_bit 6 = .ok (.iadd, 1) := by decide +kernel
theorem dX8_bit_7 : decode cX8_bit 7 = .ok (.imul, 1) := by decide +kernel
theorem dX8_bit_8 : decode cX8_bit 8 = .ok (.iload_n 2, 1) := by decide +kernel
theorem dX8_bit_9 : decode cX8_bit 9 = .ok (.iadd, 1) := by decide +kernel
theorem dX8_bit_10 : decode cX8_bit 10 = .ok (.ireturn, 1) := by decide +kernel
theorem dX8_turns_0 : decode cX8_turns 0 = .ok (.iconst 1, 1) := by decide +kernel
theorem dX8_turns_1 : decode cX8_turns 1 = .ok (.istore_n 1, 1) := by decide +kernel
theorem dX8_turns_2 : decode cX8_turns 2 = .ok (.iconst 0, 1) := by decide +kernel
theorem dX8_turns_3 : decode cX8_turns 3 = .ok (.istore_n 2, 1) := by decide +kernel
theorem dX8_turns_4 : decode cX8_turns 4 = .ok (.iconst 0, 1) := by decide +kernel
theorem dX8_turns_5 : decode cX8_turns 5 = .ok (.istore_n 3, 1) := by decide +kernel
theorem dX8_turns_6 : decode cX8_turns 6 = .ok (.iload_n 3, 1) := by decide +kernel
theorem dX8_turns_7 : decode cX8_turns 7 = .ok (.bipush 64, 2) := by decide +kernel
theorem dX8_turns_9 : decode cX8_turns 9 = .ok (.if_icmp .ge 26, 3) := by decide +kernel
theorem dX8_turns_12 : decode cX8_turns 12 = .ok (.aload_n 0, 1) := by decide +kernel
theorem dX8_turns_13 : decode cX8_turns 13 = .ok (.getfield 29, 3) := by decide +kernel
theorem dX8_turns_16 : decode cX8_turns 16 = .ok (.iconst 0, 1) := by decide +kernel
theorem dX8_turns_17 : decode cX8_turns 17 = .ok (.iconst 0, 1) := by decide +kernel
theorem dX8_turns_18 : decode cX8_turns 18 = .ok (.iload_n 3, 1) := by decide +kernel
theorem dX8_turns_19 : decode cX8_turns 19 = .ok (.invokestatic 54, 3) := by decide +kernel
theorem dX8_turns_22 : decode cX8_turns 22 = .ok (.iconst 0, 1) := by decide +kernel
theorem dX8_turns_23 : decode cX8_turns 23 = .ok (.iconst 0, 1) := by decide +kernel
theorem dX8_turns_24 : decode cX8_turns 24 = .ok (.iload_n 3, 1) := by decide +kernel
theorem dX8_turns_25 : decode cX8_turns 25 = .ok (.invokestatic 54, 3) := by decide +kernel
theorem dX8_turns_28 : decode cX8_turns 28 = .ok (.iastore, 1) := by decide +kernel
theorem dX8_turns_29 : decode cX8_turns 29 = .ok (.iinc 3 1, 3) := by decide +kernel
theorem dX8_turns_32 : decode cX8_turns 32 = .ok (.goto (-26), 3) := by decide +kernel
theorem dX8_turns_35 : decode cX8_turns 35 = .ok (.iconst 0, 1) := by decide +kernel
theorem dX8_turns_36 : decode cX8_turns 36 = .ok (.istore_n 3, 1) := by decide +kernel
theorem dX8_turns_37 : decode cX8_turns 37 = .ok (.iload_n 3, 1) := by decide +kernel
theorem dX8_turns_38 : decode cX8_turns 38 = .ok (.bipush 24, 2) := by decide +kernel
theorem dX8_turns_40 : decode cX8_turns 40 = .ok (.if_icmp .ge 91, 3) := by decide +kernel
theorem dX8_turns_43 : decode cX8_turns 43 = .ok (.iload_n 3, 1) := by decide +kernel
theorem dX8_turns_44 : decode cX8_turns 44 = .ok (.iconst 1, 1) := by decide +kernel
theorem dX8_turns_45 : decode cX8_turns 45 = .ok (.iadd, 1) := by decide +kernel
theorem dX8_turns_46 : decode cX8_turns 46 = .ok (.iload_n 3, 1) := by decide +kernel
theorem dX8_turns_47 : decode cX8_turns 47 = .ok (.iconst 2, 1) := by decide +kernel
theorem dX8_turns_48 : decode cX8_turns 48 = .ok (.iadd, 1) := by decide +kernel
theorem dX8_turns_49 : decode cX8_turns 49 = .ok (.imul, 1) := by decide +kernel
theorem dX8_turns_50 : decode cX8_turns 50 = .ok (.iconst 2, 1) := by decide +kernel
theorem dX8_turns_51 : decode cX8_turns 51 = .ok (.idiv, 1) := by decide +kernel
theorem dX8_turns_52 : decode cX8_turns 52 = .ok (.bipush 64, 2) := by decide +kernel
theorem dX8_turns_54 : decode cX8_turns 54 = .ok (.irem, 1) := by decide +kernel
theorem dX8_turns_55 : decode cX8_turns 55 = .ok (.istore 4, 2) := by decide +kernel
theorem dX8_turns_57 : decode cX8_turns 57 = .ok (.iconst 0, 1) := by decide +kernel
theorem dX8_turns_58 : decode cX8_turns 58 = .ok (.istore 5, 2) := by decide +kernel
theorem dX8_turns_60 : decode cX8_turns 60 = .ok (.iload 5, 2) := by decide +kernel
theorem dX8_turns_62 : decode cX8_turns 62 = .ok (.bipush 64, 2) := by decide +kernel
theorem dX8_turns_64 : decode cX8_turns 64 = .ok (.if_icmp .ge 45, 3) := by decide +kernel
theorem dX8_turns_67 : decode cX8_turns 67 = .ok (.aload_n 0, 1) := by decide +kernel
theorem dX8_turns_68 : decode cX8_turns 68 = .ok (.getfield 29, 3) := by decide +kernel
theorem dX8_turns_71 : decode cX8_turns 71 = .ok (.iload_n 2, 1) := by decide +kernel
theorem dX8_turns_72 : decode cX8_turns 72 = .ok (.iconst 2, 1) := by decide +kernel
theorem dX8_turns_73 : decode cX8_turns 73 = .ok (.iload_n 1, 1) := by decide +kernel
theorem dX8_turns_74 : decode cX8_turns 74 = .ok (.imul, 1) := by decide +kernel
theorem dX8_turns_75 : decode cX8_turns 75 = .ok (.iconst 3, 1) := by decide +kernel
theorem dX8_turns_76 : decode cX8_turns 76 = .ok (.iload_n 2, 1) := by decide +kernel
theorem dX8_turns_77 : decode cX8_turns 77 = .ok (.imul, 1) := by decide +kernel
theorem dX8_turns_78 : decode cX8_turns 78 = .ok (.iadd, 1) := by decide +kernel
theorem dX8_turns_79 : decode cX8_turns 79 = .ok (.iconst 5, 1) := by decide +kernel
theorem dX8_turns_80 : decode cX8_turns 80 = .ok (.irem, 1) := by decide +kernel
theorem dX8_turns_81 : decode cX8_turns 81 = .ok (.iload 5, 2) := by decide +kernel
theorem dX8_turns_83 : decode cX8_turns 83 = .ok (.invokestatic 54, 3) := by decide +kernel
theorem dX8_turns_86 : decode cX8_turns 86 = .ok (.iload_n 1, 1) := by decide +kernel
theorem dX8_turns_87 : decode cX8_turns 87 = .ok (.iload_n 2, 1) := by decide +kernel
theorem dX8_turns_88 : decode cX8_turns 88 = .ok (.iload 5, 2) := by decide +kernel
theorem dX8_turns_90 : decode cX8_turns 90 = .ok (.bipush 64, 2) := by decide +kernel
theorem dX8_turns_92 : decode cX8_turns 92 = .ok (.iadd, 1) := by decide +kernel
theorem dX8_turns_93 : decode cX8_turns 93 = .ok (.iload 4, 2) := by decide +kernel
theorem dX8_turns_95 : decode cX8_turns 95 = .ok (.isub, 1) := by decide +kernel
theorem dX8_turns_96 : decode cX8_turns 96 = .ok (.bipush 64, 2) := by decide +kernel
theorem dX8_turns_98 : decode cX8_turns 98 = .ok (.irem, 1) := by decide +kernel
theorem dX8_turns_99 : decode cX8_turns 99 = .ok (.invokestatic 54, 3) := by decide +kernel
theorem dX8_turns_102 : decode cX8_turns 102 = .ok (.iastore, 1) := by decide +kernel
theorem dX8_turns_103 : decode cX8_turns 103 = .ok (.iinc 5 1, 3) := by decide +kernel
theorem dX8_turns_106 : decode cX8_turns 106 = .ok (.goto (-46), 3) := by decide +kernel
theorem dX8_turns_109 : decode cX8_turns 109 = .ok (.iconst 2, 1) := by decide +kernel
theorem dX8_turns_110 : decode cX8_turns 110 = .ok (.iload_n 1, 1) := by decide +kernel
theorem dX8_turns_111 : decode cX8_turns 111 = .ok (.imul, 1) := by decide +kernel
theorem dX8_turns_112 : decode cX8_turns 112 = .ok (.iconst 3, 1) := by decide +kernel
theorem dX8_turns_113 : decode cX8_turns 113 = .ok (.iload_n 2, 1) := by decide +kernel
theorem dX8_turns_114 : decode cX8_turns 114 = .ok (.imul, 1) := by decide +kernel
theorem dX8_turns_115 : decode cX8_turns 115 = .ok (.iadd, 1) := by decide +kernel
theorem dX8_turns_116 : decode cX8_turns 116 = .ok (.iconst 5, 1) := by decide +kernel
theorem dX8_turns_117 : decode cX8_turns 117 = .ok (.irem, 1) := by decide +kernel
theorem dX8_turns_118 : decode cX8_turns 118 = .ok (.istore 5, 2) := by decide +kernel
theorem dX8_turns_120 : decode cX8_turns 120 = .ok (.iload_n 2, 1) := by decide +kernel
theorem dX8_turns_121 : decode cX8_turns 121 = .ok (.istore_n 1, 1) := by decide +kernel
theorem dX8_turns_122 : decode cX8_turns 122 = .ok (.iload 5, 2) := by decide +kernel
theorem dX8_turns_124 : decode cX8_turns 124 = .ok (.istore_n 2, 1) := by decide +kernel
theorem dX8_turns_125 : decode cX8_turns 125 = .ok (.iinc 3 1, 3) := by decide +kernel
theorem dX8_turns_128 : decode cX8_turns 128 = .ok (.goto (-91), 3) := by decide +kernel
theorem dX8_turns_131 : decode cX8_turns 131 = .ok (.return_, 1) := by decide +kernel
theorem dX8_constants_0 : decode cX8_constants 0 = .ok (.iconst 1, 1) := by decide +kernel
theorem dX8_constants_1 : decode cX8_constants 1 = .ok (.istore_n 1, 1) := by decide +kernel
theorem dX8_constants_2 : decode cX8_constants 2 = .ok (.iconst 0, 1) := by decide +kernel
theorem dX8_constants_3 : decode cX8_constants 3 = .ok (.istore_n 2, 1) := by decide +kernel
theorem dX8_constants_4 : decode cX8_constants 4 = .ok (.iload_n 2, 1) := by decide +kernel
theorem dX8_constants_5 : decode cX8_constants 5 = .ok (.sipush 168, 3) := by decide +kernel
theorem dX8_constants_8 : decode cX8_constants 8 = .ok (.if_icmp .ge 37, 3) := by decide +kernel
theorem dX8_constants_11 : decode cX8_constants 11 = .ok (.aload_n 0, 1) := by decide +kernel
theorem dX8_constants_12 : decode cX8_constants 12 = .ok (.getfield 33, 3) := by decide +kernel
theorem dX8_constants_15 : decode cX8_constants 15 = .ok (.iload_n 2, 1) := by decide +kernel
theorem dX8_constants_16 : decode cX8_constants 16 = .ok (.iload_n 1, 1) := by decide +kernel
theorem dX8_constants_17 : decode cX8_constants 17 = .ok (.iconst 1, 1) := by decide +kernel
theorem dX8_constants_18 : decode cX8_constants 18 = .ok (.iand, 1) := by decide +kernel
theorem dX8_constants_19 : decode cX8_constants 19 = .ok (.i2b, 1) := by decide +kernel
theorem dX8_constants_20 : decode cX8_constants 20 = .ok (.bastore, 1) := by decide +kernel
theorem dX8_constants_21 : decode cX8_constants 21 = .ok (.iload_n 1, 1) := by decide +kernel
theorem dX8_constants_22 : decode cX8_constants 22 = .ok (.iconst 1, 1) := by decide +kernel
theorem dX8_constants_23 : decode cX8_constants 23 = .ok (.ishl, 1) := by decide +kernel
theorem dX8_constants_24 : decode cX8_constants 24 = .ok (.istore_n 1, 1) := by decide +kernel
theorem dX8_constants_25 : decode cX8_constants 25 = .ok (.iload_n 1, 1) := by decide +kernel
theorem dX8_constants_26 : decode cX8_constants 26 = .ok (.sipush 256, 3) := by decide +kernel
theorem dX8_constants_29 : decode cX8_constants 29 = .ok (.iand, 1) := by decide +kernel
theorem dX8_constants_30 : decode cX8_constants 30 = .ok (.ifCond .eq 9, 3) := by decide +kernel
theorem dX8_constants_33 : decode cX8_constants 33 = .ok (.iload_n 1, 1) := by decide +kernel
theorem dX8_constants_34 : decode cX8_constants 34 = .ok (.sipush 369, 3) := by decide +kernel
theorem dX8_constants_37 : decode cX8_constants 37 = .ok (.ixor, 1) := by decide +kernel
theorem dX8_constants_38 : decode cX8_constants 38 = .ok (.istore_n 1, 1) := by decide +kernel
theorem dX8_constants_39 : decode cX8_constants 39 = .ok (.iinc 2 1, 3) := by decide +kernel
theorem dX8_constants_42 : decode cX8_constants 42 = .ok (.goto (-38), 3) := by decide +kernel
theorem dX8_constants_45 : decode cX8_constants 45 = .ok (.return_, 1) := by decide +kernel
theorem dX8_theta_0 : decode cX8_theta 0 = .ok (.iconst 0, 1) := by decide +kernel
theorem dX8_theta_1 : decode cX8_theta 1 = .ok (.istore_n 1, 1) := by decide +kernel
theorem dX8_theta_2 : decode cX8_theta 2 = .ok (.iload_n 1, 1) := by decide +kernel
theorem dX8_theta_3 : decode cX8_theta 3 = .ok (.sipush 320, 3) := by decide +kernel
theorem dX8_theta_6 : decode cX8_theta 6 = .ok (.if_icmp .ge 47, 3) := by decide +kernel
theorem dX8_theta_9 : decode cX8_theta 9 = .ok (.iconst 0, 1) := by decide +kernel
theorem dX8_theta_10 : decode cX8_theta 10 = .ok (.istore_n 2, 1) := by decide +kernel
theorem dX8_theta_11 : decode cX8_theta 11 = .ok (.iconst 0, 1) := by decide +kernel
theorem dX8_theta_12 : decode cX8_theta 12 = .ok (.istore_n 3, 1) := by decide +kernel
theorem dX8_theta_13 : decode cX8_theta 13 = .ok (.iload_n 3, 1) := by decide +kernel
theorem dX8_theta_14 : decode cX8_theta 14 = .ok (.iconst 5, 1) := by decide +kernel
theorem dX8_theta_15 : decode cX8_theta 15 = .ok (.if_icmp .ge 24, 3) := by decide +kernel
theorem dX8_theta_18 : decode cX8_theta 18 = .ok (.iload_n 2, 1) := by decide +kernel
theorem dX8_theta_19 : decode cX8_theta 19 = .ok (.aload_n 0, 1) := by decide +kernel
theorem dX8_theta_20 : decode cX8_theta 20 = .ok (.getfield 20, 3) := by decide +kernel
theorem dX8_theta_23 : decode cX8_theta 23 = .ok (.sipush 320, 3) := by decide +kernel
theorem dX8_theta_26 : decode cX8_theta 26 = .ok (.iload_n 3, 1) := by decide +kernel
theorem dX8_theta_27 : decode cX8_theta 27 = .ok (.imul, 1) := by decide +kernel
theorem dX8_theta_28 : decode cX8_theta 28 = .ok (.iload_n 1, 1) := by decide +kernel
theorem dX8_theta_29 : decode cX8_theta 29 = .ok (.iadd, 1) := by decide +kernel
theorem dX8_theta_30 : decode cX8_theta 30 = .ok (.baload, 1) := by decide +kernel
theorem dX8_theta_31 : decode cX8_theta 31 = .ok (.ixor, 1) := by decide +kernel
theorem dX8_theta_32 : decode cX8_theta 32 = .ok (.istore_n 2, 1) := by decide +kernel
theorem dX8_theta_33 : decode cX8_theta 33 = .ok (.iinc 3 1, 3) := by decide +kernel
theorem dX8_theta_36 : decode cX8_theta 36 = .ok (.goto (-23), 3) := by decide +kernel
theorem dX8_theta_39 : decode cX8_theta 39 = .ok (.aload_n 0, 1) := by decide +kernel
theorem dX8_theta_40 : decode cX8_theta 40 = .ok (.getfield 26, 3) := by decide +kernel
theorem dX8_theta_43 : decode cX8_theta 43 = .ok (.iload_n 1, 1) := by decide +kernel
theorem dX8_theta_44 : decode cX8_theta 44 = .ok (.iload_n 2, 1) := by decide +kernel
theorem dX8_theta_45 : decode cX8_theta 45 = .ok (.i2b, 1) := by decide +kernel
theorem dX8_theta_46 : decode cX8_theta 46 = .ok (.bastore, 1) := by decide +kernel
theorem dX8_theta_47 : decode cX8_theta 47 = .ok (.iinc 1 1, 3) := by decide +kernel
theorem dX8_theta_50 : decode cX8_theta 50 = .ok (.goto (-48), 3) := by decide +kernel
theorem dX8_theta_53 : decode cX8_theta 53 = .ok (.iconst 0, 1) := by decide +kernel
theorem dX8_theta_54 : decode cX8_theta 54 = .ok (.istore_n 1, 1) := by decide +kernel
theorem dX8_theta_55 : decode cX8_theta 55 = .ok (.iload_n 1, 1) := by decide +kernel
theorem dX8_theta_56 : decode cX8_theta 56 = .ok (.iconst 5, 1) := by decide +kernel
theorem dX8_theta_57 : decode cX8_theta 57 = .ok (.if_icmp .ge 93, 3) := by decide +kernel
theorem dX8_theta_60 : decode cX8_theta 60 = .ok (.iconst 0, 1) := by decide +kernel
theorem dX8_theta_61 : decode cX8_theta 61 = .ok (.istore_n 2, 1) := by decide +kernel
theorem dX8_theta_62 : decode cX8_theta 62 = .ok (.iload_n 2, 1) := by decide +kernel
theorem dX8_theta_63 : decode cX8_theta 63 = .ok (.iconst 5, 1) := by decide +kernel
theorem dX8_theta_64 : decode cX8_theta 64 = .ok (.if_icmp .ge 80, 3) := by decide +kernel
theorem dX8_theta_67 : decode cX8_theta 67 = .ok (.iconst 0, 1) := by decide +kernel
theorem dX8_theta_68 : decode cX8_theta 68 = .ok (.istore_n 3, 1) := by decide +kernel
theorem dX8_theta_69 : decode cX8_theta 69 = .ok (.iload_n 3, 1) := by decide +kernel
theorem dX8_theta_70 : decode cX8_theta 70 = .ok (.bipush 64, 2) := by decide +kernel
theorem dX8_theta_72 : decode cX8_theta 72 = .ok (.if_icmp .ge 66, 3) := by decide +kernel
theorem dX8_theta_75 : decode cX8_theta 75 = .ok (.aload_n 0, 1) := by decide +kernel
theorem dX8_theta_76 : decode cX8_theta 76 = .ok (.getfield 26, 3) := by decide +kernel
theorem dX8_theta_79 : decode cX8_theta 79 = .ok (.bipush 64, 2) := by decide +kernel
theorem dX8_theta_81 : decode cX8_theta 81 = .ok (.iload_n 2, 1) := by decide +kernel
theorem dX8_theta_82 : decode cX8_theta 82 = .ok (.iconst 4, 1) := by decide +kernel
theorem dX8_theta_83 : decode cX8_theta 83 = .ok (.iadd, 1) := by decide +kernel
theorem dX8_theta_84 : decode cX8_theta 84 = .ok (.iconst 5, 1) := by decide +kernel
theorem dX8_theta_85 : decode cX8_theta 85 = .ok (.irem, 1) := by decide +kernel
theorem dX8_theta_86 : decode cX8_theta 86 = .ok (.imul, 1) := by decide +kernel
theorem dX8_theta_87 : decode cX8_theta 87 = .ok (.iload_n 3, 1) := by decide +kernel
theorem dX8_theta_88 : decode cX8_theta 88 = .ok (.iadd, 1) := by decide +kernel
theorem dX8_theta_89 : decode cX8_theta 89 = .ok (.baload, 1) := by decide +kernel
theorem dX8_theta_90 : decode cX8_theta 90 = .ok (.aload_n 0, 1) := by decide +kernel
theorem dX8_theta_91 : decode cX8_theta 91 = .ok (.getfield 26, 3) := by decide +kernel
theorem dX8_theta_94 : decode cX8_theta 94 = .ok (.bipush 64, 2) := by decide +kernel
theorem dX8_theta_96 : decode cX8_theta 96 = .ok (.iload_n 2, 1) := by decide +kernel
theorem dX8_theta_97 : decode cX8_theta 97 = .ok (.iconst 1, 1) := by decide +kernel
theorem dX8_theta_98 : decode cX8_theta 98 = .ok (.iadd, 1) := by decide +kernel
theorem dX8_theta_99 : decode cX8_theta 99 = .ok (.iconst 5, 1) := by decide +kernel
theorem dX8_theta_100 : decode cX8_theta 100 = .ok (.irem, 1) := by decide +kernel
theorem dX8_theta_101 : decode cX8_theta 101 = .ok (.imul, 1) := by decide +kernel
theorem dX8_theta_102 : decode cX8_theta 102 = .ok (.iload_n 3, 1) := by decide +kernel
theorem dX8_theta_103 : decode cX8_theta 103 = .ok (.bipush 63, 2) := by decide +kernel
theorem dX8_theta_105 : decode cX8_theta 105 = .ok (.iadd, 1) := by decide +kernel
theorem dX8_theta_106 : decode cX8_theta 106 = .ok (.bipush 64, 2) := by decide +kernel
theorem dX8_theta_108 : decode cX8_theta 108 = .ok (.irem, 1) := by decide +kernel
theorem dX8_theta_109 : decode cX8_theta 109 = .ok (.iadd, 1) := by decide +kernel
theorem dX8_theta_110 : decode cX8_theta 110 = .ok (.baload, 1) := by decide +kernel
theorem dX8_theta_111 : decode cX8_theta 111 = .ok (.ixor, 1) := by decide +kernel
theorem dX8_theta_112 : decode cX8_theta 112 = .ok (.istore 4, 2) := by decide +kernel
theorem dX8_theta_114 : decode cX8_theta 114 = .ok (.aload_n 0, 1) := by decide +kernel
theorem dX8_theta_115 : decode cX8_theta 115 = .ok (.getfield 20, 3) := by decide +kernel
theorem dX8_theta_118 : decode cX8_theta 118 = .ok (.iload_n 2, 1) := by decide +kernel
theorem dX8_theta_119 : decode cX8_theta 119 = .ok (.iload_n 1, 1) := by decide +kernel
theorem dX8_theta_120 : decode cX8_theta 120 = .ok (.iload_n 3, 1) := by decide +kernel
theorem dX8_theta_121 : decode cX8_theta 121 = .ok (.invokestatic 54, 3) := by decide +kernel
theorem dX8_theta_124 : decode cX8_theta 124 = .ok (.dup2, 1) := by decide +kernel
theorem dX8_theta_125 : decode cX8_theta 125 = .ok (.baload, 1) := by decide +kernel
theorem dX8_theta_126 : decode cX8_theta 126 = .ok (.iload 4, 2) := by decide +kernel
theorem dX8_theta_128 : decode cX8_theta 128 = .ok (.i2b, 1) := by decide +kernel
theorem dX8_theta_129 : decode cX8_theta 129 = .ok (.ixor, 1) := by decide +kernel
theorem dX8_theta_130 : decode cX8_theta 130 = .ok (.i2b, 1) := by decide +kernel
theorem dX8_theta_131 : decode cX8_theta 131 = .ok (.bastore, 1) := by decide +kernel
theorem dX8_theta_132 : decode cX8_theta 132 = .ok (.iinc 3 1, 3) := by decide +kernel
theorem dX8_theta_135 : decode cX8_theta 135 = .ok (.goto (-66), 3) := by decide +kernel
theorem dX8_theta_138 : decode cX8_theta 138 = .ok (.iinc 2 1, 3) := by decide +kernel
theorem dX8_theta_141 : decode cX8_theta 141 = .ok (.goto (-79), 3) := by decide +kernel
theorem dX8_theta_144 : decode cX8_theta 144 = .ok (.iinc 1 1, 3) := by decide +kernel
theorem dX8_theta_147 : decode cX8_theta 147 = .ok (.goto (-92), 3) := by decide +kernel
theorem dX8_theta_150 : decode cX8_theta 150 = .ok (.return_, 1) := by decide +kernel
theorem dX8_round_0 : decode cX8_round 0 = .ok (.aload_n 0, 1) := by decide +kernel
theorem dX8_round_1 : decode cX8_round 1 = .ok (.invokevirtual 58, 3) := by decide +kernel
theorem dX8_round_4 : decode cX8_round 4 = .ok (.iconst 0, 1) := by decide +kernel
theorem dX8_round_5 : decode cX8_round 5 = .ok (.istore_n 2, 1) := by decide +kernel
theorem dX8_round_6 : decode cX8_round 6 = .ok (.iload_n 2, 1) := by decide +kernel
theorem dX8_round_7 : decode cX8_round 7 = .ok (.sipush 1600, 3) := by decide +kernel
theorem dX8_round_10 : decode cX8_round 10 = .ok (.if_icmp .ge 26, 3) := by decide +kernel
theorem dX8_round_13 : decode cX8_round 13 = .ok (.aload_n 0, 1) := by decide +kernel
theorem dX8_round_14 : decode cX8_round 14 = .ok (.getfield 23, 3) := by decide +kernel
theorem dX8_round_17 : decode cX8_round 17 = .ok (.iload_n 2, 1) := by decide +kernel
theorem dX8_round_18 : decode cX8_round 18 = .ok (.aload_n 0, 1) := by decide +kernel
theorem dX8_round_19 : decode cX8_round 19 = .ok (.getfield 20, 3) := by decide +kernel
theorem dX8_round_22 : decode cX8_round 22 = .ok (.aload_n 0, 1) := by decide +kernel
theorem dX8_round_23 : decode cX8_round 23 = .ok (.getfield 29, 3) := by decide +kernel
theorem dX8_round_26 : decode cX8_round 26 = .ok (.iload_n 2, 1) := by decide +kernel
theorem dX8_round_27 : decode cX8_round 27 = .ok (.iaload, 1) := by decide +kernel
theorem dX8_round_28 : decode cX8_round 28 = .ok (.baload, 1) := by decide +kernel
theorem dX8_round_29 : decode cX8_round 29 = .ok (.bastore, 1) := by decide +kernel
theorem dX8_round_30 : decode cX8_round 30 = .ok (.iinc 2 1, 3) := by decide +kernel
theorem dX8_round_33 : decode cX8_round 33 = .ok (.goto (-27), 3) := by decide +kernel
theorem dX8_round_36 : decode cX8_round 36 = .ok (.iconst 0, 1) := by decide +kernel
theorem dX8_round_37 : decode cX8_round 37 = .ok (.istore_n 2, 1) := by decide +kernel
theorem dX8_round_38 : decode cX8_round 38 = .ok (.iload_n 2, 1) := by decide +kernel
theorem dX8_round_39 : decode cX8_round 39 = .ok (.iconst 5, 1) := by decide +kernel
theorem dX8_round_40 : decode cX8_round 40 = .ok (.if_icmp .ge 103, 3) := by decide +kernel
theorem dX8_round_43 : decode cX8_round 43 = .ok (.iconst 0, 1) := by decide +kernel
theorem dX8_round_44 : decode cX8_round 44 = .ok (.istore_n 3, 1) := by decide +kernel
theorem dX8_round_45 : decode cX8_round 45 = .ok (.iload_n 3, 1) := by decide +kernel
theorem dX8_round_46 : decode cX8_round 46 = .ok (.iconst 5, 1) := by decide +kernel
theorem dX8_round_47 : decode cX8_round 47 = .ok (.if_icmp .ge 90, 3) := by decide +kernel
theorem dX8_round_50 : decode cX8_round 50 = .ok (.iconst 0, 1) := by decide +kernel
theorem dX8_round_51 : decode cX8_round 51 = .ok (.istore 4, 2) := by decide +kernel
theorem dX8_round_53 : decode cX8_round 53 = .ok (.iload 4, 2) := by decide +kernel
theorem dX8_round_55 : decode cX8_round 55 = .ok (.bipush 64, 2) := by decide +kernel
theorem dX8_round_57 : decode cX8_round 57 = .ok (.if_icmp .ge 74, 3) := by decide +kernel
theorem dX8_round_60 : decode cX8_round 60 = .ok (.aload_n 0, 1) := by decide +kernel
theorem dX8_round_61 : decode cX8_round 61 = .ok (.getfield 23, 3) := by decide +kernel
theorem dX8_round_64 : decode cX8_round 64 = .ok (.iload_n 3, 1) := by decide +kernel
theorem dX8_round_65 : decode cX8_round 65 = .ok (.iconst 1, 1) := by decide +kernel
theorem dX8_round_66 : decode cX8_round 66 = .ok (.iadd, 1) := by decide +kernel
theorem dX8_round_67 : decode cX8_round 67 = .ok (.iconst 5, 1) := by decide +kernel
theorem dX8_round_68 : decode cX8_round 68 = .ok (.irem, 1) := by decide +kernel
theorem dX8_round_69 : decode cX8_round 69 = .ok (.iload_n 2, 1) := by decide +kernel
theorem dX8_round_70 : decode cX8_round 70 = .ok (.iload 4, 2) := by decide +kernel
theorem dX8_round_72 : decode cX8_round 72 = .ok (.invokestatic 54, 3) := by decide +kernel
theorem dX8_round_75 : decode cX8_round 75 = .ok (.baload, 1) := by decide +kernel
theorem dX8_round_76 : decode cX8_round 76 = .ok (.iconst 1, 1) := by decide +kernel
theorem dX8_round_77 : decode cX8_round 77 = .ok (.ixor, 1) := by decide +kernel
theorem dX8_round_78 : decode cX8_round 78 = .ok (.istore 5, 2) := by decide +kernel
theorem dX8_round_80 : decode cX8_round 80 = .ok (.aload_n 0, 1) := by decide +kernel
theorem dX8_round_81 : decode cX8_round 81 = .ok (.getfield 20, 3) := by decide +kernel
theorem dX8_round_84 : decode cX8_round 84 = .ok (.iload_n 3, 1) := by decide +kernel
theorem dX8_round_85 : decode cX8_round 85 = .ok (.iload_n 2, 1) := by decide +kernel
theorem dX8_round_86 : decode cX8_round 86 = .ok (.iload 4, 2) := by decide +kernel
theorem dX8_round_88 : decode cX8_round 88 = .ok (.invokestatic 54, 3) := by decide +kernel
theorem dX8_round_91 : decode cX8_round 91 = .ok (.aload_n 0, 1) := by decide +kernel
theorem dX8_round_92 : decode cX8_round 92 = .ok (.getfield 23, 3) := by decide +kernel
theorem dX8_round_95 : decode cX8_round 95 = .ok (.iload_n 3, 1) := by decide +kernel
theorem dX8_round_96 : decode cX8_round 96 = .ok (.iload_n 2, 1) := by decide +kernel
theorem dX8_round_97 : decode cX8_round 97 = .ok (.iload 4, 2) := by decide +kernel
theorem dX8_round_99 : decode cX8_round 99 = .ok (.invokestatic 54, 3) := by decide +kernel
theorem dX8_round_102 : decode cX8_round 102 = .ok (.baload, 1) := by decide +kernel
theorem dX8_round_103 : decode cX8_round 103 = .ok (.iload 5, 2) := by decide +kernel
theorem dX8_round_105 : decode cX8_round 105 = .ok (.aload_n 0, 1) := by decide +kernel
theorem dX8_round_106 : decode cX8_round 106 = .ok (.getfield 23, 3) := by decide +kernel
theorem dX8_round_109 : decode cX8_round 109 = .ok (.iload_n 3, 1) := by decide +kernel
theorem dX8_round_110 : decode cX8_round 110 = .ok (.iconst 2, 1) := by decide +kernel
theorem dX8_round_111 : decode cX8_round 111 = .ok (.iadd, 1) := by decide +kernel
theorem dX8_round_112 : decode cX8_round 112 = .ok (.iconst 5, 1) := by decide +kernel
theorem dX8_round_113 : decode cX8_round 113 = .ok (.irem, 1) := by decide +kernel
theorem dX8_round_114 : decode cX8_round 114 = .ok (.iload_n 2, 1) := by decide +kernel
theorem dX8_round_115 : decode cX8_round 115 = .ok (.iload 4, 2) := by decide +kernel
theorem dX8_round_117 : decode cX8_round 117 = .ok (.invokestatic 54, 3) := by decide +kernel
theorem dX8_round_120 : decode cX8_round 120 = .ok (.baload, 1) := by decide +kernel
theorem dX8_round_121 : decode cX8_round 121 = .ok (.iand, 1) := by decide +kernel
theorem dX8_round_122 : decode cX8_round 122 = .ok (.ixor, 1) := by decide +kernel
theorem dX8_round_123 : decode cX8_round 123 = .ok (.i2b, 1) := by decide +kernel
theorem dX8_round_124 : decode cX8_round 124 = .ok (.bastore, 1) := by decide +kernel
theorem dX8_round_125 : decode cX8_round 125 = .ok (.iinc 4 1, 3) := by decide +kernel
theorem dX8_round_128 : decode cX8_round 128 = .ok (.goto (-75), 3) := by decide +kernel
theorem dX8_round_131 : decode cX8_round 131 = .ok (.iinc 3 1, 3) := by decide +kernel
theorem dX8_round_134 : decode cX8_round 134 = .ok (.goto (-89), 3) := by decide +kernel
theorem dX8_round_137 : decode cX8_round 137 = .ok (.iinc 2 1, 3) := by decide +kernel
theorem dX8_round_140 : decode cX8_round 140 = .ok (.goto (-102), 3) := by decide +kernel
theorem dX8_round_143 : decode cX8_round 143 = .ok (.iconst 0, 1) := by decide +kernel
theorem dX8_round_144 : decode cX8_round 144 = .ok (.istore_n 2, 1) := by decide +kernel
theorem dX8_round_145 : decode cX8_round 145 = .ok (.iload_n 2, 1) := by decide +kernel
theorem dX8_round_146 : decode cX8_round 146 = .ok (.bipush 7, 2) := by decide +kernel
theorem dX8_round_148 : decode cX8_round 148 = .ok (.if_icmp .ge 34, 3) := by decide +kernel
theorem dX8_round_151 : decode cX8_round 151 = .ok (.aload_n 0, 1) := by decide +kernel
theorem dX8_round_152 : decode cX8_round 152 = .ok (.getfield 20, 3) := by decide +kernel
theorem dX8_round_155 : decode cX8_round 155 = .ok (.iconst 1, 1) := by decide +kernel
theorem dX8_round_156 : decode cX8_round 156 = .ok (.iload_n 2, 1) := by decide +kernel
theorem dX8_round_157 : decode cX8_round 157 = .ok (.ishl, 1) := by decide +kernel
theorem dX8_round_158 : decode cX8_round 158 = .ok (.iconst 1, 1) := by decide +kernel
theorem dX8_round_159 : decode cX8_round 159 = .ok (.isub, 1) := by decide +kernel
theorem dX8_round_160 : decode cX8_round 160 = .ok (.dup2, 1) := by decide +kernel
theorem dX8_round_161 : decode cX8_round 161 = .ok (.baload, 1) := by decide +kernel
theorem dX8_round_162 : decode cX8_round 162 = .ok (.aload_n 0, 1) := by decide +kernel
theorem dX8_round_163 : decode cX8_round 163 = .ok (.getfield 33, 3) := by decide +kernel
theorem dX8_round_166 : decode cX8_round 166 = .ok (.bipush 7, 2) := by decide +kernel
theorem dX8_round_168 : decode cX8_round 168 = .ok (.iload_n 1, 1) := by decide +kernel
theorem dX8_round_169 : decode cX8_round 169 = .ok (.imul, 1) := by decide +kernel
theorem dX8_round_170 : decode cX8_round 170 = .ok (.iload_n 2, 1) := by decide +kernel
theorem dX8_round_171 : decode cX8_round 171 = .ok (.iadd, 1) := by decide +kernel
theorem dX8_round_172 : decode cX8_round 172 = .ok (.baload, 1) := by decide +kernel
theorem dX8_round_173 : decode cX8_round 173 = .ok (.ixor, 1) := by decide +kernel
theorem dX8_round_174 : decode cX8_round 174 = .ok (.i2b, 1) := by decide +kernel
theorem dX8_round_175 : decode cX8_round 175 = .ok (.bastore, 1) := by decide +kernel
theorem dX8_round_176 : decode cX8_round 176 = .ok (.iinc 2 1, 3) := by decide +kernel
theorem dX8_round_179 : decode cX8_round 179 = .ok (.goto (-34), 3) := by decide +kernel
theorem dX8_round_182 : decode cX8_round 182 = .ok (.return_, 1) := by decide +kernel
theorem dX8_rounds_0 : decode cX8_rounds 0 = .ok (.iconst 0, 1) := by decide +kernel
theorem dX8_rounds_1 : decode cX8_rounds 1 = .ok (.istore_n 1, 1) := by decide +kernel
theorem dX8_rounds_2 : decode cX8_rounds 2 = .ok (.iload_n 1, 1) := by decide +kernel
theorem dX8_rounds_3 : decode cX8_rounds 3 = .ok (.bipush 24, 2) := by decide +kernel
theorem dX8_rounds_5 : decode cX8_rounds 5 = .ok (.if_icmp .ge 14, 3) := by decide +kernel
theorem dX8_rounds_8 : decode cX8_rounds 8 = .ok (.aload_n 0, 1) := by decide +kernel
theorem dX8_rounds_9 : decode cX8_rounds 9 = .ok (.iload_n 1, 1) := by decide +kernel
theorem dX8_rounds_10 : decode cX8_rounds 10 = .ok (.invokevirtual 61, 3) := by decide +kernel
theorem dX8_rounds_13 : decode cX8_rounds 13 = .ok (.iinc 1 1, 3) := by decide +kernel
theorem dX8_rounds_16 : decode cX8_rounds 16 = .ok (.goto (-14), 3) := by decide +kernel
theorem dX8_rounds_19 : decode cX8_rounds 19 = .ok (.return_, 1) := by decide +kernel
theorem dX8_takes_0 : decode cX8_takes 0 = .ok (.aload_n 0, 1) := by decide +kernel
theorem dX8_takes_1 : decode cX8_takes 1 = .ok (.getfield 20, 3) := by decide +kernel
theorem dX8_takes_4 : decode cX8_takes 4 = .ok (.aload_n 0, 1) := by decide +kernel
theorem dX8_takes_5 : decode cX8_takes 5 = .ok (.getfield 65, 3) := by decide +kernel
theorem dX8_takes_8 : decode cX8_takes 8 = .ok (.dup2, 1) := by decide +kernel
theorem dX8_takes_9 : decode cX8_takes 9 = .ok (.baload, 1) := by decide +kernel
theorem dX8_takes_10 : decode cX8_takes 10 = .ok (.iload_n 1, 1) := by decide +kernel
theorem dX8_takes_11 : decode cX8_takes 11 = .ok (.i2b, 1) := by decide +kernel
theorem dX8_takes_12 : decode cX8_takes 12 = .ok (.ixor, 1) := by decide +kernel
theorem dX8_takes_13 : decode cX8_takes 13 = .ok (.i2b, 1) := by decide +kernel
theorem dX8_takes_14 : decode cX8_takes 14 = .ok (.bastore, 1) := by decide +kernel
theorem dX8_takes_15 : decode cX8_takes 15 = .ok (.aload_n 0, 1) := by decide +kernel
theorem dX8_takes_16 : decode cX8_takes 16 = .ok (.dup, 1) := by decide +kernel
theorem dX8_takes_17 : decode cX8_takes 17 = .ok (.getfield 65, 3) := by decide +kernel
theorem dX8_takes_20 : decode cX8_takes 20 = .ok (.iconst 1, 1) := by decide +kernel
theorem dX8_takes_21 : decode cX8_takes 21 = .ok (.iadd, 1) := by decide +kernel
theorem dX8_takes_22 : decode cX8_takes 22 = .ok (.putfield 65, 3) := by decide +kernel
theorem dX8_takes_25 : decode cX8_takes 25 = .ok (.aload_n 0, 1) := by decide +kernel
theorem dX8_takes_26 : decode cX8_takes 26 = .ok (.getfield 65, 3) := by decide +kernel
theorem dX8_takes_29 : decode cX8_takes 29 = .ok (.aload_n 0, 1) := by decide +kernel
theorem dX8_takes_30 : decode cX8_takes 30 = .ok (.getfield 68, 3) := by decide +kernel
theorem dX8_takes_33 : decode cX8_takes 33 = .ok (.if_icmp .ne 12, 3) := by decide +kernel
theorem dX8_takes_36 : decode cX8_takes 36 = .ok (.aload_n 0, 1) := by decide +kernel
theorem dX8_takes_37 : decode cX8_takes 37 = .ok (.invokevirtual 71, 3) := by decide +kernel
theorem dX8_takes_40 : decode cX8_takes 40 = .ok (.aload_n 0, 1) := by decide +kernel
theorem dX8_takes_41 : decode cX8_takes 41 = .ok (.iconst 0, 1) := by decide +kernel
theorem dX8_takes_42 : decode cX8_takes 42 = .ok (.putfield 65, 3) := by decide +kernel
theorem dX8_takes_45 : decode cX8_takes 45 = .ok (.return_, 1) := by decide +kernel
theorem dX8_absorb_0 : decode cX8_absorb 0 = .ok (.aload_n 0, 1) := by decide +kernel
theorem dX8_absorb_1 : decode cX8_absorb 1 = .ok (.bipush 8, 2) := by decide +kernel
theorem dX8_absorb_3 : decode cX8_absorb 3 = .ok (.iload_n 1, 1) := by decide +kernel
theorem dX8_absorb_4 : decode cX8_absorb 4 = .ok (.imul, 1) := by decide +kernel
theorem dX8_absorb_5 : decode cX8_absorb 5 = .ok (.putfield 68, 3) := by decide +kernel
theorem dX8_absorb_8 : decode cX8_absorb 8 = .ok (.aload_n 0, 1) := by decide +kernel
theorem dX8_absorb_9 : decode cX8_absorb 9 = .ok (.iconst 0, 1) := by decide +kernel
theorem dX8_absorb_10 : decode cX8_absorb 10 = .ok (.putfield 65, 3) := by decide +kernel
theorem dX8_absorb_13 : decode cX8_absorb 13 = .ok (.iconst 0, 1) := by decide +kernel
theorem dX8_absorb_14 : decode cX8_absorb 14 = .ok (.istore 5, 2) := by decide +kernel
theorem dX8_absorb_16 : decode cX8_absorb 16 = .ok (.iload 5, 2) := by decide +kernel
theorem dX8_absorb_18 : decode cX8_absorb 18 = .ok (.sipush 1600, 3) := by decide +kernel
theorem dX8_absorb_21 : decode cX8_absorb 21 = .ok (.if_icmp .ge 17, 3) := by decide +kernel
theorem dX8_absorb_24 : decode cX8_absorb 24 = .ok (.aload_n 0, 1) := by decide +kernel
theorem dX8_absorb_25 : decode cX8_absorb 25 = .ok (.getfield 20, 3) := by decide +kernel
theorem dX8_absorb_28 : decode cX8_absorb 28 = .ok (.iload 5, 2) := by decide +kernel
theorem dX8_absorb_30 : decode cX8_absorb 30 = .ok (.iconst 0, 1) := by decide +kernel
theorem dX8_absorb_31 : decode cX8_absorb 31 = .ok (.bastore, 1) := by decide +kernel
theorem dX8_absorb_32 : decode cX8_absorb 32 = .ok (.iinc 5 1, 3) := by decide +kernel
theorem dX8_absorb_35 : decode cX8_absorb 35 = .ok (.goto (-19), 3) := by decide +kernel
theorem dX8_absorb_38 : decode cX8_absorb 38 = .ok (.iconst 0, 1) := by decide +kernel
theorem dX8_absorb_39 : decode cX8_absorb 39 = .ok (.istore 5, 2) := by decide +kernel
theorem dX8_absorb_41 : decode cX8_absorb 41 = .ok (.iload 5, 2) := by decide +kernel
theorem dX8_absorb_43 : decode cX8_absorb 43 = .ok (.iload_n 3, 1) := by decide +kernel
theorem dX8_absorb_44 : decode cX8_absorb 44 = .ok (.if_icmp .ge 42, 3) := by decide +kernel
theorem dX8_absorb_47 : decode cX8_absorb 47 = .ok (.iconst 0, 1) := by decide +kernel
theorem dX8_absorb_48 : decode cX8_absorb 48 = .ok (.istore 6, 2) := by decide +kernel
theorem dX8_absorb_50 : decode cX8_absorb 50 = .ok (.iload 6, 2) := by decide +kernel
theorem dX8_absorb_52 : decode cX8_absorb 52 = .ok (.bipush 8, 2) := by decide +kernel
theorem dX8_absorb_54 : decode cX8_absorb 54 = .ok (.if_icmp .ge 26, 3) := by decide +kernel
theorem dX8_absorb_57 : decode cX8_absorb 57 = .ok (.aload_n 0, 1) := by decide +kernel
theorem dX8_absorb_58 : decode cX8_absorb 58 = .ok (.aload_n 0, 1) := by decide +kernel
theorem dX8_absorb_59 : decode cX8_absorb 59 = .ok (.iload_n 2, 1) := by decide +kernel
theorem dX8_absorb_60 : decode cX8_absorb 60 = .ok (.iload 5, 2) := by decide +kernel
theorem dX8_absorb_62 : decode cX8_absorb 62 = .ok (.iadd, 1) := by decide +kernel
theorem dX8_absorb_63 : decode cX8_absorb 63 = .ok (.invokevirtual 74, 3) := by decide +kernel
theorem dX8_absorb_66 : decode cX8_absorb 66 = .ok (.iload 6, 2) := by decide +kernel
theorem dX8_absorb_68 : decode cX8_absorb 68 = .ok (.ishr, 1) := by decide +kernel
theorem dX8_absorb_69 : decode cX8_absorb 69 = .ok (.iconst 1, 1) := by decide +kernel
theorem dX8_absorb_70 : decode cX8_absorb 70 = .ok (.iand, 1) := by decide +kernel
theorem dX8_absorb_71 : decode cX8_absorb 71 = .ok (.invokevirtual 78, 3) := by decide +kernel
theorem dX8_absorb_74 : decode cX8_absorb 74 = .ok (.iinc 6 1, 3) := by decide +kernel
theorem dX8_absorb_77 : decode cX8_absorb 77 = .ok (.goto (-27), 3) := by decide +kernel
theorem dX8_absorb_80 : decode cX8_absorb 80 = .ok (.iinc 5 1, 3) := by decide +kernel
theorem dX8_absorb_83 : decode cX8_absorb 83 = .ok (.goto (-42), 3) := by decide +kernel
theorem dX8_absorb_86 : decode cX8_absorb 86 = .ok (.iload 4, 2) := by decide +kernel
theorem dX8_absorb_88 : decode cX8_absorb 88 = .ok (.ifCond .eq 16, 3) := by decide +kernel
theorem dX8_absorb_91 : decode cX8_absorb 91 = .ok (.aload_n 0, 1) := by decide +kernel
theorem dX8_absorb_92 : decode cX8_absorb 92 = .ok (.iconst 0, 1) := by decide +kernel
theorem dX8_absorb_93 : decode cX8_absorb 93 = .ok (.invokevirtual 78, 3) := by decide +kernel
theorem dX8_absorb_96 : decode cX8_absorb 96 = .ok (.aload_n 0, 1) := by decide +kernel
theorem dX8_absorb_97 : decode cX8_absorb 97 = .ok (.iconst 1, 1) := by decide +kernel
theorem dX8_absorb_98 : decode cX8_absorb 98 = .ok (.invokevirtual 78, 3) := by decide +kernel
theorem dX8_absorb_101 : decode cX8_absorb 101 = .ok (.goto 23, 3) := by decide +kernel
theorem dX8_absorb_104 : decode cX8_absorb 104 = .ok (.iconst 0, 1) := by decide +kernel
theorem dX8_absorb_105 : decode cX8_absorb 105 = .ok (.istore 5, 2) := by decide +kernel
theorem dX8_absorb_107 : decode cX8_absorb 107 = .ok (.iload 5, 2) := by decide +kernel
theorem dX8_absorb_109 : decode cX8_absorb 109 = .ok (.iconst 4, 1) := by decide +kernel
theorem dX8_absorb_110 : decode cX8_absorb 110 = .ok (.if_icmp .ge 14, 3) := by decide +kernel
theorem dX8_absorb_113 : decode cX8_absorb 113 = .ok (.aload_n 0, 1) := by decide +kernel
theorem dX8_absorb_114 : decode cX8_absorb 114 = .ok (.iconst 1, 1) := by decide +kernel
theorem dX8_absorb_115 : decode cX8_absorb 115 = .ok (.invokevirtual 78, 3) := by decide +kernel
theorem dX8_absorb_118 : decode cX8_absorb 118 = .ok (.iinc 5 1, 3) := by decide +kernel
theorem dX8_absorb_121 : decode cX8_absorb 121 = .ok (.goto (-14), 3) := by decide +kernel
theorem dX8_absorb_124 : decode cX8_absorb 124 = .ok (.aload_n 0, 1) := by decide +kernel
theorem dX8_absorb_125 : decode cX8_absorb 125 = .ok (.iconst 1, 1) := by decide +kernel
theorem dX8_absorb_126 : decode cX8_absorb 126 = .ok (.invokevirtual 78, 3) := by decide +kernel
theorem dX8_absorb_129 : decode cX8_absorb 129 = .ok (.aload_n 0, 1) := by decide +kernel
theorem dX8_absorb_130 : decode cX8_absorb 130 = .ok (.getfield 20, 3) := by decide +kernel
theorem dX8_absorb_133 : decode cX8_absorb 133 = .ok (.aload_n 0, 1) := by decide +kernel
theorem dX8_absorb_134 : decode cX8_absorb 134 = .ok (.getfield 68, 3) := by decide +kernel
theorem dX8_absorb_137 : decode cX8_absorb 137 = .ok (.iconst 1, 1) := by decide +kernel
theorem dX8_absorb_138 : decode cX8_absorb 138 = .ok (.isub, 1) := by decide +kernel
theorem dX8_absorb_139 : decode cX8_absorb 139 = .ok (.dup2, 1) := by decide +kernel
theorem dX8_absorb_140 : decode cX8_absorb 140 = .ok (.baload, 1) := by decide +kernel
theorem dX8_absorb_141 : decode cX8_absorb 141 = .ok (.iconst 1, 1) := by decide +kernel
theorem dX8_absorb_142 : decode cX8_absorb 142 = .ok (.ixor, 1) := by decide +kernel
theorem dX8_absorb_143 : decode cX8_absorb 143 = .ok (.i2b, 1) := by decide +kernel
theorem dX8_absorb_144 : decode cX8_absorb 144 = .ok (.bastore, 1) := by decide +kernel
theorem dX8_absorb_145 : decode cX8_absorb 145 = .ok (.aload_n 0, 1) := by decide +kernel
theorem dX8_absorb_146 : decode cX8_absorb 146 = .ok (.invokevirtual 71, 3) := by decide +kernel
theorem dX8_absorb_149 : decode cX8_absorb 149 = .ok (.aload_n 0, 1) := by decide +kernel
theorem dX8_absorb_150 : decode cX8_absorb 150 = .ok (.iconst 0, 1) := by decide +kernel
theorem dX8_absorb_151 : decode cX8_absorb 151 = .ok (.putfield 65, 3) := by decide +kernel
theorem dX8_absorb_154 : decode cX8_absorb 154 = .ok (.return_, 1) := by decide +kernel
theorem dX8_told_0 : decode cX8_told 0 = .ok (.aload_n 0, 1) := by decide +kernel
theorem dX8_told_1 : decode cX8_told 1 = .ok (.getfield 65, 3) := by decide +kernel
theorem dX8_told_4 : decode cX8_told 4 = .ok (.aload_n 0, 1) := by decide +kernel
theorem dX8_told_5 : decode cX8_told 5 = .ok (.getfield 68, 3) := by decide +kernel
theorem dX8_told_8 : decode cX8_told 8 = .ok (.if_icmp .ne 12, 3) := by decide +kernel
theorem dX8_told_11 : decode cX8_told 11 = .ok (.aload_n 0, 1) := by decide +kernel
theorem dX8_told_12 : decode cX8_told 12 = .ok (.invokevirtual 71, 3) := by decide +kernel
theorem dX8_told_15 : decode cX8_told 15 = .ok (.aload_n 0, 1) := by decide +kernel
theorem dX8_told_16 : decode cX8_told 16 = .ok (.iconst 0, 1) := by decide +kernel
theorem dX8_told_17 : decode cX8_told 17 = .ok (.putfield 65, 3) := by decide +kernel
theorem dX8_told_20 : decode cX8_told 20 = .ok (.iconst 0, 1) := by decide +kernel
theorem dX8_told_21 : decode cX8_told 21 = .ok (.istore_n 1, 1) := by decide +kernel
theorem dX8_told_22 : decode cX8_told 22 = .ok (.iconst 0, 1) := by decide +kernel
theorem dX8_told_23 : decode cX8_told 23 = .ok (.istore_n 2, 1) := by decide +kernel
theorem dX8_told_24 : decode cX8_told 24 = .ok (.iload_n 2, 1) := by decide +kernel
theorem dX8_told_25 : decode cX8_told 25 = .ok (.bipush 8, 2) := by decide +kernel
theorem dX8_told_27 : decode cX8_told 27 = .ok (.if_icmp .ge 25, 3) := by decide +kernel
theorem dX8_told_30 : decode cX8_told 30 = .ok (.iload_n 1, 1) := by decide +kernel
theorem dX8_told_31 : decode cX8_told 31 = .ok (.aload_n 0, 1) := by decide +kernel
theorem dX8_told_32 : decode cX8_told 32 = .ok (.getfield 20, 3) := by decide +kernel
theorem dX8_told_35 : decode cX8_told 35 = .ok (.aload_n 0, 1) := by decide +kernel
theorem dX8_told_36 : decode cX8_told 36 = .ok (.getfield 65, 3) := by decide +kernel
theorem dX8_told_39 : decode cX8_told 39 = .ok (.iload_n 2, 1) := by decide +kernel
theorem dX8_told_40 : decode cX8_told 40 = .ok (.iadd, 1) := by decide +kernel
theorem dX8_told_41 : decode cX8_told 41 = .ok (.baload, 1) := by decide +kernel
theorem dX8_told_42 : decode cX8_told 42 = .ok (.iload_n 2, 1) := by decide +kernel
theorem dX8_told_43 : decode cX8_told 43 = .ok (.ishl, 1) := by decide +kernel
theorem dX8_told_44 : decode cX8_told 44 = .ok (.ior, 1) := by decide +kernel
theorem dX8_told_45 : decode cX8_told 45 = .ok (.istore_n 1, 1) := by decide +kernel
theorem dX8_told_46 : decode cX8_told 46 = .ok (.iinc 2 1, 3) := by decide +kernel
theorem dX8_told_49 : decode cX8_told 49 = .ok (.goto (-25), 3) := by decide +kernel
theorem dX8_told_52 : decode cX8_told 52 = .ok (.aload_n 0, 1) := by decide +kernel
theorem dX8_told_53 : decode cX8_told 53 = .ok (.dup, 1) := by decide +kernel
theorem dX8_told_54 : decode cX8_told 54 = .ok (.getfield 65, 3) := by decide +kernel
theorem dX8_told_57 : decode cX8_told 57 = .ok (.bipush 8, 2) := by decide +kernel
theorem dX8_told_59 : decode cX8_told 59 = .ok (.iadd, 1) := by decide +kernel
theorem dX8_told_60 : decode cX8_told 60 = .ok (.putfield 65, 3) := by decide +kernel
theorem dX8_told_63 : decode cX8_told 63 = .ok (.iload_n 1, 1) := by decide +kernel
theorem dX8_told_64 : decode cX8_told 64 = .ok (.ireturn, 1) := by decide +kernel
theorem dX8_tells_0 : decode cX8_tells 0 = .ok (.iconst 0, 1) := by decide +kernel
theorem dX8_tells_1 : decode cX8_tells 1 = .ok (.istore_n 3, 1) := by decide +kernel
theorem dX8_tells_2 : decode cX8_tells 2 = .ok (.iload_n 3, 1) := by decide +kernel
theorem dX8_tells_3 : decode cX8_tells 3 = .ok (.iload_n 2, 1) := by decide +kernel
theorem dX8_tells_4 : decode cX8_tells 4 = .ok (.if_icmp .ge 22, 3) := by decide +kernel
theorem dX8_tells_7 : decode cX8_tells 7 = .ok (.aload_n 0, 1) := by decide +kernel
theorem dX8_tells_8 : decode cX8_tells 8 = .ok (.getfield 7, 3) := by decide +kernel
theorem dX8_tells_11 : decode cX8_tells 11 = .ok (.iload_n 1, 1) := by decide +kernel
theorem dX8_tells_12 : decode cX8_tells 12 = .ok (.iload_n 3, 1) := by decide +kernel
theorem dX8_tells_13 : decode cX8_tells 13 = .ok (.iadd, 1) := by decide +kernel
theorem dX8_tells_14 : decode cX8_tells 14 = .ok (.aload_n 0, 1) := by decide +kernel
theorem dX8_tells_15 : decode cX8_tells 15 = .ok (.invokevirtual 81, 3) := by decide +kernel
theorem dX8_tells_18 : decode cX8_tells 18 = .ok (.i2b, 1) := by decide +kernel
theorem dX8_tells_19 : decode cX8_tells 19 = .ok (.bastore, 1) := by decide +kernel
theorem dX8_tells_20 : decode cX8_tells 20 = .ok (.iinc 3 1, 3) := by decide +kernel
theorem dX8_tells_23 : decode cX8_tells 23 = .ok (.goto (-21), 3) := by decide +kernel
theorem dX8_tells_26 : decode cX8_tells 26 = .ok (.return_, 1) := by decide +kernel
theorem dX8_powers_0 : decode cX8_powers 0 = .ok (.aload_n 0, 1) := by decide +kernel
theorem dX8_powers_1 : decode cX8_powers 1 = .ok (.getfield 39, 3) := by decide +kernel
theorem dX8_powers_4 : decode cX8_powers 4 = .ok (.iconst 0, 1) := by decide +kernel
theorem dX8_powers_5 : decode cX8_powers 5 = .ok (.iconst 1, 1) := by decide +kernel
theorem dX8_powers_6 : decode cX8_powers 6 = .ok (.iastore, 1) := by decide +kernel
theorem dX8_powers_7 : decode cX8_powers 7 = .ok (.iconst 1, 1) := by decide +kernel
theorem dX8_powers_8 : decode cX8_powers 8 = .ok (.istore_n 1, 1) := by decide +kernel
theorem dX8_powers_9 : decode cX8_powers 9 = .ok (.iload_n 1, 1) := by decide +kernel
theorem dX8_powers_10 : decode cX8_powers 10 = .ok (.sipush 256, 3) := by decide +kernel
theorem dX8_powers_13 : decode cX8_powers 13 = .ok (.if_icmp .ge 30, 3) := by decide +kernel
theorem dX8_powers_16 : decode cX8_powers 16 = .ok (.aload_n 0, 1) := by decide +kernel
theorem dX8_powers_17 : decode cX8_powers 17 = .ok (.getfield 39, 3) := by decide +kernel
theorem dX8_powers_20 : decode cX8_powers 20 = .ok (.iload_n 1, 1) := by decide +kernel
theorem dX8_powers_21 : decode cX8_powers 21 = .ok (.bipush 17, 2) := by decide +kernel
theorem dX8_powers_23 : decode cX8_powers 23 = .ok (.aload_n 0, 1) := by decide +kernel
theorem dX8_powers_24 : decode cX8_powers 24 = .ok (.getfield 39, 3) := by decide +kernel
theorem dX8_powers_27 : decode cX8_powers 27 = .ok (.iload_n 1, 1) := by decide +kernel
theorem dX8_powers_28 : decode cX8_powers 28 = .ok (.iconst 1, 1) := by decide +kernel
theorem dX8_powers_29 : decode cX8_powers 29 = .ok (.isub, 1) := by decide +kernel
theorem dX8_powers_30 : decode cX8_powers 30 = .ok (.iaload, 1) := by decide +kernel
theorem dX8_powers_31 : decode cX8_powers 31 = .ok (.imul, 1) := by decide +kernel
theorem dX8_powers_32 : decode cX8_powers 32 = .ok (.sipush 3329, 3) := by decide +kernel
theorem dX8_powers_35 : decode cX8_powers 35 = .ok (.irem, 1) := by decide +kernel
theorem dX8_powers_36 : decode cX8_powers 36 = .ok (.iastore, 1) := by decide +kernel
theorem dX8_powers_37 : decode cX8_powers 37 = .ok (.iinc 1 1, 3) := by decide +kernel
theorem dX8_powers_40 : decode cX8_powers 40 = .ok (.goto (-31), 3) := by decide +kernel
theorem dX8_powers_43 : decode cX8_powers 43 = .ok (.iconst 0, 1) := by decide +kernel
theorem dX8_powers_44 : decode cX8_powers 44 = .ok (.istore_n 1, 1) := by decide +kernel
theorem dX8_powers_45 : decode cX8_powers 45 = .ok (.iload_n 1, 1) := by decide +kernel
theorem dX8_powers_46 : decode cX8_powers 46 = .ok (.sipush 128, 3) := by decide +kernel
theorem dX8_powers_49 : decode cX8_powers 49 = .ok (.if_icmp .ge 49, 3) := by decide +kernel
theorem dX8_powers_52 : decode cX8_powers 52 = .ok (.iconst 0, 1) := by decide +kernel
theorem dX8_powers_53 : decode cX8_powers 53 = .ok (.istore_n 2, 1) := by decide +kernel
theorem dX8_powers_54 : decode cX8_powers 54 = .ok (.iconst 0, 1) := by decide +kernel
theorem dX8_powers_55 : decode cX8_powers 55 = .ok (.istore_n 3, 1) := by decide +kernel
theorem dX8_powers_56 : decode cX8_powers 56 = .ok (.iload_n 3, 1) := by decide +kernel
theorem dX8_powers_57 : decode cX8_powers 57 = .ok (.bipush 7, 2) := by decide +kernel
theorem dX8_powers_59 : decode cX8_powers 59 = .ok (.if_icmp .ge 22, 3) := by decide +kernel
theorem dX8_powers_62 : decode cX8_powers 62 = .ok (.iload_n 2, 1) := by decide +kernel
theorem dX8_powers_63 : decode cX8_powers 63 = .ok (.iload_n 1, 1) := by decide +kernel
theorem dX8_powers_64 : decode cX8_powers 64 = .ok (.iload_n 3, 1) := by decide +kernel
theorem dX8_powers_65 : decode cX8_powers 65 = .ok (.ishr, 1) := by decide +kernel
theorem dX8_powers_66 : decode cX8_powers 66 = .ok (.iconst 1, 1) := by decide +kernel
theorem dX8_powers_67 : decode cX8_powers 67 = .ok (.iand, 1) := by decide +kernel
theorem dX8_powers_68 : decode cX8_powers 68 = .ok (.bipush 6, 2) := by decide +kernel
theorem dX8_powers_70 : decode cX8_powers 70 = .ok (.iload_n 3, 1) := by decide +kernel
theorem dX8_powers_71 : decode cX8_powers 71 = .ok (.isub, 1) := by decide +kernel
theorem dX8_powers_72 : decode cX8_powers 72 = .ok (.ishl, 1) := by decide +kernel
theorem dX8_powers_73 : decode cX8_powers 73 = .ok (.ior, 1) := by decide +kernel
theorem dX8_powers_74 : decode cX8_powers 74 = .ok (.istore_n 2, 1) := by decide +kernel
theorem dX8_powers_75 : decode cX8_powers 75 = .ok (.iinc 3 1, 3) := by decide +kernel
theorem dX8_powers_78 : decode cX8_powers 78 = .ok (.goto (-22), 3) := by decide +kernel
theorem dX8_powers_81 : decode cX8_powers 81 = .ok (.aload_n 0, 1) := by decide +kernel
theorem dX8_powers_82 : decode cX8_powers 82 = .ok (.getfield 42, 3) := by decide +kernel
theorem dX8_powers_85 : decode cX8_powers 85 = .ok (.iload_n 1, 1) := by decide +kernel
theorem dX8_powers_86 : decode cX8_powers 86 = .ok (.iconst 2, 1) := by decide +kernel
theorem dX8_powers_87 : decode cX8_powers 87 = .ok (.iload_n 2, 1) := by decide +kernel
theorem dX8_powers_88 : decode cX8_powers 88 = .ok (.imul, 1) := by decide +kernel
theorem dX8_powers_89 : decode cX8_powers 89 = .ok (.iconst 1, 1) := by decide +kernel
theorem dX8_powers_90 : decode cX8_powers 90 = .ok (.iadd, 1) := by decide +kernel
theorem dX8_powers_91 : decode cX8_powers 91 = .ok (.iastore, 1) := by decide +kernel
theorem dX8_powers_92 : decode cX8_powers 92 = .ok (.iinc 1 1, 3) := by decide +kernel
theorem dX8_powers_95 : decode cX8_powers 95 = .ok (.goto (-50), 3) := by decide +kernel
theorem dX8_powers_98 : decode cX8_powers 98 = .ok (.return_, 1) := by decide +kernel
theorem dX8_ring_0 : decode cX8_ring 0 = .ok (.lload_n 0, 1) := by decide +kernel
theorem dX8_ring_1 : decode cX8_ring 1 = .ok (.ldc2_w 85, 3) := by decide +kernel
theorem dX8_ring_4 : decode cX8_ring 4 = .ok (.lrem, 1) := by decide +kernel
theorem dX8_ring_5 : decode cX8_ring 5 = .ok (.l2i, 1) := by decide +kernel
theorem dX8_ring_6 : decode cX8_ring 6 = .ok (.istore_n 2, 1) := by decide +kernel
theorem dX8_ring_7 : decode cX8_ring 7 = .ok (.iload_n 2, 1) := by decide +kernel
theorem dX8_ring_8 : decode cX8_ring 8 = .ok (.ifCond .ge 11, 3) := by decide +kernel
theorem dX8_ring_11 : decode cX8_ring 11 = .ok (.iload_n 2, 1) := by decide +kernel
theorem dX8_ring_12 : decode cX8_ring 12 = .ok (.sipush 3329, 3) := by decide +kernel
theorem dX8_ring_15 : decode cX8_ring 15 = .ok (.iadd, 1) := by decide +kernel
theorem dX8_ring_16 : decode cX8_ring 16 = .ok (.goto 4, 3) := by decide +kernel
theorem dX8_ring_19 : decode cX8_ring 19 = .ok (.iload_n 2, 1) := by decide +kernel
theorem dX8_ring_20 : decode cX8_ring 20 = .ok (.ireturn, 1) := by decide +kernel
theorem dX8_copyPol_0 : decode cX8_copyPol 0 = .ok (.iconst 0, 1) := by decide +kernel
theorem dX8_copyPol_1 : decode cX8_copyPol 1 = .ok (.istore_n 3, 1) := by decide +kernel
theorem dX8_copyPol_2 : decode cX8_copyPol 2 = .ok (.iload_n 3, 1) := by decide +kernel
theorem dX8_copyPol_3 : decode cX8_copyPol 3 = .ok (.sipush 256, 3) := by decide +kernel
theorem dX8_copyPol_6 : decode cX8_copyPol 6 = .ok (.if_icmp .ge 33, 3) := by decide +kernel
theorem dX8_copyPol_9 : decode cX8_copyPol 9 = .ok (.aload_n 0, 1) := by decide +kernel
theorem dX8_copyPol_10 : decode cX8_copyPol 10 = .ok (.getfield 36, 3) := by decide +kernel
theorem dX8_copyPol_13 : decode cX8_copyPol 13 = .ok (.sipush 256, 3) := by decide +kernel
theorem dX8_copyPol_16 : decode cX8_copyPol 16 = .ok (.iload_n 2, 1) := by decide +kernel
theorem dX8_copyPol_17 : decode cX8_copyPol 17 = .ok (.imul, 1) := by decide +kernel
theorem dX8_copyPol_18 : decode cX8_copyPol 18 = .ok (.iload_n 3, 1) := by decide +kernel
theorem dX8_copyPol_19 : decode cX8_copyPol 19 = .ok (.iadd, 1) := by decide +kernel
theorem dX8_copyPol_20 : decode cX8_copyPol 20 = .ok (.aload_n 0, 1) := by decide +kernel
theorem dX8_copyPol_21 : decode cX8_copyPol 21 = .ok (.getfield 36, 3) := by decide +kernel
theorem dX8_copyPol_24 : decode cX8_copyPol 24 = .ok (.sipush 256, 3) := by decide +kernel
theorem dX8_copyPol_27 : decode cX8_copyPol 27 = .ok (.iload_n 1, 1) := by decide +kernel
theorem dX8_copyPol_28 : decode cX8_copyPol 28 = .ok (.imul, 1) := by decide +kernel
theorem dX8_copyPol_29 : decode cX8_copyPol 29 = .ok (.iload_n 3, 1) := by decide +kernel
theorem dX8_copyPol_30 : decode cX8_copyPol 30 = .ok (.iadd, 1) := by decide +kernel
theorem dX8_copyPol_31 : decode cX8_copyPol 31 = .ok (.iaload, 1) := by decide +kernel
theorem dX8_copyPol_32 : decode cX8_copyPol 32 = .ok (.iastore, 1) := by decide +kernel
theorem dX8_copyPol_33 : decode cX8_copyPol 33 = .ok (.iinc 3 1, 3) := by decide +kernel
theorem dX8_copyPol_36 : decode cX8_copyPol 36 = .ok (.goto (-34), 3) := by decide +kernel
theorem dX8_copyPol_39 : decode cX8_copyPol 39 = .ok (.return_, 1) := by decide +kernel
theorem dX8_zero_0 : decode cX8_zero 0 = .ok (.iconst 0, 1) := by decide +kernel
theorem dX8_zero_1 : decode cX8_zero 1 = .ok (.istore_n 2, 1) := by decide +kernel
theorem dX8_zero_2 : decode cX8_zero 2 = .ok (.iload_n 2, 1) := by decide +kernel
theorem dX8_zero_3 : decode cX8_zero 3 = .ok (.sipush 256, 3) := by decide +kernel
theorem dX8_zero_6 : decode cX8_zero 6 = .ok (.if_icmp .ge 22, 3) := by decide +kernel
theorem dX8_zero_9 : decode cX8_zero 9 = .ok (.aload_n 0, 1) := by decide +kernel
theorem dX8_zero_10 : decode cX8_zero 10 = .ok (.getfield 36, 3) := by decide +kernel
theorem dX8_zero_13 : decode cX8_zero 13 = .ok (.sipush 256, 3) := by decide +kernel
theorem dX8_zero_16 : decode cX8_zero 16 = .ok (.iload_n 1, 1) := by decide +kernel
theorem dX8_zero_17 : decode cX8_zero 17 = .ok (.imul, 1) := by decide +kernel
theorem dX8_zero_18 : decode cX8_zero 18 = .ok (.iload_n 2, 1) := by decide +kernel
theorem dX8_zero_19 : decode cX8_zero 19 = .ok (.iadd, 1) := by decide +kernel
theorem dX8_zero_20 : decode cX8_zero 20 = .ok (.iconst 0, 1) := by decide +kernel
theorem dX8_zero_21 : decode cX8_zero 21 = .ok (.iastore, 1) := by decide +kernel
theorem dX8_zero_22 : decode cX8_zero 22 = .ok (.iinc 2 1, 3) := by decide +kernel
theorem dX8_zero_25 : decode cX8_zero 25 = .ok (.goto (-23), 3) := by decide +kernel
theorem dX8_zero_28 : decode cX8_zero 28 = .ok (.return_, 1) := by decide +kernel
theorem dX8_bringForward_0 : decode cX8_bringForward 0 = .ok (.aload_n 0, 1) := by decide +kernel
theorem dX8_bringForward_1 : decode cX8_bringForward 1 = .ok (.iload_n 1, 1) := by decide +kernel
theorem dX8_bringForward_2 : decode cX8_bringForward 2 = .ok (.bipush 18, 2) := by decide +kernel
theorem dX8_bringForward_4 : decode cX8_bringForward 4 = .ok (.invokevirtual 87, 3) := by decide +kernel
theorem dX8_bringForward_7 : decode cX8_bringForward 7 = .ok (.iconst 0, 1) := by decide +kernel
theorem dX8_bringForward_8 : decode cX8_bringForward 8 = .ok (.istore_n 2, 1) := by decide +kernel
theorem dX8_bringForward_9 : decode cX8_bringForward 9 = .ok (.iload_n 2, 1) := by decide +kernel
theorem dX8_bringForward_10 : decode cX8_bringForward 10 = .ok (.sipush 128, 3) := by decide +kernel
theorem dX8_bringForward_13 : decode cX8_bringForward 13 = .ok (.if_icmp .ge 135, 3) := by decide +kernel
theorem dX8_bringForward_16 : decode cX8_bringForward 16 = .ok (.lconst 0, 1) := by decide +kernel
theorem dX8_bringForward_17 : decode cX8_bringForward 17 = .ok (.lstore_n 3, 1) := by decide +kernel
theorem dX8_bringForward_18 : decode cX8_bringForward 18 = .ok (.lconst 0, 1) := by decide +kernel
theorem dX8_bringForward_19 : decode cX8_bringForward 19 = .ok (.lstore 5, 2) := by decide +kernel
theorem dX8_bringForward_21 : decode cX8_bringForward 21 = .ok (.iconst 0, 1) := by decide +kernel
theorem dX8_bringForward_22 : decode cX8_bringForward 22 = .ok (.istore 7, 2) := by decide +kernel
theorem dX8_bringForward_24 : decode cX8_bringForward 24 = .ok (.iload 7, 2) := by decide +kernel
theorem dX8_bringForward_26 : decode cX8_bringForward 26 = .ok (.sipush 128, 3) := by decide +kernel
theorem dX8_bringForward_29 : decode cX8_bringForward 29 = .ok (.if_icmp .ge 74, 3) := by decide +kernel
theorem dX8_bringForward_32 : decode cX8_bringForward 32 = .ok (.aload_n 0, 1) := by decide +kernel
theorem dX8_bringForward_33 : decode cX8_bringForward 33 = .ok (.getfield 39, 3) := by decide +kernel
theorem dX8_bringForward_36 : decode cX8_bringForward 36 = .ok (.aload_n 0, 1) := by decide +kernel
theorem dX8_bringForward_37 : decode cX8_bringForward 37 = .ok (.getfield 42, 3) := by decide +kernel
theorem dX8_bringForward_40 : decode cX8_bringForward 40 = .ok (.iload_n 2, 1) := by decide +kernel
theorem dX8_bringForward_41 : decode cX8_bringForward 41 = .ok (.iaload, 1) := by decide +kernel
theorem dX8_bringForward_42 : decode cX8_bringForward 42 = .ok (.iload 7, 2) := by decide +kernel
theorem dX8_bringForward_44 : decode cX8_bringForward 44 = .ok (.imul, 1) := by decide +kernel
theorem dX8_bringForward_45 : decode cX8_bringForward 45 = .ok (.sipush 256, 3) := by decide +kernel
theorem dX8_bringForward_48 : decode cX8_bringForward 48 = .ok (.irem, 1) := by decide +kernel
theorem dX8_bringForward_49 : decode cX8_bringForward 49 = .ok (.iaload, 1) := by decide +kernel
theorem dX8_bringForward_50 : decode cX8_bringForward 50 = .ok (.i2l, 1) := by decide +kernel
theorem dX8_bringForward_51 : decode cX8_bringForward 51 = .ok (.lstore 8, 2) := by decide +kernel
theorem dX8_bringForward_53 : decode cX8_bringForward 53 = .ok (.lload_n 3, 1) := by decide +kernel
theorem dX8_bringForward_54 : decode cX8_bringForward 54 = .ok (.lload 8, 2) := by decide +kernel
theorem dX8_bringForward_56 : decode cX8_bringForward 56 = .ok (.aload_n 0, 1) := by decide +kernel
theorem dX8_bringForward_57 : decode cX8_bringForward 57 = .ok (.getfield 36, 3) := by decide +kernel
theorem dX8_bringForward_60 : decode cX8_bringForward 60 = .ok (.sipush 4608, 3) := by decide +kernel
theorem dX8_bringForward_63 : decode cX8_bringForward 63 = .ok (.iconst 2, 1) := by decide +kernel
theorem dX8_bringForward_64 : decode cX8_bringForward 64 = .ok (.iload 7, 2) := by decide +kernel
theorem dX8_bringForward_66 : decode cX8_bringForward 66 = .ok (.imul, 1) := by decide +kernel
theorem dX8_bringForward_67 : decode cX8_bringForward 67 = .ok (.iadd, 1) := by decide +kernel
theorem dX8_bringForward_68 : decode cX8_bringForward 68 = .ok (.iaload, 1) := by decide +kernel
theorem dX8_bringForward_69 : decode cX8_bringForward 69 = .ok (.i2l, 1) := by decide +kernel
theorem dX8_bringForward_70 : decode cX8_bringForward 70 = .ok (.lmul, 1) := by decide +kernel
theorem dX8_bringForward_71 : decode cX8_bringForward 71 = .ok (.ladd, 1) := by decide +kernel
theorem dX8_bringForward_72 : decode cX8_bringForward 72 = .ok (.lstore_n 3, 1) := by decide +kernel
theorem dX8_bringForward_73 : decode cX8_bringForward 73 = .ok (.lload 5, 2) := by decide +kernel
theorem dX8_bringForward_75 : decode cX8_bringForward 75 = .ok (.lload 8, 2) := by decide +kernel
theorem dX8_bringForward_77 : decode cX8_bringForward 77 = .ok (.aload_n 0, 1) := by decide +kernel
theorem dX8_bringForward_78 : decode cX8_bringForward 78 = .ok (.getfield 36, 3) := by decide +kernel
theorem dX8_bringForward_81 : decode cX8_bringForward 81 = .ok (.sipush 4608, 3) := by decide +kernel
theorem dX8_bringForward_84 : decode cX8_bringForward 84 = .ok (.iconst 2, 1) := by decide +kernel
theorem dX8_bringForward_85 : decode cX8_bringForward 85 = .ok (.iload 7, 2) := by decide +kernel
theorem dX8_bringForward_87 : decode cX8_bringForward 87 = .ok (.imul, 1) := by decide +kernel
theorem dX8_bringForward_88 : decode cX8_bringForward 88 = .ok (.iadd, 1) := by decide +kernel
theorem dX8_bringForward_89 : decode cX8_bringForward 89 = .ok (.iconst 1, 1) := by decide +kernel
theorem dX8_bringForward_90 : decode cX8_bringForward 90 = .ok (.iadd, 1) := by decide +kernel
theorem dX8_bringForward_91 : decode cX8_bringForward 91 = .ok (.iaload, 1) := by decide +kernel
theorem dX8_bringForward_92 : decode cX8_bringForward 92 = .ok (.i2l, 1) := by decide +kernel
theorem dX8_bringForward_93 : decode cX8_bringForward 93 = .ok (.lmul, 1) := by decide +kernel
theorem dX8_bringForward_94 : decode cX8_bringForward 94 = .ok (.ladd, 1) := by decide +kernel
theorem dX8_bringForward_95 : decode cX8_bringForward 95 = .ok (.lstore 5, 2) := by decide +kernel
theorem dX8_bringForward_97 : decode cX8_bringForward 97 = .ok (.iinc 7 1, 3) := by decide +kernel
theorem dX8_bringForward_100 : decode cX8_bringForward 100 = .ok (.goto (-76), 3) := by decide +kernel
theorem dX8_bringForward_103 : decode cX8_bringForward 103 = .ok (.aload_n 0, 1) := by decide +kernel
theorem dX8_bringForward_104 : decode cX8_bringForward 104 = .ok (.getfield 36, 3) := by decide +kernel
theorem dX8_bringForward_107 : decode cX8_bringForward 107 = .ok (.sipush 256, 3) := by decide +kernel
theorem dX8_bringForward_110 : decode cX8_bringForward 110 = .ok (.iload_n 1, 1) := by decide +kernel
theorem dX8_bringForward_111 : decode cX8_bringForward 111 = .ok (.imul, 1) := by decide +kernel
theorem dX8_bringForward_112 : decode cX8_bringForward 112 = .ok (.iconst 2, 1) := by decide +kernel
theorem dX8_bringForward_113 : decode cX8_bringForward 113 = .ok (.iload_n 2, 1) := by decide +kernel
theorem dX8_bringForward_114 : decode cX8_bringForward 114 = .ok (.imul, 1) := by decide +kernel
theorem dX8_bringForward_115 : decode cX8_bringForward 115 = .ok (.iadd, 1) := by decide +kernel
theorem dX8_bringForward_116 : decode cX8_bringForward 116 = .ok (.lload_n 3, 1) := by decide +kernel
theorem dX8_bringForward_117 : decode cX8_bringForward 117 = .ok (.invokestatic 91, 3) := by decide +kernel
theorem dX8_bringForward_120 : decode cX8_bringForward 120 = .ok (.iastore, 1) := by decide +kernel
theorem dX8_bringForward_121 : decode cX8_bringForward 121 = .ok (.aload_n 0, 1) := by decide +kernel
theorem dX8_bringForward_122 : decode cX8_bringForward 122 = .ok (.getfield 36, 3) := by decide +kernel
theorem dX8_bringForward_125 : decode cX8_bringForward 125 = .ok (.sipush 256, 3) := by decide +kernel
theorem dX8_bringForward_128 : decode cX8_bringForward 128 = .ok (.iload_n 1, 1) := by decide +kernel
theorem dX8_bringForward_129 : decode cX8_bringForward 129 = .ok (.imul, 1) := by decide +kernel
theorem dX8_bringForward_130 : decode cX8_bringForward 130 = .ok (.iconst 2, 1) := by decide +kernel
theorem dX8_bringForward_131 : decode cX8_bringForward 131 = .ok (.iload_n 2, 1) := by decide +kernel
theorem dX8_bringForward_132 : decode cX8_bringForward 132 = .ok (.imul, 1) := by decide +kernel
theorem dX8_bringForward_133 : decode cX8_bringForward 133 = .ok (.iadd, 1) := by decide +kernel
theorem dX8_bringForward_134 : decode cX8_bringForward 134 = .ok (.iconst 1, 1) := by decide +kernel
theorem dX8_bringForward_135 : decode cX8_bringForward 135 = .ok (.iadd, 1) := by decide +kernel
theorem dX8_bringForward_136 : decode cX8_bringForward 136 = .ok (.lload 5, 2) := by decide +kernel
theorem dX8_bringForward_138 : decode cX8_bringForward 138 = .ok (.invokestatic 91, 3) := by decide +kernel
theorem dX8_bringForward_141 : decode cX8_bringForward 141 = .ok (.iastore, 1) := by decide +kernel
theorem dX8_bringForward_142 : decode cX8_bringForward 142 = .ok (.iinc 2 1, 3) := by decide +kernel
theorem dX8_bringForward_145 : decode cX8_bringForward 145 = .ok (.goto (-136), 3) := by decide +kernel
theorem dX8_bringForward_148 : decode cX8_bringForward 148 = .ok (.return_, 1) := by decide +kernel
theorem dX8_bringBack_0 : decode cX8_bringBack 0 = .ok (.aload_n 0, 1) := by decide +kernel
theorem dX8_bringBack_1 : decode cX8_bringBack 1 = .ok (.iload_n 1, 1) := by decide +kernel
theorem dX8_bringBack_2 : decode cX8_bringBack 2 = .ok (.bipush 18, 2) := by decide +kernel
theorem dX8_bringBack_4 : decode cX8_bringBack 4 = .ok (.invokevirtual 87, 3) := by decide +kernel
theorem dX8_bringBack_7 : decode cX8_bringBack 7 = .ok (.iconst 0, 1) := by decide +kernel
theorem dX8_bringBack_8 : decode cX8_bringBack 8 = .ok (.istore_n 2, 1) := by decide +kernel
theorem dX8_bringBack_9 : decode cX8_bringBack 9 = .ok (.iload_n 2, 1) := by decide +kernel
theorem dX8_bringBack_10 : decode cX8_bringBack 10 = .ok (.sipush 128, 3) := by decide +kernel
theorem dX8_bringBack_13 : decode cX8_bringBack 13 = .ok (.if_icmp .ge 159, 3) := by decide +kernel
theorem dX8_bringBack_16 : decode cX8_bringBack 16 = .ok (.lconst 0, 1) := by decide +kernel
theorem dX8_bringBack_17 : decode cX8_bringBack 17 = .ok (.lstore_n 3, 1) := by decide +kernel
theorem dX8_bringBack_18 : decode cX8_bringBack 18 = .ok (.lconst 0, 1) := by decide +kernel
theorem dX8_bringBack_19 : decode cX8_bringBack 19 = .ok (.lstore 5, 2) := by decide +kernel
theorem dX8_bringBack_21 : decode cX8_bringBack 21 = .ok (.iconst 0, 1) := by decide +kernel
theorem dX8_bringBack_22 : decode cX8_bringBack 22 = .ok (.istore 7, 2) := by decide +kernel
theorem dX8_bringBack_24 : decode cX8_bringBack 24 = .ok (.iload 7, 2) := by decide +kernel
theorem dX8_bringBack_26 : decode cX8_bringBack 26 = .ok (.sipush 128, 3) := by decide +kernel
theorem dX8_bringBack_29 : decode cX8_bringBack 29 = .ok (.if_icmp .ge 82, 3) := by decide +kernel
theorem dX8_bringBack_32 : decode cX8_bringBack 32 = .ok (.aload_n 0, 1) := by decide +kernel
theorem dX8_bringBack_33 : decode cX8_bringBack 33 = .ok (.getfield 39, 3) := by decide +kernel
theorem dX8_bringBack_36 : decode cX8_bringBack 36 = .ok (.sipush 256, 3) := by decide +kernel
theorem dX8_bringBack_39 : decode cX8_bringBack 39 = .ok (.aload_n 0, 1) := by decide +kernel
theorem dX8_bringBack_40 : decode cX8_bringBack 40 = .ok (.getfield 42, 3) := by decide +kernel
theorem dX8_bringBack_43 : decode cX8_bringBack 43 = .ok (.iload 7, 2) := by decide +kernel
theorem dX8_bringBack_45 : decode cX8_bringBack 45 = .ok (.iaload, 1) := by decide +kernel
theorem dX8_bringBack_46 : decode cX8_bringBack 46 = .ok (.iload_n 2, 1) := by decide +kernel
theorem dX8_bringBack_47 : decode cX8_bringBack 47 = .ok (.imul, 1) := by decide +kernel
theorem dX8_bringBack_48 : decode cX8_bringBack 48 = .ok (.sipush 256, 3) := by decide +kernel
theorem dX8_bringBack_51 : decode cX8_bringBack 51 = .ok (.irem, 1) := by decide +kernel
theorem dX8_bringBack_52 : decode cX8_bringBack 52 = .ok (.isub, 1) := by decide +kernel
theorem dX8_bringBack_53 : decode cX8_bringBack 53 = .ok (.sipush 256, 3) := by decide +kernel
theorem dX8_bringBack_56 : decode cX8_bringBack 56 = .ok (.irem, 1) := by decide +kernel
theorem dX8_bringBack_57 : decode cX8_bringBack 57 = .ok (.iaload, 1) := by decide +kernel
theorem dX8_bringBack_58 : decode cX8_bringBack 58 = .ok (.i2l, 1) := by decide +kernel
theorem dX8_bringBack_59 : decode cX8_bringBack 59 = .ok (.lstore 8, 2) := by decide +kernel
theorem dX8_bringBack_61 : decode cX8_bringBack 61 = .ok (.lload_n 3, 1) := by decide +kernel
theorem dX8_bringBack_62 : decode cX8_bringBack 62 = .ok (.lload 8, 2) := by decide +kernel
theorem dX8_bringBack_64 : decode cX8_bringBack 64 = .ok (.aload_n 0, 1) := by decide +kernel
theorem dX8_bringBack_65 : decode cX8_bringBack 65 = .ok (.getfield 36, 3) := by decide +kernel
theorem dX8_bringBack_68 : decode cX8_bringBack 68 = .ok (.sipush 4608, 3) := by decide +kernel
theorem dX8_bringBack_71 : decode cX8_bringBack 71 = .ok (.iconst 2, 1) := by decide +kernel
theorem dX8_bringBack_72 : decode cX8_bringBack 72 = .ok (.iload 7, 2) := by decide +kernel
theorem dX8_bringBack_74 : decode cX8_bringBack 74 = .ok (.imul, 1) := by decide +kernel
theorem dX8_bringBack_75 : decode cX8_bringBack 75 = .ok (.iadd, 1) := by decide +kernel
theorem dX8_bringBack_76 : decode cX8_bringBack 76 = .ok (.iaload, 1) := by decide +kernel
theorem dX8_bringBack_77 : decode cX8_bringBack 77 = .ok (.i2l, 1) := by decide +kernel
theorem dX8_bringBack_78 : decode cX8_bringBack 78 = .ok (.lmul, 1) := by decide +kernel
theorem dX8_bringBack_79 : decode cX8_bringBack 79 = .ok (.ladd, 1) := by decide +kernel
theorem dX8_bringBack_80 : decode cX8_bringBack 80 = .ok (.lstore_n 3, 1) := by decide +kernel
theorem dX8_bringBack_81 : decode cX8_bringBack 81 = .ok (.lload 5, 2) := by decide +kernel
theorem dX8_bringBack_83 : decode cX8_bringBack 83 = .ok (.lload 8, 2) := by decide +kernel
theorem dX8_bringBack_85 : decode cX8_bringBack 85 = .ok (.aload_n 0, 1) := by decide +kernel
theorem dX8_bringBack_86 : decode cX8_bringBack 86 = .ok (.getfield 36, 3) := by decide +kernel
theorem dX8_bringBack_89 : decode cX8_bringBack 89 = .ok (.sipush 4608, 3) := by decide +kernel
theorem dX8_bringBack_92 : decode cX8_bringBack 92 = .ok (.iconst 2, 1) := by decide +kernel
theorem dX8_bringBack_93 : decode cX8_bringBack 93 = .ok (.iload 7, 2) := by decide +kernel
theorem dX8_bringBack_95 : decode cX8_bringBack 95 = .ok (.imul, 1) := by decide +kernel
theorem dX8_bringBack_96 : decode cX8_bringBack 96 = .ok (.iadd, 1) := by decide +kernel
theorem dX8_bringBack_97 : decode cX8_bringBack 97 = .ok (.iconst 1, 1) := by decide +kernel
theorem dX8_bringBack_98 : decode cX8_bringBack 98 = .ok (.iadd, 1) := by decide +kernel
theorem dX8_bringBack_99 : decode cX8_bringBack 99 = .ok (.iaload, 1) := by decide +kernel
theorem dX8_bringBack_100 : decode cX8_bringBack 100 = .ok (.i2l, 1) := by decide +kernel
theorem dX8_bringBack_101 : decode cX8_bringBack 101 = .ok (.lmul, 1) := by decide +kernel
theorem dX8_bringBack_102 : decode cX8_bringBack 102 = .ok (.ladd, 1) := by decide +kernel
theorem dX8_bringBack_103 : decode cX8_bringBack 103 = .ok (.lstore 5, 2) := by decide +kernel
theorem dX8_bringBack_105 : decode cX8_bringBack 105 = .ok (.iinc 7 1, 3) := by decide +kernel
theorem dX8_bringBack_108 : decode cX8_bringBack 108 = .ok (.goto (-84), 3) := by decide +kernel
theorem dX8_bringBack_111 : decode cX8_bringBack 111 = .ok (.aload_n 0, 1) := by decide +kernel
theorem dX8_bringBack_112 : decode cX8_bringBack 112 = .ok (.getfield 36, 3) := by decide +kernel
theorem dX8_bringBack_115 : decode cX8_bringBack 115 = .ok (.sipush 256, 3) := by decide +kernel
theorem dX8_bringBack_118 : decode cX8_bringBack 118 = .ok (.iload_n 1, 1) := by decide +kernel
theorem dX8_bringBack_119 : decode cX8_bringBack 119 = .ok (.imul, 1) := by decide +kernel
theorem dX8_bringBack_120 : decode cX8_bringBack 120 = .ok (.iconst 2, 1) := by decide +kernel
theorem dX8_bringBack_121 : decode cX8_bringBack 121 = .ok (.iload_n 2, 1) := by decide +kernel
theorem dX8_bringBack_122 : decode cX8_bringBack 122 = .ok (.imul, 1) := by decide +kernel
theorem dX8_bringBack_123 : decode cX8_bringBack 123 = .ok (.iadd, 1) := by decide +kernel
theorem dX8_bringBack_124 : decode cX8_bringBack 124 = .ok (.ldc2_w 95, 3) := by decide +kernel
theorem dX8_bringBack_127 : decode cX8_bringBack 127 = .ok (.lload_n 3, 1) := by decide +kernel
theorem dX8_bringBack_128 : decode cX8_bringBack 128 = .ok (.invokestatic 91, 3) := by decide +kernel
theorem dX8_bringBack_131 : decode cX8_bringBack 131 = .ok (.i2l, 1) := by decide +kernel
theorem dX8_bringBack_132 : decode cX8_bringBack 132 = .ok (.lmul, 1) := by decide +kernel
theorem dX8_bringBack_133 : decode cX8_bringBack 133 = .ok (.invokestatic 91, 3) := by decide +kernel
theorem dX8_bringBack_136 : decode cX8_bringBack 136 = .ok (.iastore, 1) := by decide +kernel
theorem dX8_bringBack_137 : decode cX8_bringBack 137 = .ok (.aload_n 0, 1) := by decide +kernel
theorem dX8_bringBack_138 : decode cX8_bringBack 138 = .ok (.getfield 36, 3) := by decide +kernel
theorem dX8_bringBack_141 : decode cX8_bringBack 141 = .ok (.sipush 256, 3) := by decide +kernel
theorem dX8_bringBack_144 : decode cX8_bringBack 144 = .ok (.iload_n 1, 1) := by decide +kernel
theorem dX8_bringBack_145 : decode cX8_bringBack 145 = .ok (.imul, 1) := by decide +kernel
theorem dX8_bringBack_146 : decode cX8_bringBack 146 = .ok (.iconst 2, 1) := by decide +kernel
theorem dX8_bringBack_147 : decode cX8_bringBack 147 = .ok (.iload_n 2, 1) := by decide +kernel
theorem dX8_bringBack_148 : decode cX8_bringBack 148 = .ok (.imul, 1) := by decide +kernel
theorem dX8_bringBack_149 : decode cX8_bringBack 149 = .ok (.iadd, 1) := by decide +kernel
theorem dX8_bringBack_150 : decode cX8_bringBack 150 = .ok (.iconst 1, 1) := by decide +kernel
theorem dX8_bringBack_151 : decode cX8_bringBack 151 = .ok (.iadd, 1) := by decide +kernel
theorem dX8_bringBack_152 : decode cX8_bringBack 152 = .ok (.ldc2_w 95, 3) := by decide +kernel
theorem dX8_bringBack_155 : decode cX8_bringBack 155 = .ok (.lload 5, 2) := by decide +kernel
theorem dX8_bringBack_157 : decode cX8_bringBack 157 = .ok (.invokestatic 91, 3) := by decide +kernel
theorem dX8_bringBack_160 : decode cX8_bringBack 160 = .ok (.i2l, 1) := by decide +kernel
theorem dX8_bringBack_161 : decode cX8_bringBack 161 = .ok (.lmul, 1) := by decide +kernel
theorem dX8_bringBack_162 : decode cX8_bringBack 162 = .ok (.invokestatic 91, 3) := by decide +kernel
theorem dX8_bringBack_165 : decode cX8_bringBack 165 = .ok (.iastore, 1) := by decide +kernel
theorem dX8_bringBack_166 : decode cX8_bringBack 166 = .ok (.iinc 2 1, 3) := by decide +kernel
theorem dX8_bringBack_169 : decode cX8_bringBack 169 = .ok (.goto (-160), 3) := by decide +kernel
theorem dX8_bringBack_172 : decode cX8_bringBack 172 = .ok (.return_, 1) := by decide +kernel
theorem dX8_product_0 : decode cX8_product 0 = .ok (.iconst 0, 1) := by decide +kernel
theorem dX8_product_1 : decode cX8_product 1 = .ok (.istore 5, 2) := by decide +kernel
theorem dX8_product_3 : decode cX8_product 3 = .ok (.iload 5, 2) := by decide +kernel
theorem dX8_product_5 : decode cX8_product 5 = .ok (.sipush 128, 3) := by decide +kernel
theorem dX8_product_8 : decode cX8_product 8 = .ok (.if_icmp .ge 229, 3) := by decide +kernel
theorem dX8_product_11 : decode cX8_product 11 = .ok (.aload_n 0, 1) := by decide +kernel
theorem dX8_product_12 : decode cX8_product 12 = .ok (.getfield 36, 3) := by decide +kernel
theorem dX8_product_15 : decode cX8_product 15 = .ok (.sipush 256, 3) := by decide +kernel
theorem dX8_product_18 : decode cX8_product 18 = .ok (.iload_n 1, 1) := by decide +kernel
theorem dX8_product_19 : decode cX8_product 19 = .ok (.imul, 1) := by decide +kernel
theorem dX8_product_20 : decode cX8_product 20 = .ok (.iconst 2, 1) := by decide +kernel
theorem dX8_product_21 : decode cX8_product 21 = .ok (.iload 5, 2) := by decide +kernel
theorem dX8_product_23 : decode cX8_product 23 = .ok (.imul, 1) := by decide +kernel
theorem dX8_product_24 : decode cX8_product 24 = .ok (.iadd, 1) := by decide +kernel
theorem dX8_product_25 : decode cX8_product 25 = .ok (.iaload, 1) := by decide +kernel
theorem dX8_product_26 : decode cX8_product 26 = .ok (.i2l, 1) := by decide +kernel
theorem dX8_product_27 : decode cX8_product 27 = .ok (.lstore 6, 2) := by decide +kernel
theorem dX8_product_29 : decode cX8_product 29 = .ok (.aload_n 0, 1) := by decide +kernel
theorem dX8_product_30 : decode cX8_product 30 = .ok (.getfield 36, 3) := by decide +kernel
theorem dX8_product_33 : decode cX8_product 33 = .ok (.sipush 256, 3) := by decide +kernel
theorem dX8_product_36 : decode cX8_product 36 = .ok (.iload_n 1, 1) := by decide +kernel
theorem dX8_product_37 : decode cX8_product 37 = .ok (.imul, 1) := by decide +kernel
theorem dX8_product_38 : decode cX8_product 38 = .ok (.iconst 2, 1) := by decide +kernel
theorem dX8_product_39 : decode cX8_product 39 = .ok (.iload 5, 2) := by decide +kernel
theorem dX8_product_41 : decode cX8_product 41 = .ok (.imul, 1) := by decide +kernel
theorem dX8_product_42 : decode cX8_product 42 = .ok (.iadd, 1) := by decide +kernel
theorem dX8_product_43 : decode cX8_product 43 = .ok (.iconst 1, 1) := by decide +kernel
theorem dX8_product_44 : decode cX8_product 44 = .ok (.iadd, 1) := by decide +kernel
theorem dX8_product_45 : decode cX8_product 45 = .ok (.iaload, 1) := by decide +kernel
theorem dX8_product_46 : decode cX8_product 46 = .ok (.i2l, 1) := by decide +kernel
theorem dX8_product_47 : decode cX8_product 47 = .ok (.lstore 8, 2) := by decide +kernel
theorem dX8_product_49 : decode cX8_product 49 = .ok (.aload_n 0, 1) := by decide +kernel
theorem dX8_product_50 : decode cX8_product 50 = .ok (.getfield 36, 3) := by decide +kernel
theorem dX8_product_53 : decode cX8_product 53 = .ok (.sipush 256, 3) := by decide +kernel
theorem dX8_product_56 : decode cX8_product 56 = .ok (.iload_n 2, 1) := by decide +kernel
theorem dX8_product_57 : decode cX8_product 57 = .ok (.imul, 1) := by decide +kernel
theorem dX8_product_58 : decode cX8_product 58 = .ok (.iconst 2, 1) := by decide +kernel
theorem dX8_product_59 : decode cX8_product 59 = .ok (.iload 5, 2) := by decide +kernel
theorem dX8_product_61 : decode cX8_product 61 = .ok (.imul, 1) := by decide +kernel
theorem dX8_product_62 : decode cX8_product 62 = .ok (.iadd, 1) := by decide +kernel
theorem dX8_product_63 : decode cX8_product 63 = .ok (.iaload, 1) := by decide +kernel
theorem dX8_product_64 : decode cX8_product 64 = .ok (.i2l, 1) := by decide +kernel
theorem dX8_product_65 : decode cX8_product 65 = .ok (.lstore 10, 2) := by decide +kernel
theorem dX8_product_67 : decode cX8_product 67 = .ok (.aload_n 0, 1) := by decide +kernel
theorem dX8_product_68 : decode cX8_product 68 = .ok (.getfield 36, 3) := by decide +kernel
theorem dX8_product_71 : decode cX8_product 71 = .ok (.sipush 256, 3) := by decide +kernel
theorem dX8_product_74 : decode cX8_product 74 = .ok (.iload_n 2, 1) := by decide +kernel
theorem dX8_product_75 : decode cX8_product 75 = .ok (.imul, 1) := by decide +kernel
theorem dX8_product_76 : decode cX8_product 76 = .ok (.iconst 2, 1) := by decide +kernel
theorem dX8_product_77 : decode cX8_product 77 = .ok (.iload 5, 2) := by decide +kernel
theorem dX8_product_79 : decode cX8_product 79 = .ok (.imul, 1) := by decide +kernel
theorem dX8_product_80 : decode cX8_product 80 = .ok (.iadd, 1) := by decide +kernel
theorem dX8_product_81 : decode cX8_product 81 = .ok (.iconst 1, 1) := by decide +kernel
theorem dX8_product_82 : decode cX8_product 82 = .ok (.iadd, 1) := by decide +kernel
theorem dX8_product_83 : decode cX8_product 83 = .ok (.iaload, 1) := by decide +kernel
theorem dX8_product_84 : decode cX8_product 84 = .ok (.i2l, 1) := by decide +kernel
theorem dX8_product_85 : decode cX8_product 85 = .ok (.lstore 12, 2) := by decide +kernel
theorem dX8_product_87 : decode cX8_product 87 = .ok (.lload 6, 2) := by decide +kernel
theorem dX8_product_89 : decode cX8_product 89 = .ok (.lload 10, 2) := by decide +kernel
theorem dX8_product_91 : decode cX8_product 91 = .ok (.lmul, 1) := by decide +kernel
theorem dX8_product_92 : decode cX8_product 92 = .ok (.lload 8, 2) := by decide +kernel
theorem dX8_product_94 : decode cX8_product 94 = .ok (.lload 12, 2) := by decide +kernel
theorem dX8_product_96 : decode cX8_product 96 = .ok (.lmul, 1) := by decide +kernel
theorem dX8_product_97 : decode cX8_product 97 = .ok (.ldc2_w 85, 3) := by decide +kernel
theorem dX8_product_100 : decode cX8_product 100 = .ok (.lrem, 1) := by decide +kernel
theorem dX8_product_101 : decode cX8_product 101 = .ok (.aload_n 0, 1) := by decide +kernel
theorem dX8_product_102 : decode cX8_product 102 = .ok (.getfield 39, 3) := by decide +kernel
theorem dX8_product_105 : decode cX8_product 105 = .ok (.aload_n 0, 1) := by decide +kernel
theorem dX8_product_106 : decode cX8_product 106 = .ok (.getfield 42, 3) := by decide +kernel
theorem dX8_product_109 : decode cX8_product 109 = .ok (.iload 5, 2) := by decide +kernel
theorem dX8_product_111 : decode cX8_product 111 = .ok (.iaload, 1) := by decide +kernel
theorem dX8_product_112 : decode cX8_product 112 = .ok (.sipush 256, 3) := by decide +kernel
theorem dX8_product_115 : decode cX8_product 115 = .ok (.irem, 1) := by decide +kernel
theorem dX8_product_116 : decode cX8_product 116 = .ok (.iaload, 1) := by decide +kernel
theorem dX8_product_117 : decode cX8_product 117 = .ok (.i2l, 1) := by decide +kernel
theorem dX8_product_118 : decode cX8_product 118 = .ok (.lmul, 1) := by decide +kernel
theorem dX8_product_119 : decode cX8_product 119 = .ok (.ladd, 1) := by decide +kernel
theorem dX8_product_120 : decode cX8_product 120 = .ok (.lstore 14, 2) := by decide +kernel
theorem dX8_product_122 : decode cX8_product 122 = .ok (.lload 6, 2) := by decide +kernel
theorem dX8_product_124 : decode cX8_product 124 = .ok (.lload 12, 2) := by decide +kernel
theorem dX8_product_126 : decode cX8_product 126 = .ok (.lmul, 1) := by decide +kernel
theorem dX8_product_127 : decode cX8_product 127 = .ok (.lload 8, 2) := by decide +kernel
theorem dX8_product_129 : decode cX8_product 129 = .ok (.lload 10, 2) := by decide +kernel
theorem dX8_product_131 : decode cX8_product 131 = .ok (.lmul, 1) := by decide +kernel
theorem dX8_product_132 : decode cX8_product 132 = .ok (.ladd, 1) := by decide +kernel
theorem dX8_product_133 : decode cX8_product 133 = .ok (.lstore 16, 2) := by decide +kernel
theorem dX8_product_135 : decode cX8_product 135 = .ok (.aload_n 0, 1) := by decide +kernel
theorem dX8_product_136 : decode cX8_product 136 = .ok (.getfield 36, 3) := by decide +kernel
theorem dX8_product_139 : decode cX8_product 139 = .ok (.sipush 256, 3) := by decide +kernel
theorem dX8_product_142 : decode cX8_product 142 = .ok (.iload_n 3, 1) := by decide +kernel
theorem dX8_product_143 : decode cX8_product 143 = .ok (.imul, 1) := by decide +kernel
theorem dX8_product_144 : decode cX8_product 144 = .ok (.iconst 2, 1) := by decide +kernel
theorem dX8_product_145 : decode cX8_product 145 = .ok (.iload 5, 2) := by decide +kernel
theorem dX8_product_147 : decode cX8_product 147 = .ok (.imul, 1) := by decide +kernel
theorem dX8_product_148 : decode cX8_product 148 = .ok (.iadd, 1) := by decide +kernel
theorem dX8_product_149 : decode cX8_product 149 = .ok (.lload 14, 2) := by decide +kernel
theorem dX8_product_151 : decode cX8_product 151 = .ok (.iload 4, 2) := by decide +kernel
theorem dX8_product_153 : decode cX8_product 153 = .ok (.ifCond .eq 21, 3) := by decide +kernel
theorem dX8_product_156 : decode cX8_product 156 = .ok (.aload_n 0, 1) := by decide +kernel
theorem dX8_product_157 : decode cX8_product 157 = .ok (.getfield 36, 3) := by decide +kernel
theorem dX8_product_160 : decode cX8_product 160 = .ok (.sipush 256, 3) := by decide +kernel
theorem dX8_product_163 : decode cX8_product 163 = .ok (.iload_n 3, 1) := by decide +kernel
theorem dX8_product_164 : decode cX8_product 164 = .ok (.imul, 1) := by decide +kernel
theorem dX8_product_165 : decode cX8_product 165 = .ok (.iconst 2, 1) := by decide +kernel
theorem dX8_product_166 : decode cX8_product 166 = .ok (.iload 5, 2) := by decide +kernel
theorem dX8_product_168 : decode cX8_product 168 = .ok (.imul, 1) := by decide +kernel
theorem dX8_product_169 : decode cX8_product 169 = .ok (.iadd, 1) := by decide +kernel
theorem dX8_product_170 : decode cX8_product 170 = .ok (.iaload, 1) := by decide +kernel
theorem dX8_product_171 : decode cX8_product 171 = .ok (.goto 4, 3) := by decide +kernel
theorem dX8_product_174 : decode cX8_product 174 = .ok (.iconst 0, 1) := by decide +kernel
theorem dX8_product_175 : decode cX8_product 175 = .ok (.i2l, 1) := by decide +kernel
theorem dX8_product_176 : decode cX8_product 176 = .ok (.ladd, 1) := by decide +kernel
theorem dX8_product_177 : decode cX8_product 177 = .ok (.invokestatic 91, 3) := by decide +kernel
theorem dX8_product_180 : decode cX8_product 180 = .ok (.iastore, 1) := by decide +kernel
theorem dX8_product_181 : decode cX8_product 181 = .ok (.aload_n 0, 1) := by decide +kernel
theorem dX8_product_182 : decode cX8_product 182 = .ok (.getfield 36, 3) := by decide +kernel
theorem dX8_product_185 : decode cX8_product 185 = .ok (.sipush 256, 3) := by decide +kernel
theorem dX8_product_188 : decode cX8_product 188 = .ok (.iload_n 3, 1) := by decide +kernel
theorem dX8_product_189 : decode cX8_product 189 = .ok (.imul, 1) := by decide +kernel
theorem dX8_product_190 : decode cX8_product 190 = .ok (.iconst 2, 1) := by decide +kernel
theorem dX8_product_191 : decode cX8_product 191 = .ok (.iload 5, 2) := by decide +kernel
theorem dX8_product_193 : decode cX8_product 193 = .ok (.imul, 1) := by decide +kernel
theorem dX8_product_194 : decode cX8_product 194 = .ok (.iadd, 1) := by decide +kernel
theorem dX8_product_195 : decode cX8_product 195 = .ok (.iconst 1, 1) := by decide +kernel
theorem dX8_product_196 : decode cX8_product 196 = .ok (.iadd, 1) := by decide +kernel
theorem dX8_product_197 : decode cX8_product 197 = .ok (.lload 16, 2) := by decide +kernel
theorem dX8_product_199 : decode cX8_product 199 = .ok (.iload 4, 2) := by decide +kernel
theorem dX8_product_201 : decode cX8_product 201 = .ok (.ifCond .eq 23, 3) := by decide +kernel
theorem dX8_product_204 : decode cX8_product 204 = .ok (.aload_n 0, 1) := by decide +kernel
theorem dX8_product_205 : decode cX8_product 205 = .ok (.getfield 36, 3) := by decide +kernel
theorem dX8_product_208 : decode cX8_product 208 = .ok (.sipush 256, 3) := by decide +kernel
theorem dX8_product_211 : decode cX8_product 211 = .ok (.iload_n 3, 1) := by decide +kernel
theorem dX8_product_212 : decode cX8_product 212 = .ok (.imul, 1) := by decide +kernel
theorem dX8_product_213 : decode cX8_product 213 = .ok (.iconst 2, 1) := by decide +kernel
theorem dX8_product_214 : decode cX8_product 214 = .ok (.iload 5, 2) := by decide +kernel
theorem dX8_product_216 : decode cX8_product 216 = .ok (.imul, 1) := by decide +kernel
theorem dX8_product_217 : decode cX8_product 217 = .ok (.iadd, 1) := by decide +kernel
theorem dX8_product_218 : decode cX8_product 218 = .ok (.iconst 1, 1) := by decide +kernel
theorem dX8_product_219 : decode cX8_product 219 = .ok (.iadd, 1) := by decide +kernel
theorem dX8_product_220 : decode cX8_product 220 = .ok (.iaload, 1) := by decide +kernel
theorem dX8_product_221 : decode cX8_product 221 = .ok (.goto 4, 3) := by decide +kernel
theorem dX8_product_224 : decode cX8_product 224 = .ok (.iconst 0, 1) := by decide +kernel
theorem dX8_product_225 : decode cX8_product 225 = .ok (.i2l, 1) := by decide +kernel
theorem dX8_product_226 : decode cX8_product 226 = .ok (.ladd, 1) := by decide +kernel
theorem dX8_product_227 : decode cX8_product 227 = .ok (.invokestatic 91, 3) := by decide +kernel
theorem dX8_product_230 : decode cX8_product 230 = .ok (.iastore, 1) := by decide +kernel
theorem dX8_product_231 : decode cX8_product 231 = .ok (.iinc 5 1, 3) := by decide +kernel
theorem dX8_product_234 : decode cX8_product 234 = .ok (.goto (-231), 3) := by decide +kernel
theorem dX8_product_237 : decode cX8_product 237 = .ok (.return_, 1) := by decide +kernel
theorem dX8_plus_0 : decode cX8_plus 0 = .ok (.iconst 0, 1) := by decide +kernel
theorem dX8_plus_1 : decode cX8_plus 1 = .ok (.istore 4, 2) := by decide +kernel
theorem dX8_plus_3 : decode cX8_plus 3 = .ok (.iload 4, 2) := by decide +kernel
theorem dX8_plus_5 : decode cX8_plus 5 = .ok (.sipush 256, 3) := by decide +kernel
theorem dX8_plus_8 : decode cX8_plus 8 = .ok (.if_icmp .ge 57, 3) := by decide +kernel
theorem dX8_plus_11 : decode cX8_plus 11 = .ok (.aload_n 0, 1) := by decide +kernel
theorem dX8_plus_12 : decode cX8_plus 12 = .ok (.getfield 36, 3) := by decide +kernel
theorem dX8_plus_15 : decode cX8_plus 15 = .ok (.sipush 256, 3) := by decide +kernel
theorem dX8_plus_18 : decode cX8_plus 18 = .ok (.iload_n 1, 1) := by decide +kernel
theorem dX8_plus_19 : decode cX8_plus 19 = .ok (.imul, 1) := by decide +kernel
theorem dX8_plus_20 : decode cX8_plus 20 = .ok (.iload 4, 2) := by decide +kernel
theorem dX8_plus_22 : decode cX8_plus 22 = .ok (.iadd, 1) := by decide +kernel
theorem dX8_plus_23 : decode cX8_plus 23 = .ok (.aload_n 0, 1) := by decide +kernel
theorem dX8_plus_24 : decode cX8_plus 24 = .ok (.getfield 36, 3) := by decide +kernel
theorem dX8_plus_27 : decode cX8_plus 27 = .ok (.sipush 256, 3) := by decide +kernel
theorem dX8_plus_30 : decode cX8_plus 30 = .ok (.iload_n 1, 1) := by decide +kernel
theorem dX8_plus_31 : decode cX8_plus 31 = .ok (.imul, 1) := by decide +kernel
theorem dX8_plus_32 : decode cX8_plus 32 = .ok (.iload 4, 2) := by decide +kernel
theorem dX8_plus_34 : decode cX8_plus 34 = .ok (.iadd, 1) := by decide +kernel
theorem dX8_plus_35 : decode cX8_plus 35 = .ok (.iaload, 1) := by decide +kernel
theorem dX8_plus_36 : decode cX8_plus 36 = .ok (.i2l, 1) := by decide +kernel
theorem dX8_plus_37 : decode cX8_plus 37 = .ok (.iload_n 3, 1) := by decide +kernel
theorem dX8_plus_38 : decode cX8_plus 38 = .ok (.i2l, 1) := by decide +kernel
theorem dX8_plus_39 : decode cX8_plus 39 = .ok (.aload_n 0, 1) := by decide +kernel
theorem dX8_plus_40 : decode cX8_plus 40 = .ok (.getfield 36, 3) := by decide +kernel
theorem dX8_plus_43 : decode cX8_plus 43 = .ok (.sipush 256, 3) := by decide +kernel
theorem dX8_plus_46 : decode cX8_plus 46 = .ok (.iload_n 2, 1) := by decide +kernel
theorem dX8_plus_47 : decode cX8_plus 47 = .ok (.imul, 1) := by decide +kernel
theorem dX8_plus_48 : decode cX8_plus 48 = .ok (.iload 4, 2) := by decide +kernel
theorem dX8_plus_50 : decode cX8_plus 50 = .ok (.iadd, 1) := by decide +kernel
theorem dX8_plus_51 : decode cX8_plus 51 = .ok (.iaload, 1) := by decide +kernel
theorem dX8_plus_52 : decode cX8_plus 52 = .ok (.i2l, 1) := by decide +kernel
theorem dX8_plus_53 : decode cX8_plus 53 = .ok (.lmul, 1) := by decide +kernel
theorem dX8_plus_54 : decode cX8_plus 54 = .ok (.ladd, 1) := by decide +kernel
theorem dX8_plus_55 : decode cX8_plus 55 = .ok (.invokestatic 91, 3) := by decide +kernel
theorem dX8_plus_58 : decode cX8_plus 58 = .ok (.iastore, 1) := by decide +kernel
theorem dX8_plus_59 : decode cX8_plus 59 = .ok (.iinc 4 1, 3) := by decide +kernel
theorem dX8_plus_62 : decode cX8_plus 62 = .ok (.goto (-59), 3) := by decide +kernel
theorem dX8_plus_65 : decode cX8_plus 65 = .ok (.return_, 1) := by decide +kernel
theorem dX8_pressed_0 : decode cX8_pressed 0 = .ok (.iconst 0, 1) := by decide +kernel
theorem dX8_pressed_1 : decode cX8_pressed 1 = .ok (.istore_n 3, 1) := by decide +kernel
theorem dX8_pressed_2 : decode cX8_pressed 2 = .ok (.iload_n 3, 1) := by decide +kernel
theorem dX8_pressed_3 : decode cX8_pressed 3 = .ok (.sipush 256, 3) := by decide +kernel
theorem dX8_pressed_6 : decode cX8_pressed 6 = .ok (.if_icmp .ge 59, 3) := by decide +kernel
theorem dX8_pressed_9 : decode cX8_pressed 9 = .ok (.ldc2_w 97, 3) := by decide +kernel
theorem dX8_pressed_12 : decode cX8_pressed 12 = .ok (.aload_n 0, 1) := by decide +kernel
theorem dX8_pressed_13 : decode cX8_pressed 13 = .ok (.getfield 36, 3) := by decide +kernel
theorem dX8_pressed_16 : decode cX8_pressed 16 = .ok (.sipush 256, 3) := by decide +kernel
theorem dX8_pressed_19 : decode cX8_pressed 19 = .ok (.iload_n 1, 1) := by decide +kernel
theorem dX8_pressed_20 : decode cX8_pressed 20 = .ok (.imul, 1) := by decide +kernel
theorem dX8_pressed_21 : decode cX8_pressed 21 = .ok (.iload_n 3, 1) := by decide +kernel
theorem dX8_pressed_22 : decode cX8_pressed 22 = .ok (.iadd, 1) := by decide +kernel
theorem dX8_pressed_23 : decode cX8_pressed 23 = .ok (.iaload, 1) := by decide +kernel
theorem dX8_pressed_24 : decode cX8_pressed 24 = .ok (.i2l, 1) := by decide +kernel
theorem dX8_pressed_25 : decode cX8_pressed 25 = .ok (.lmul, 1) := by decide +kernel
theorem dX8_pressed_26 : decode cX8_pressed 26 = .ok (.lconst 1, 1) := by decide +kernel
theorem dX8_pressed_27 : decode cX8_pressed 27 = .ok (.iload_n 2, 1) := by decide +kernel
theorem dX8_pressed_28 : decode cX8_pressed 28 = .ok (.lshl, 1) := by decide +kernel
theorem dX8_pressed_29 : decode cX8_pressed 29 = .ok (.lmul, 1) := by decide +kernel
theorem dX8_pressed_30 : decode cX8_pressed 30 = .ok (.ldc2_w 85, 3) := by decide +kernel
theorem dX8_pressed_33 : decode cX8_pressed 33 = .ok (.ladd, 1) := by decide +kernel
theorem dX8_pressed_34 : decode cX8_pressed 34 = .ok (.lstore 4, 2) := by decide +kernel
theorem dX8_pressed_36 : decode cX8_pressed 36 = .ok (.aload_n 0, 1) := by decide +kernel
theorem dX8_pressed_37 : decode cX8_pressed 37 = .ok (.getfield 36, 3) := by decide +kernel
theorem dX8_pressed_40 : decode cX8_pressed 40 = .ok (.sipush 256, 3) := by decide +kernel
theorem dX8_pressed_43 : decode cX8_pressed 43 = .ok (.iload_n 1, 1) := by decide +kernel
theorem dX8_pressed_44 : decode cX8_pressed 44 = .ok (.imul, 1) := by decide +kernel
theorem dX8_pressed_45 : decode cX8_pressed 45 = .ok (.iload_n 3, 1) := by decide +kernel
theorem dX8_pressed_46 : decode cX8_pressed 46 = .ok (.iadd, 1) := by decide +kernel
theorem dX8_pressed_47 : decode cX8_pressed 47 = .ok (.lload 4, 2) := by decide +kernel
theorem dX8_pressed_49 : decode cX8_pressed 49 = .ok (.ldc2_w 99, 3) := by decide +kernel
theorem dX8_pressed_52 : decode cX8_pressed 52 = .ok (.ldiv, 1) := by decide +kernel
theorem dX8_pressed_53 : decode cX8_pressed 53 = .ok (.lconst 1, 1) := by decide +kernel
theorem dX8_pressed_54 : decode cX8_pressed 54 = .ok (.iload_n 2, 1) := by decide +kernel
theorem dX8_pressed_55 : decode cX8_pressed 55 = .ok (.lshl, 1) := by decide +kernel
theorem dX8_pressed_56 : decode cX8_pressed 56 = .ok (.lrem, 1) := by decide +kernel
theorem dX8_pressed_57 : decode cX8_pressed 57 = .ok (.l2i, 1) := by decide +kernel
theorem dX8_pressed_58 : decode cX8_pressed 58 = .ok (.iastore, 1) := by decide +kernel
theorem dX8_pressed_59 : decode cX8_pressed 59 = .ok (.iinc 3 1, 3) := by decide +kernel
theorem dX8_pressed_62 : decode cX8_pressed 62 = .ok (.goto (-60), 3) := by decide +kernel
theorem dX8_pressed_65 : decode cX8_pressed 65 = .ok (.return_, 1) := by decide +kernel
theorem dX8_stretched_0 : decode cX8_stretched 0 = .ok (.iconst 0, 1) := by decide +kernel
theorem dX8_stretched_1 : decode cX8_stretched 1 = .ok (.istore_n 3, 1) := by decide +kernel
theorem dX8_stretched_2 : decode cX8_stretched 2 = .ok (.iload_n 3, 1) := by decide +kernel
theorem dX8_stretched_3 : decode cX8_stretched 3 = .ok (.sipush 256, 3) := by decide +kernel
theorem dX8_stretched_6 : decode cX8_stretched 6 = .ok (.if_icmp .ge 61, 3) := by decide +kernel
theorem dX8_stretched_9 : decode cX8_stretched 9 = .ok (.aload_n 0, 1) := by decide +kernel
theorem dX8_stretched_10 : decode cX8_stretched 10 = .ok (.getfield 36, 3) := by decide +kernel
theorem dX8_stretched_13 : decode cX8_stretched 13 = .ok (.sipush 256, 3) := by decide +kernel
theorem dX8_stretched_16 : decode cX8_stretched 16 = .ok (.iload_n 1, 1) := by decide +kernel
theorem dX8_stretched_17 : decode cX8_stretched 17 = .ok (.imul, 1) := by decide +kernel
theorem dX8_stretched_18 : decode cX8_stretched 18 = .ok (.iload_n 3, 1) := by decide +kernel
theorem dX8_stretched_19 : decode cX8_stretched 19 = .ok (.iadd, 1) := by decide +kernel
theorem dX8_stretched_20 : decode cX8_stretched 20 = .ok (.iaload, 1) := by decide +kernel
theorem dX8_stretched_21 : decode cX8_stretched 21 = .ok (.iconst 1, 1) := by decide +kernel
theorem dX8_stretched_22 : decode cX8_stretched 22 = .ok (.iload_n 2, 1) := by decide +kernel
theorem dX8_stretched_23 : decode cX8_stretched 23 = .ok (.ishl, 1) := by decide +kernel
theorem dX8_stretched_24 : decode cX8_stretched 24 = .ok (.irem, 1) := by decide +kernel
theorem dX8_stretched_25 : decode cX8_stretched 25 = .ok (.i2l, 1) := by decide +kernel
theorem dX8_stretched_26 : decode cX8_stretched 26 = .ok (.lstore 4, 2) := by decide +kernel
theorem dX8_stretched_28 : decode cX8_stretched 28 = .ok (.aload_n 0, 1) := by decide +kernel
theorem dX8_stretched_29 : decode cX8_stretched 29 = .ok (.getfield 36, 3) := by decide +kernel
theorem dX8_stretched_32 : decode cX8_stretched 32 = .ok (.sipush 256, 3) := by decide +kernel
theorem dX8_stretched_35 : decode cX8_stretched 35 = .ok (.iload_n 1, 1) := by decide +kernel
theorem dX8_stretched_36 : decode cX8_stretched 36 = .ok (.imul, 1) := by decide +kernel
theorem dX8_stretched_37 : decode cX8_stretched 37 = .ok (.iload_n 3, 1) := by decide +kernel
theorem dX8_stretched_38 : decode cX8_stretched 38 = .ok (.iadd, 1) := by decide +kernel
theorem dX8_stretched_39 : decode cX8_stretched 39 = .ok (.ldc2_w 97, 3) := by decide +kernel
theorem dX8_stretched_42 : decode cX8_stretched 42 = .ok (.lload 4, 2) := by decide +kernel
theorem dX8_stretched_44 : decode cX8_stretched 44 = .ok (.lmul, 1) := by decide +kernel
theorem dX8_stretched_45 : decode cX8_stretched 45 = .ok (.ldc2_w 85, 3) := by decide +kernel
theorem dX8_stretched_48 : decode cX8_stretched 48 = .ok (.lmul, 1) := by decide +kernel
theorem dX8_stretched_49 : decode cX8_stretched 49 = .ok (.lconst 1, 1) := by decide +kernel
theorem dX8_stretched_50 : decode cX8_stretched 50 = .ok (.iload_n 2, 1) := by decide +kernel
theorem dX8_stretched_51 : decode cX8_stretched 51 = .ok (.lshl, 1) := by decide +kernel
theorem dX8_stretched_52 : decode cX8_stretched 52 = .ok (.ladd, 1) := by decide +kernel
theorem dX8_stretched_53 : decode cX8_stretched 53 = .ok (.ldc2_w 97, 3) := by decide +kernel
theorem dX8_stretched_56 : decode cX8_stretched 56 = .ok (.iload_n 2, 1) := by decide +kernel
theorem dX8_stretched_57 : decode cX8_stretched 57 = .ok (.lshl, 1) := by decide +kernel
theorem dX8_stretched_58 : decode cX8_stretched 58 = .ok (.ldiv, 1) := by decide +kernel
theorem dX8_stretched_59 : decode cX8_stretched 59 = .ok (.l2i, 1) := by decide +kernel
theorem dX8_stretched_60 : decode cX8_stretched 60 = .ok (.iastore, 1) := by decide +kernel
theorem dX8_stretched_61 : decode cX8_stretched 61 = .ok (.iinc 3 1, 3) := by decide +kernel
theorem dX8_stretched_64 : decode cX8_stretched 64 = .ok (.goto (-62), 3) := by decide +kernel
theorem dX8_stretched_67 : decode cX8_stretched 67 = .ok (.return_, 1) := by decide +kernel
theorem dX8_written_0 : decode cX8_written 0 = .ok (.iconst 0, 1) := by decide +kernel
theorem dX8_written_1 : decode cX8_written 1 = .ok (.istore 4, 2) := by decide +kernel
theorem dX8_written_3 : decode cX8_written 3 = .ok (.iload 4, 2) := by decide +kernel
theorem dX8_written_5 : decode cX8_written 5 = .ok (.bipush 32, 2) := by decide +kernel
theorem dX8_written_7 : decode cX8_written 7 = .ok (.iload_n 2, 1) := by decide +kernel
theorem dX8_written_8 : decode cX8_written 8 = .ok (.imul, 1) := by decide +kernel
theorem dX8_written_9 : decode cX8_written 9 = .ok (.if_icmp .ge 19, 3) := by decide +kernel
theorem dX8_written_12 : decode cX8_written 12 = .ok (.aload_n 0, 1) := by decide +kernel
theorem dX8_written_13 : decode cX8_written 13 = .ok (.getfield 7, 3) := by decide +kernel
theorem dX8_written_16 : decode cX8_written 16 = .ok (.iload_n 3, 1) := by decide +kernel
theorem dX8_written_17 : decode cX8_written 17 = .ok (.iload 4, 2) := by decide +kernel
theorem dX8_written_19 : decode cX8_written 19 = .ok (.iadd, 1) := by decide +kernel
theorem dX8_written_20 : decode cX8_written 20 = .ok (.iconst 0, 1) := by decide +kernel
theorem dX8_written_21 : decode cX8_written 21 = .ok (.bastore, 1) := by decide +kernel
theorem dX8_written_22 : decode cX8_written 22 = .ok (.iinc 4 1, 3) := by decide +kernel
theorem dX8_written_25 : decode cX8_written 25 = .ok (.goto (-22), 3) := by decide +kernel
theorem dX8_written_28 : decode cX8_written 28 = .ok (.iconst 0, 1) := by decide +kernel
theorem dX8_written_29 : decode cX8_written 29 = .ok (.istore 4, 2) := by decide +kernel
theorem dX8_written_31 : decode cX8_written 31 = .ok (.iload 4, 2) := by decide +kernel
theorem dX8_written_33 : decode cX8_written 33 = .ok (.sipush 256, 3) := by decide +kernel
theorem dX8_written_36 : decode cX8_written 36 = .ok (.iload_n 2, 1) := by decide +kernel
theorem dX8_written_37 : decode cX8_written 37 = .ok (.imul, 1) := by decide +kernel
theorem dX8_written_38 : decode cX8_written 38 = .ok (.if_icmp .ge 58, 3) := by decide +kernel
theorem dX8_written_41 : decode cX8_written 41 = .ok (.aload_n 0, 1) := by decide +kernel
theorem dX8_written_42 : decode cX8_written 42 = .ok (.getfield 36, 3) := by decide +kernel
theorem dX8_written_45 : decode cX8_written 45 = .ok (.sipush 256, 3) := by decide +kernel
theorem dX8_written_48 : decode cX8_written 48 = .ok (.iload_n 1, 1) := by decide +kernel
theorem dX8_written_49 : decode cX8_written 49 = .ok (.imul, 1) := by decide +kernel
theorem dX8_written_50 : decode cX8_written 50 = .ok (.iload 4, 2) := by decide +kernel
theorem dX8_written_52 : decode cX8_written 52 = .ok (.iload_n 2, 1) := by decide +kernel
theorem dX8_written_53 : decode cX8_written 53 = .ok (.idiv, 1) := by decide +kernel
theorem dX8_written_54 : decode cX8_written 54 = .ok (.iadd, 1) := by decide +kernel
theorem dX8_written_55 : decode cX8_written 55 = .ok (.iaload, 1) := by decide +kernel
theorem dX8_written_56 : decode cX8_written 56 = .ok (.iload 4, 2) := by decide +kernel
theorem dX8_written_58 : decode cX8_written 58 = .ok (.iload_n 2, 1) := by decide +kernel
theorem dX8_written_59 : decode cX8_written 59 = .ok (.irem, 1) := by decide +kernel
theorem dX8_written_60 : decode cX8_written 60 = .ok (.ishr, 1) := by decide +kernel
theorem dX8_written_61 : decode cX8_written 61 = .ok (.iconst 1, 1) := by decide +kernel
theorem dX8_written_62 : decode cX8_written 62 = .ok (.iand, 1) := by decide +kernel
theorem dX8_written_63 : decode cX8_written 63 = .ok (.istore 5, 2) := by decide +kernel
theorem dX8_written_65 : decode cX8_written 65 = .ok (.aload_n 0, 1) := by decide +kernel
theorem dX8_written_66 : decode cX8_written 66 = .ok (.getfield 7, 3) := by decide +kernel
theorem dX8_written_69 : decode cX8_written 69 = .ok (.iload_n 3, 1) := by decide +kernel
theorem dX8_written_70 : decode cX8_written 70 = .ok (.iload 4, 2) := by decide +kernel
theorem dX8_written_72 : decode cX8_written 72 = .ok (.bipush 8, 2) := by decide +kernel
theorem dX8_written_74 : decode cX8_written 74 = .ok (.idiv, 1) := by decide +kernel
theorem dX8_written_75 : decode cX8_written 75 = .ok (.iadd, 1) := by decide +kernel
theorem dX8_written_76 : decode cX8_written 76 = .ok (.dup2, 1) := by decide +kernel
theorem dX8_written_77 : decode cX8_written 77 = .ok (.baload, 1) := by decide +kernel
theorem dX8_written_78 : decode cX8_written 78 = .ok (.iload 5, 2) := by decide +kernel
theorem dX8_written_80 : decode cX8_written 80 = .ok (.iload 4, 2) := by decide +kernel
theorem dX8_written_82 : decode cX8_written 82 = .ok (.bipush 8, 2) := by decide +kernel
theorem dX8_written_84 : decode cX8_written 84 = .ok (.irem, 1) := by decide +kernel
theorem dX8_written_85 : decode cX8_written 85 = .ok (.ishl, 1) := by decide +kernel
theorem dX8_written_86 : decode cX8_written 86 = .ok (.i2b, 1) := by decide +kernel
theorem dX8_written_87 : decode cX8_written 87 = .ok (.ior, 1) := by decide +kernel
theorem dX8_written_88 : decode cX8_written 88 = .ok (.i2b, 1) := by decide +kernel
theorem dX8_written_89 : decode cX8_written 89 = .ok (.bastore, 1) := by decide +kernel
theorem dX8_written_90 : decode cX8_written 90 = .ok (.iinc 4 1, 3) := by decide +kernel
theorem dX8_written_93 : decode cX8_written 93 = .ok (.goto (-62), 3) := by decide +kernel
theorem dX8_written_96 : decode cX8_written 96 = .ok (.return_, 1) := by decide +kernel
theorem dX8_group_0 : decode cX8_group 0 = .ok (.iconst 0, 1) := by decide +kernel
theorem dX8_group_1 : decode cX8_group 1 = .ok (.istore 4, 2) := by decide +kernel
theorem dX8_group_3 : decode cX8_group 3 = .ok (.iconst 0, 1) := by decide +kernel
theorem dX8_group_4 : decode cX8_group 4 = .ok (.istore 5, 2) := by decide +kernel
theorem dX8_group_6 : decode cX8_group 6 = .ok (.iload 5, 2) := by decide +kernel
theorem dX8_group_8 : decode cX8_group 8 = .ok (.iload_n 3, 1) := by decide +kernel
theorem dX8_group_9 : decode cX8_group 9 = .ok (.if_icmp .ge 44, 3) := by decide +kernel
theorem dX8_group_12 : decode cX8_group 12 = .ok (.iload_n 3, 1) := by decide +kernel
theorem dX8_group_13 : decode cX8_group 13 = .ok (.iload_n 2, 1) := by decide +kernel
theorem dX8_group_14 : decode cX8_group 14 = .ok (.imul, 1) := by decide +kernel
theorem dX8_group_15 : decode cX8_group 15 = .ok (.iload 5, 2) := by decide +kernel
theorem dX8_group_17 : decode cX8_group 17 = .ok (.iadd, 1) := by decide +kernel
theorem dX8_group_18 : decode cX8_group 18 = .ok (.istore 6, 2) := by decide +kernel
theorem dX8_group_20 : decode cX8_group 20 = .ok (.iload 4, 2) := by decide +kernel
theorem dX8_group_22 : decode cX8_group 22 = .ok (.aload_n 0, 1) := by decide +kernel
theorem dX8_group_23 : decode cX8_group 23 = .ok (.iload_n 1, 1) := by decide +kernel
theorem dX8_group_24 : decode cX8_group 24 = .ok (.iload 6, 2) := by decide +kernel
theorem dX8_group_26 : decode cX8_group 26 = .ok (.bipush 8, 2) := by decide +kernel
theorem dX8_group_28 : decode cX8_group 28 = .ok (.idiv, 1) := by decide +kernel
theorem dX8_group_29 : decode cX8_group 29 = .ok (.iadd, 1) := by decide +kernel
theorem dX8_group_30 : decode cX8_group 30 = .ok (.invokevirtual 74, 3) := by decide +kernel
theorem dX8_group_33 : decode cX8_group 33 = .ok (.iload 6, 2) := by decide +kernel
theorem dX8_group_35 : decode cX8_group 35 = .ok (.bipush 8, 2) := by decide +kernel
theorem dX8_group_37 : decode cX8_group 37 = .ok (.irem, 1) := by decide +kernel
theorem dX8_group_38 : decode cX8_group 38 = .ok (.ishr, 1) := by decide +kernel
theorem dX8_group_39 : decode cX8_group 39 = .ok (.iconst 1, 1) := by decide +kernel
theorem dX8_group_40 : decode cX8_group 40 = .ok (.iand, 1) := by decide +kernel
theorem dX8_group_41 : decode cX8_group 41 = .ok (.iload 5, 2) := by decide +kernel
theorem dX8_group_43 : decode cX8_group 43 = .ok (.ishl, 1) := by decide +kernel
theorem dX8_group_44 : decode cX8_group 44 = .ok (.ior, 1) := by decide +kernel
theorem dX8_group_45 : decode cX8_group 45 = .ok (.istore 4, 2) := by decide +kernel
theorem dX8_group_47 : decode cX8_group 47 = .ok (.iinc 5 1, 3) := by decide +kernel
theorem dX8_group_50 : decode cX8_group 50 = .ok (.goto (-44), 3) := by decide +kernel
theorem dX8_group_53 : decode cX8_group 53 = .ok (.iload 4, 2) := by decide +kernel
theorem dX8_group_55 : decode cX8_group 55 = .ok (.ireturn, 1) := by decide +kernel
theorem dX8_readPol_0 : decode cX8_readPol 0 = .ok (.iconst 0, 1) := by decide +kernel
theorem dX8_readPol_1 : decode cX8_readPol 1 = .ok (.istore 4, 2) := by decide +kernel
theorem dX8_readPol_3 : decode cX8_readPol 3 = .ok (.iload 4, 2) := by decide +kernel
theorem dX8_readPol_5 : decode cX8_readPol 5 = .ok (.sipush 256, 3) := by decide +kernel
theorem dX8_readPol_8 : decode cX8_readPol 8 = .ok (.if_icmp .ge 34, 3) := by decide +kernel
theorem dX8_readPol_11 : decode cX8_readPol 11 = .ok (.aload_n 0, 1) := by decide +kernel
theorem dX8_readPol_12 : decode cX8_readPol 12 = .ok (.getfield 36, 3) := by decide +kernel
theorem dX8_readPol_15 : decode cX8_readPol 15 = .ok (.sipush 256, 3) := by decide +kernel
theorem dX8_readPol_18 : decode cX8_readPol 18 = .ok (.iload_n 1, 1) := by decide +kernel
theorem dX8_readPol_19 : decode cX8_readPol 19 = .ok (.imul, 1) := by decide +kernel
theorem dX8_readPol_20 : decode cX8_readPol 20 = .ok (.iload 4, 2) := by decide +kernel
theorem dX8_readPol_22 : decode cX8_readPol 22 = .ok (.iadd, 1) := by decide +kernel
theorem dX8_readPol_23 : decode cX8_readPol 23 = .ok (.aload_n 0, 1) := by decide +kernel
theorem dX8_readPol_24 : decode cX8_readPol 24 = .ok (.iload_n 3, 1) := by decide +kernel
theorem dX8_readPol_25 : decode cX8_readPol 25 = .ok (.iload 4, 2) := by decide +kernel
theorem dX8_readPol_27 : decode cX8_readPol 27 = .ok (.iload_n 2, 1) := by decide +kernel
theorem dX8_readPol_28 : decode cX8_readPol 28 = .ok (.invokevirtual 101, 3) := by decide +kernel
theorem dX8_readPol_31 : decode cX8_readPol 31 = .ok (.sipush 3329, 3) := by decide +kernel
theorem dX8_readPol_34 : decode cX8_readPol 34 = .ok (.irem, 1) := by decide +kernel
theorem dX8_readPol_35 : decode cX8_readPol 35 = .ok (.iastore, 1) := by decide +kernel
theorem dX8_readPol_36 : decode cX8_readPol 36 = .ok (.iinc 4 1, 3) := by decide +kernel
theorem dX8_readPol_39 : decode cX8_readPol 39 = .ok (.goto (-36), 3) := by decide +kernel
theorem dX8_readPol_42 : decode cX8_readPol 42 = .ok (.return_, 1) := by decide +kernel
theorem dX8_sampled_0 : decode cX8_sampled 0 = .ok (.aload_n 0, 1) := by decide +kernel
theorem dX8_sampled_1 : decode cX8_sampled 1 = .ok (.sipush 168, 3) := by decide +kernel
theorem dX8_sampled_4 : decode cX8_sampled 4 = .ok (.sipush 11336, 3) := by decide +kernel
theorem dX8_sampled_7 : decode cX8_sampled 7 = .ok (.bipush 34, 2) := by decide +kernel
theorem dX8_sampled_9 : decode cX8_sampled 9 = .ok (.iconst 0, 1) := by decide +kernel
theorem dX8_sampled_10 : decode cX8_sampled 10 = .ok (.invokevirtual 104, 3) := by decide +kernel
theorem dX8_sampled_13 : decode cX8_sampled 13 = .ok (.iconst 0, 1) := by decide +kernel
theorem dX8_sampled_14 : decode cX8_sampled 14 = .ok (.istore_n 2, 1) := by decide +kernel
theorem dX8_sampled_15 : decode cX8_sampled 15 = .ok (.iconst 0, 1) := by decide +kernel
theorem dX8_sampled_16 : decode cX8_sampled 16 = .ok (.istore_n 3, 1) := by decide +kernel
theorem dX8_sampled_17 : decode cX8_sampled 17 = .ok (.iload_n 2, 1) := by decide +kernel
theorem dX8_sampled_18 : decode cX8_sampled 18 = .ok (.sipush 256, 3) := by decide +kernel
theorem dX8_sampled_21 : decode cX8_sampled 21 = .ok (.if_icmp .ge 115, 3) := by decide +kernel
theorem dX8_sampled_24 : decode cX8_sampled 24 = .ok (.iload_n 3, 1) := by decide +kernel
theorem dX8_sampled_25 : decode cX8_sampled 25 = .ok (.aload_n 0, 1) := by decide +kernel
theorem dX8_sampled_26 : decode cX8_sampled 26 = .ok (.getfield 17, 3) := by decide +kernel
theorem dX8_sampled_29 : decode cX8_sampled 29 = .ok (.if_icmp .ge 107, 3) := by decide +kernel
theorem dX8_sampled_32 : decode cX8_sampled 32 = .ok (.aload_n 0, 1) := by decide +kernel
theorem dX8_sampled_33 : decode cX8_sampled 33 = .ok (.invokevirtual 81, 3) := by decide +kernel
theorem dX8_sampled_36 : decode cX8_sampled 36 = .ok (.istore 4, 2) := by decide +kernel
theorem dX8_sampled_38 : decode cX8_sampled 38 = .ok (.aload_n 0, 1) := by decide +kernel
theorem dX8_sampled_39 : decode cX8_sampled 39 = .ok (.invokevirtual 81, 3) := by decide +kernel
theorem dX8_sampled_42 : decode cX8_sampled 42 = .ok (.istore 5, 2) := by decide +kernel
theorem dX8_sampled_44 : decode cX8_sampled 44 = .ok (.aload_n 0, 1) := by decide +kernel
theorem dX8_sampled_45 : decode cX8_sampled 45 = .ok (.invokevirtual 81, 3) := by decide +kernel
theorem dX8_sampled_48 : decode cX8_sampled 48 = .ok (.istore 6, 2) := by decide +kernel
theorem dX8_sampled_50 : decode cX8_sampled 50 = .ok (.iinc 3 1, 3) := by decide +kernel
theorem dX8_sampled_53 : decode cX8_sampled 53 = .ok (.iload 4, 2) := by decide +kernel
theorem dX8_sampled_55 : decode cX8_sampled 55 = .ok (.sipush 256, 3) := by decide +kernel
theorem dX8_sampled_58 : decode cX8_sampled 58 = .ok (.iload 5, 2) := by decide +kernel
theorem dX8_sampled_60 : decode cX8_sampled 60 = .ok (.bipush 16, 2) := by decide +kernel
theorem dX8_sampled_62 : decode cX8_sampled 62 = .ok (.irem, 1) := by decide +kernel
theorem dX8_sampled_63 : decode cX8_sampled 63 = .ok (.imul, 1) := by decide +kernel
theorem dX8_sampled_64 : decode cX8_sampled 64 = .ok (.iadd, 1) := by decide +kernel
theorem dX8_sampled_65 : decode cX8_sampled 65 = .ok (.istore 7, 2) := by decide +kernel
theorem dX8_sampled_67 : decode cX8_sampled 67 = .ok (.iload 5, 2) := by decide +kernel
theorem dX8_sampled_69 : decode cX8_sampled 69 = .ok (.bipush 16, 2) := by decide +kernel
theorem dX8_sampled_71 : decode cX8_sampled 71 = .ok (.idiv, 1) := by decide +kernel
theorem dX8_sampled_72 : decode cX8_sampled 72 = .ok (.bipush 16, 2) := by decide +kernel
theorem dX8_sampled_74 : decode cX8_sampled 74 = .ok (.iload 6, 2) := by decide +kernel
theorem dX8_sampled_76 : decode cX8_sampled 76 = .ok (.imul, 1) := by decide +kernel
theorem dX8_sampled_77 : decode cX8_sampled 77 = .ok (.iadd, 1) := by decide +kernel
theorem dX8_sampled_78 : decode cX8_sampled 78 = .ok (.istore 8, 2) := by decide +kernel
theorem dX8_sampled_80 : decode cX8_sampled 80 = .ok (.iload 7, 2) := by decide +kernel
theorem dX8_sampled_82 : decode cX8_sampled 82 = .ok (.sipush 3329, 3) := by decide +kernel
theorem dX8_sampled_85 : decode cX8_sampled 85 = .ok (.if_icmp .ge 18, 3) := by decide +kernel
theorem dX8_sampled_88 : decode cX8_sampled 88 = .ok (.aload_n 0, 1) := by decide +kernel
theorem dX8_sampled_89 : decode cX8_sampled 89 = .ok (.getfield 36, 3) := by decide +kernel
theorem dX8_sampled_92 : decode cX8_sampled 92 = .ok (.sipush 4608, 3) := by decide +kernel
theorem dX8_sampled_95 : decode cX8_sampled 95 = .ok (.iload_n 2, 1) := by decide +kernel
theorem dX8_sampled_96 : decode cX8_sampled 96 = .ok (.iadd, 1) := by decide +kernel
theorem dX8_sampled_97 : decode cX8_sampled 97 = .ok (.iload 7, 2) := by decide +kernel
theorem dX8_sampled_99 : decode cX8_sampled 99 = .ok (.iastore, 1) := by decide +kernel
theorem dX8_sampled_100 : decode cX8_sampled 100 = .ok (.iinc 2 1, 3) := by decide +kernel
theorem dX8_sampled_103 : decode cX8_sampled 103 = .ok (.iload 8, 2) := by decide +kernel
theorem dX8_sampled_105 : decode cX8_sampled 105 = .ok (.sipush 3329, 3) := by decide +kernel
theorem dX8_sampled_108 : decode cX8_sampled 108 = .ok (.if_icmp .ge 25, 3) := by decide +kernel
theorem dX8_sampled_111 : decode cX8_sampled 111 = .ok (.iload_n 2, 1) := by decide +kernel
theorem dX8_sampled_112 : decode cX8_sampled 112 = .ok (.sipush 256, 3) := by decide +kernel
theorem dX8_sampled_115 : decode cX8_sampled 115 = .ok (.if_icmp .ge 18, 3) := by decide +kernel
theorem dX8_sampled_118 : decode cX8_sampled 118 = .ok (.aload_n 0, 1) := by decide +kernel
theorem dX8_sampled_119 : decode cX8_sampled 119 = .ok (.getfield 36, 3) := by decide +kernel
theorem dX8_sampled_122 : decode cX8_sampled 122 = .ok (.sipush 4608, 3) := by decide +kernel
theorem dX8_sampled_125 : decode cX8_sampled 125 = .ok (.iload_n 2, 1) := by decide +kernel
theorem dX8_sampled_126 : decode cX8_sampled 126 = .ok (.iadd, 1) := by decide +kernel
theorem dX8_sampled_127 : decode cX8_sampled 127 = .ok (.iload 8, 2) := by decide +kernel
theorem dX8_sampled_129 : decode cX8_sampled 129 = .ok (.iastore, 1) := by decide +kernel
theorem dX8_sampled_130 : decode cX8_sampled 130 = .ok (.iinc 2 1, 3) := by decide +kernel
theorem dX8_sampled_133 : decode cX8_sampled 133 = .ok (.goto (-116), 3) := by decide +kernel
theorem dX8_sampled_136 : decode cX8_sampled 136 = .ok (.iload_n 2, 1) := by decide +kernel
theorem dX8_sampled_137 : decode cX8_sampled 137 = .ok (.sipush 256, 3) := by decide +kernel
theorem dX8_sampled_140 : decode cX8_sampled 140 = .ok (.if_icmp .ge 5, 3) := by decide +kernel
theorem dX8_sampled_143 : decode cX8_sampled 143 = .ok (.iconst (-1), 1) := by decide +kernel
theorem dX8_sampled_144 : decode cX8_sampled 144 = .ok (.ireturn, 1) := by decide +kernel
theorem dX8_sampled_145 : decode cX8_sampled 145 = .ok (.aload_n 0, 1) := by decide +kernel
theorem dX8_sampled_146 : decode cX8_sampled 146 = .ok (.bipush 18, 2) := by decide +kernel
theorem dX8_sampled_148 : decode cX8_sampled 148 = .ok (.iload_n 1, 1) := by decide +kernel
theorem dX8_sampled_149 : decode cX8_sampled 149 = .ok (.invokevirtual 87, 3) := by decide +kernel
theorem dX8_sampled_152 : decode cX8_sampled 152 = .ok (.iload_n 3, 1) := by decide +kernel
theorem dX8_sampled_153 : decode cX8_sampled 153 = .ok (.ireturn, 1) := by decide +kernel
theorem dX8_matrix_0 : decode cX8_matrix 0 = .ok (.aload_n 0, 1) := by decide +kernel
theorem dX8_matrix_1 : decode cX8_matrix 1 = .ok (.iload_n 1, 1) := by decide +kernel
theorem dX8_matrix_2 : decode cX8_matrix 2 = .ok (.sipush 11336, 3) := by decide +kernel
theorem dX8_matrix_5 : decode cX8_matrix 5 = .ok (.bipush 32, 2) := by decide +kernel
theorem dX8_matrix_7 : decode cX8_matrix 7 = .ok (.invokevirtual 108, 3) := by decide +kernel
theorem dX8_matrix_10 : decode cX8_matrix 10 = .ok (.aload_n 0, 1) := by decide +kernel
theorem dX8_matrix_11 : decode cX8_matrix 11 = .ok (.getfield 7, 3) := by decide +kernel
theorem dX8_matrix_14 : decode cX8_matrix 14 = .ok (.sipush 11368, 3) := by decide +kernel
theorem dX8_matrix_17 : decode cX8_matrix 17 = .ok (.iload_n 2, 1) := by decide +kernel
theorem dX8_matrix_18 : decode cX8_matrix 18 = .ok (.i2b, 1) := by decide +kernel
theorem dX8_matrix_19 : decode cX8_matrix 19 = .ok (.bastore, 1) := by decide +kernel
theorem dX8_matrix_20 : decode cX8_matrix 20 = .ok (.aload_n 0, 1) := by decide +kernel
theorem dX8_matrix_21 : decode cX8_matrix 21 = .ok (.getfield 7, 3) := by decide +kernel
theorem dX8_matrix_24 : decode cX8_matrix 24 = .ok (.sipush 11369, 3) := by decide +kernel
theorem dX8_matrix_27 : decode cX8_matrix 27 = .ok (.iload_n 3, 1) := by decide +kernel
theorem dX8_matrix_28 : decode cX8_matrix 28 = .ok (.i2b, 1) := by decide +kernel
theorem dX8_matrix_29 : decode cX8_matrix 29 = .ok (.bastore, 1) := by decide +kernel
theorem dX8_matrix_30 : decode cX8_matrix 30 = .ok (.aload_n 0, 1) := by decide +kernel
theorem dX8_matrix_31 : decode cX8_matrix 31 = .ok (.iload 4, 2) := by decide +kernel
theorem dX8_matrix_33 : decode cX8_matrix 33 = .ok (.invokevirtual 112, 3) := by decide +kernel
theorem dX8_matrix_36 : decode cX8_matrix 36 = .ok (.ireturn, 1) := by decide +kernel
theorem dX8_noised_0 : decode cX8_noised 0 = .ok (.aload_n 0, 1) := by decide +kernel
theorem dX8_noised_1 : decode cX8_noised 1 = .ok (.iload_n 1, 1) := by decide +kernel
theorem dX8_noised_2 : decode cX8_noised 2 = .ok (.sipush 11336, 3) := by decide +kernel
theorem dX8_noised_5 : decode cX8_noised 5 = .ok (.bipush 32, 2) := by decide +kernel
theorem dX8_noised_7 : decode cX8_noised 7 = .ok (.invokevirtual 108, 3) := by decide +kernel
theorem dX8_noised_10 : decode cX8_noised 10 = .ok (.aload_n 0, 1) := by decide +kernel
theorem dX8_noised_11 : decode cX8_noised 11 = .ok (.getfield 7, 3) := by decide +kernel
theorem dX8_noised_14 : decode cX8_noised 14 = .ok (.sipush 11368, 3) := by decide +kernel
theorem dX8_noised_17 : decode cX8_noised 17 = .ok (.iload_n 2, 1) := by decide +kernel
theorem dX8_noised_18 : decode cX8_noised 18 = .ok (.i2b, 1) := by decide +kernel
theorem dX8_noised_19 : decode cX8_noised 19 = .ok (.bastore, 1) := by decide +kernel
theorem dX8_noised_20 : decode cX8_noised 20 = .ok (.aload_n 0, 1) := by decide +kernel
theorem dX8_noised_21 : decode cX8_noised 21 = .ok (.sipush 136, 3) := by decide +kernel
theorem dX8_noised_24 : decode cX8_noised 24 = .ok (.sipush 11336, 3) := by decide +kernel
theorem dX8_noised_27 : decode cX8_noised 27 = .ok (.bipush 33, 2) := by decide +kernel
theorem dX8_noised_29 : decode cX8_noised 29 = .ok (.iconst 0, 1) := by decide +kernel
theorem dX8_noised_30 : decode cX8_noised 30 = .ok (.invokevirtual 104, 3) := by decide +kernel
theorem dX8_noised_33 : decode cX8_noised 33 = .ok (.aload_n 0, 1) := by decide +kernel
theorem dX8_noised_34 : decode cX8_noised 34 = .ok (.sipush 15436, 3) := by decide +kernel
theorem dX8_noised_37 : decode cX8_noised 37 = .ok (.bipush 64, 2) := by decide +kernel
theorem dX8_noised_39 : decode cX8_noised 39 = .ok (.iload_n 3, 1) := by decide +kernel
theorem dX8_noised_40 : decode cX8_noised 40 = .ok (.imul, 1) := by decide +kernel
theorem dX8_noised_41 : decode cX8_noised 41 = .ok (.invokevirtual 115, 3) := by decide +kernel
theorem dX8_noised_44 : decode cX8_noised 44 = .ok (.iconst 0, 1) := by decide +kernel
theorem dX8_noised_45 : decode cX8_noised 45 = .ok (.istore 5, 2) := by decide +kernel
theorem dX8_noised_47 : decode cX8_noised 47 = .ok (.iload 5, 2) := by decide +kernel
theorem dX8_noised_49 : decode cX8_noised 49 = .ok (.sipush 256, 3) := by decide +kernel
theorem dX8_noised_52 : decode cX8_noised 52 = .ok (.if_icmp .ge 102, 3) := by decide +kernel
theorem dX8_noised_55 : decode cX8_noised 55 = .ok (.iconst 0, 1) := by decide +kernel
theorem dX8_noised_56 : decode cX8_noised 56 = .ok (.istore 6, 2) := by decide +kernel
theorem dX8_noised_58 : decode cX8_noised 58 = .ok (.iconst 0, 1) := by decide +kernel
theorem dX8_noised_59 : decode cX8_noised 59 = .ok (.istore 7, 2) := by decide +kernel
theorem dX8_noised_61 : decode cX8_noised 61 = .ok (.iload 7, 2) := by decide +kernel
theorem dX8_noised_63 : decode cX8_noised 63 = .ok (.iconst 2, 1) := by decide +kernel
theorem dX8_noised_64 : decode cX8_noised 64 = .ok (.iload_n 3, 1) := by decide +kernel
theorem dX8_noised_65 : decode cX8_noised 65 = .ok (.imul, 1) := by decide +kernel
theorem dX8_noised_66 : decode cX8_noised 66 = .ok (.if_icmp .ge 62, 3) := by decide +kernel
theorem dX8_noised_69 : decode cX8_noised 69 = .ok (.iconst 2, 1) := by decide +kernel
theorem dX8_noised_70 : decode cX8_noised 70 = .ok (.iload_n 3, 1) := by decide +kernel
theorem dX8_noised_71 : decode cX8_noised 71 = .ok (.imul, 1) := by decide +kernel
theorem dX8_noised_72 : decode cX8_noised 72 = .ok (.iload 5, 2) := by decide +kernel
theorem dX8_noised_74 : decode cX8_noised 74 = .ok (.imul, 1) := by decide +kernel
theorem dX8_noised_75 : decode cX8_noised 75 = .ok (.iload 7, 2) := by decide +kernel
theorem dX8_noised_77 : decode cX8_noised 77 = .ok (.iadd, 1) := by decide +kernel
theorem dX8_noised_78 : decode cX8_noised 78 = .ok (.istore 8, 2) := by decide +kernel
theorem dX8_noised_80 : decode cX8_noised 80 = .ok (.aload_n 0, 1) := by decide +kernel
end
section
theorem dX8_noised_81 : decode cX8_noised 81 = .ok (.sipush 15436, 3) := by decide +kernel
theorem dX8_noised_84 : decode cX8_noised 84 = .ok (.iload 8, 2) := by decide +kernel
theorem dX8_noised_86 : decode cX8_noised 86 = .ok (.bipush 8, 2) := by decide +kernel
theorem dX8_noised_88 : decode cX8_noised 88 = .ok (.idiv, 1) := by decide +kernel
theorem dX8_noised_89 : decode cX8_noised 89 = .ok (.iadd, 1) := by decide +kernel
theorem dX8_noised_90 : decode cX8_noised 90 = .ok (.invokevirtual 74, 3) := by decide +kernel
theorem dX8_noised_93 : decode cX8_noised 93 = .ok (.iload 8, 2) := by decide +kernel
theorem dX8_noised_95 : decode cX8_noised 95 = .ok (.bipush 8, 2) := by decide +kernel
theorem dX8_noised_97 : decode cX8_noised 97 = .ok (.irem, 1) := by decide +kernel
theorem dX8_noised_98 : decode cX8_noised 98 = .ok (.ishr, 1) := by decide +kernel
theorem dX8_noised_99 : decode cX8_noised 99 = .ok (.iconst 1, 1) := by decide +kernel
theorem dX8_noised_100 : decode cX8_noised 100 = .ok (.iand, 1) := by decide +kernel
theorem dX8_noised_101 : decode cX8_noised 101 = .ok (.istore 9, 2) := by decide +kernel
theorem dX8_noised_103 : decode cX8_noised 103 = .ok (.iload 6, 2) := by decide +kernel
theorem dX8_noised_105 : decode cX8_noised 105 = .ok (.iload 7, 2) := by decide +kernel
theorem dX8_noised_107 : decode cX8_noised 107 = .ok (.iload_n 3, 1) := by decide +kernel
theorem dX8_noised_108 : decode cX8_noised 108 = .ok (.if_icmp .ge 8, 3) := by decide +kernel
theorem dX8_noised_111 : decode cX8_noised 111 = .ok (.iload 9, 2) := by decide +kernel
theorem dX8_noised_113 : decode cX8_noised 113 = .ok (.goto 6, 3) := by decide +kernel
theorem dX8_noised_116 : decode cX8_noised 116 = .ok (.iload 9, 2) := by decide +kernel
theorem dX8_noised_118 : decode cX8_noised 118 = .ok (.ineg, 1) := by decide +kernel
theorem dX8_noised_119 : decode cX8_noised 119 = .ok (.iadd, 1) := by decide +kernel
theorem dX8_noised_120 : decode cX8_noised 120 = .ok (.istore 6, 2) := by decide +kernel
theorem dX8_noised_122 : decode cX8_noised 122 = .ok (.iinc 7 1, 3) := by decide +kernel
theorem dX8_noised_125 : decode cX8_noised 125 = .ok (.goto (-64), 3) := by decide +kernel
theorem dX8_noised_128 : decode cX8_noised 128 = .ok (.aload_n 0, 1) := by decide +kernel
theorem dX8_noised_129 : decode cX8_noised 129 = .ok (.getfield 36, 3) := by decide +kernel
theorem dX8_noised_132 : decode cX8_noised 132 = .ok (.sipush 256, 3) := by decide +kernel
theorem dX8_noised_135 : decode cX8_noised 135 = .ok (.iload 4, 2) := by decide +kernel
theorem dX8_noised_137 : decode cX8_noised 137 = .ok (.imul, 1) := by decide +kernel
theorem dX8_noised_138 : decode cX8_noised 138 = .ok (.iload 5, 2) := by decide +kernel
theorem dX8_noised_140 : decode cX8_noised 140 = .ok (.iadd, 1) := by decide +kernel
theorem dX8_noised_141 : decode cX8_noised 141 = .ok (.iload 6, 2) := by decide +kernel
theorem dX8_noised_143 : decode cX8_noised 143 = .ok (.i2l, 1) := by decide +kernel
theorem dX8_noised_144 : decode cX8_noised 144 = .ok (.invokestatic 91, 3) := by decide +kernel
theorem dX8_noised_147 : decode cX8_noised 147 = .ok (.iastore, 1) := by decide +kernel
theorem dX8_noised_148 : decode cX8_noised 148 = .ok (.iinc 5 1, 3) := by decide +kernel
theorem dX8_noised_151 : decode cX8_noised 151 = .ok (.goto (-104), 3) := by decide +kernel
theorem dX8_noised_154 : decode cX8_noised 154 = .ok (.return_, 1) := by decide +kernel
theorem dX8_eta1_0 : decode cX8_eta1 0 = .ok (.aload_n 0, 1) := by decide +kernel
theorem dX8_eta1_1 : decode cX8_eta1 1 = .ok (.getfield 13, 3) := by decide +kernel
theorem dX8_eta1_4 : decode cX8_eta1 4 = .ok (.iconst 2, 1) := by decide +kernel
theorem dX8_eta1_5 : decode cX8_eta1 5 = .ok (.if_icmp .ne 7, 3) := by decide +kernel
theorem dX8_eta1_8 : decode cX8_eta1 8 = .ok (.iconst 3, 1) := by decide +kernel
theorem dX8_eta1_9 : decode cX8_eta1 9 = .ok (.goto 4, 3) := by decide +kernel
theorem dX8_eta1_12 : decode cX8_eta1 12 = .ok (.iconst 2, 1) := by decide +kernel
theorem dX8_eta1_13 : decode cX8_eta1 13 = .ok (.ireturn, 1) := by decide +kernel
theorem dX8_du_0 : decode cX8_du 0 = .ok (.aload_n 0, 1) := by decide +kernel
theorem dX8_du_1 : decode cX8_du 1 = .ok (.getfield 13, 3) := by decide +kernel
theorem dX8_du_4 : decode cX8_du 4 = .ok (.iconst 4, 1) := by decide +kernel
theorem dX8_du_5 : decode cX8_du 5 = .ok (.if_icmp .ne 8, 3) := by decide +kernel
theorem dX8_du_8 : decode cX8_du 8 = .ok (.bipush 11, 2) := by decide +kernel
theorem dX8_du_10 : decode cX8_du 10 = .ok (.goto 5, 3) := by decide +kernel
theorem dX8_du_13 : decode cX8_du 13 = .ok (.bipush 10, 2) := by decide +kernel
theorem dX8_du_15 : decode cX8_du 15 = .ok (.ireturn, 1) := by decide +kernel
theorem dX8_dv_0 : decode cX8_dv 0 = .ok (.aload_n 0, 1) := by decide +kernel
theorem dX8_dv_1 : decode cX8_dv 1 = .ok (.getfield 13, 3) := by decide +kernel
theorem dX8_dv_4 : decode cX8_dv 4 = .ok (.iconst 4, 1) := by decide +kernel
theorem dX8_dv_5 : decode cX8_dv 5 = .ok (.if_icmp .ne 7, 3) := by decide +kernel
theorem dX8_dv_8 : decode cX8_dv 8 = .ok (.iconst 5, 1) := by decide +kernel
theorem dX8_dv_9 : decode cX8_dv 9 = .ok (.goto 4, 3) := by decide +kernel
theorem dX8_dv_12 : decode cX8_dv 12 = .ok (.iconst 4, 1) := by decide +kernel
theorem dX8_dv_13 : decode cX8_dv 13 = .ok (.ireturn, 1) := by decide +kernel
theorem dX8_ekBytes_0 : decode cX8_ekBytes 0 = .ok (.sipush 384, 3) := by decide +kernel
theorem dX8_ekBytes_3 : decode cX8_ekBytes 3 = .ok (.aload_n 0, 1) := by decide +kernel
theorem dX8_ekBytes_4 : decode cX8_ekBytes 4 = .ok (.getfield 13, 3) := by decide +kernel
theorem dX8_ekBytes_7 : decode cX8_ekBytes 7 = .ok (.imul, 1) := by decide +kernel
theorem dX8_ekBytes_8 : decode cX8_ekBytes 8 = .ok (.bipush 32, 2) := by decide +kernel
theorem dX8_ekBytes_10 : decode cX8_ekBytes 10 = .ok (.iadd, 1) := by decide +kernel
theorem dX8_ekBytes_11 : decode cX8_ekBytes 11 = .ok (.ireturn, 1) := by decide +kernel
theorem dX8_textBytes_0 : decode cX8_textBytes 0 = .ok (.bipush 32, 2) := by decide +kernel
theorem dX8_textBytes_2 : decode cX8_textBytes 2 = .ok (.aload_n 0, 1) := by decide +kernel
theorem dX8_textBytes_3 : decode cX8_textBytes 3 = .ok (.invokevirtual 118, 3) := by decide +kernel
theorem dX8_textBytes_6 : decode cX8_textBytes 6 = .ok (.aload_n 0, 1) := by decide +kernel
theorem dX8_textBytes_7 : decode cX8_textBytes 7 = .ok (.getfield 13, 3) := by decide +kernel
theorem dX8_textBytes_10 : decode cX8_textBytes 10 = .ok (.imul, 1) := by decide +kernel
theorem dX8_textBytes_11 : decode cX8_textBytes 11 = .ok (.aload_n 0, 1) := by decide +kernel
theorem dX8_textBytes_12 : decode cX8_textBytes 12 = .ok (.invokevirtual 121, 3) := by decide +kernel
theorem dX8_textBytes_15 : decode cX8_textBytes 15 = .ok (.iadd, 1) := by decide +kernel
theorem dX8_textBytes_16 : decode cX8_textBytes 16 = .ok (.imul, 1) := by decide +kernel
theorem dX8_textBytes_17 : decode cX8_textBytes 17 = .ok (.ireturn, 1) := by decide +kernel
theorem dX8_g_0 : decode cX8_g 0 = .ok (.aload_n 0, 1) := by decide +kernel
theorem dX8_g_1 : decode cX8_g 1 = .ok (.bipush 72, 2) := by decide +kernel
theorem dX8_g_3 : decode cX8_g 3 = .ok (.sipush 11336, 3) := by decide +kernel
theorem dX8_g_6 : decode cX8_g 6 = .ok (.iload_n 1, 1) := by decide +kernel
theorem dX8_g_7 : decode cX8_g 7 = .ok (.iconst 1, 1) := by decide +kernel
theorem dX8_g_8 : decode cX8_g 8 = .ok (.invokevirtual 104, 3) := by decide +kernel
theorem dX8_g_11 : decode cX8_g 11 = .ok (.aload_n 0, 1) := by decide +kernel
theorem dX8_g_12 : decode cX8_g 12 = .ok (.sipush 19612, 3) := by decide +kernel
theorem dX8_g_15 : decode cX8_g 15 = .ok (.bipush 64, 2) := by decide +kernel
theorem dX8_g_17 : decode cX8_g 17 = .ok (.invokevirtual 115, 3) := by decide +kernel
theorem dX8_g_20 : decode cX8_g 20 = .ok (.return_, 1) := by decide +kernel
theorem dX8_made_0 : decode cX8_made 0 = .ok (.aload_n 0, 1) := by decide +kernel
theorem dX8_made_1 : decode cX8_made 1 = .ok (.iconst 0, 1) := by decide +kernel
theorem dX8_made_2 : decode cX8_made 2 = .ok (.sipush 11336, 3) := by decide +kernel
theorem dX8_made_5 : decode cX8_made 5 = .ok (.bipush 32, 2) := by decide +kernel
theorem dX8_made_7 : decode cX8_made 7 = .ok (.invokevirtual 108, 3) := by decide +kernel
theorem dX8_made_10 : decode cX8_made 10 = .ok (.aload_n 0, 1) := by decide +kernel
theorem dX8_made_11 : decode cX8_made 11 = .ok (.getfield 7, 3) := by decide +kernel
theorem dX8_made_14 : decode cX8_made 14 = .ok (.sipush 11368, 3) := by decide +kernel
theorem dX8_made_17 : decode cX8_made 17 = .ok (.aload_n 0, 1) := by decide +kernel
theorem dX8_made_18 : decode cX8_made 18 = .ok (.getfield 13, 3) := by decide +kernel
theorem dX8_made_21 : decode cX8_made 21 = .ok (.i2b, 1) := by decide +kernel
theorem dX8_made_22 : decode cX8_made 22 = .ok (.bastore, 1) := by decide +kernel
theorem dX8_made_23 : decode cX8_made 23 = .ok (.aload_n 0, 1) := by decide +kernel
theorem dX8_made_24 : decode cX8_made 24 = .ok (.bipush 33, 2) := by decide +kernel
theorem dX8_made_26 : decode cX8_made 26 = .ok (.invokevirtual 124, 3) := by decide +kernel
theorem dX8_made_29 : decode cX8_made 29 = .ok (.aload_n 0, 1) := by decide +kernel
theorem dX8_made_30 : decode cX8_made 30 = .ok (.sipush 19612, 3) := by decide +kernel
theorem dX8_made_33 : decode cX8_made 33 = .ok (.sipush 19804, 3) := by decide +kernel
theorem dX8_made_36 : decode cX8_made 36 = .ok (.bipush 64, 2) := by decide +kernel
theorem dX8_made_38 : decode cX8_made 38 = .ok (.invokevirtual 108, 3) := by decide +kernel
theorem dX8_made_41 : decode cX8_made 41 = .ok (.iconst 0, 1) := by decide +kernel
theorem dX8_made_42 : decode cX8_made 42 = .ok (.istore_n 1, 1) := by decide +kernel
theorem dX8_made_43 : decode cX8_made 43 = .ok (.iload_n 1, 1) := by decide +kernel
theorem dX8_made_44 : decode cX8_made 44 = .ok (.aload_n 0, 1) := by decide +kernel
theorem dX8_made_45 : decode cX8_made 45 = .ok (.getfield 13, 3) := by decide +kernel
theorem dX8_made_48 : decode cX8_made 48 = .ok (.if_icmp .ge 60, 3) := by decide +kernel
theorem dX8_made_51 : decode cX8_made 51 = .ok (.aload_n 0, 1) := by decide +kernel
theorem dX8_made_52 : decode cX8_made 52 = .ok (.sipush 19836, 3) := by decide +kernel
theorem dX8_made_55 : decode cX8_made 55 = .ok (.iload_n 1, 1) := by decide +kernel
theorem dX8_made_56 : decode cX8_made 56 = .ok (.aload_n 0, 1) := by decide +kernel
theorem dX8_made_57 : decode cX8_made 57 = .ok (.invokevirtual 127, 3) := by decide +kernel
theorem dX8_made_60 : decode cX8_made 60 = .ok (.iconst 4, 1) := by decide +kernel
theorem dX8_made_61 : decode cX8_made 61 = .ok (.iload_n 1, 1) := by decide +kernel
theorem dX8_made_62 : decode cX8_made 62 = .ok (.iadd, 1) := by decide +kernel
theorem dX8_made_63 : decode cX8_made 63 = .ok (.invokevirtual 130, 3) := by decide +kernel
theorem dX8_made_66 : decode cX8_made 66 = .ok (.aload_n 0, 1) := by decide +kernel
theorem dX8_made_67 : decode cX8_made 67 = .ok (.sipush 19836, 3) := by decide +kernel
theorem dX8_made_70 : decode cX8_made 70 = .ok (.aload_n 0, 1) := by decide +kernel
theorem dX8_made_71 : decode cX8_made 71 = .ok (.getfield 13, 3) := by decide +kernel
theorem dX8_made_74 : decode cX8_made 74 = .ok (.iload_n 1, 1) := by decide +kernel
theorem dX8_made_75 : decode cX8_made 75 = .ok (.iadd, 1) := by decide +kernel
theorem dX8_made_76 : decode cX8_made 76 = .ok (.aload_n 0, 1) := by decide +kernel
theorem dX8_made_77 : decode cX8_made 77 = .ok (.invokevirtual 127, 3) := by decide +kernel
theorem dX8_made_80 : decode cX8_made 80 = .ok (.bipush 8, 2) := by decide +kernel
theorem dX8_made_82 : decode cX8_made 82 = .ok (.iload_n 1, 1) := by decide +kernel
theorem dX8_made_83 : decode cX8_made 83 = .ok (.iadd, 1) := by decide +kernel
theorem dX8_made_84 : decode cX8_made 84 = .ok (.invokevirtual 130, 3) := by decide +kernel
theorem dX8_made_87 : decode cX8_made 87 = .ok (.aload_n 0, 1) := by decide +kernel
theorem dX8_made_88 : decode cX8_made 88 = .ok (.iconst 4, 1) := by decide +kernel
theorem dX8_made_89 : decode cX8_made 89 = .ok (.iload_n 1, 1) := by decide +kernel
theorem dX8_made_90 : decode cX8_made 90 = .ok (.iadd, 1) := by decide +kernel
theorem dX8_made_91 : decode cX8_made 91 = .ok (.invokevirtual 134, 3) := by decide +kernel
theorem dX8_made_94 : decode cX8_made 94 = .ok (.aload_n 0, 1) := by decide +kernel
theorem dX8_made_95 : decode cX8_made 95 = .ok (.bipush 8, 2) := by decide +kernel
theorem dX8_made_97 : decode cX8_made 97 = .ok (.iload_n 1, 1) := by decide +kernel
theorem dX8_made_98 : decode cX8_made 98 = .ok (.iadd, 1) := by decide +kernel
theorem dX8_made_99 : decode cX8_made 99 = .ok (.invokevirtual 134, 3) := by decide +kernel
theorem dX8_made_102 : decode cX8_made 102 = .ok (.iinc 1 1, 3) := by decide +kernel
theorem dX8_made_105 : decode cX8_made 105 = .ok (.goto (-62), 3) := by decide +kernel
theorem dX8_made_108 : decode cX8_made 108 = .ok (.iconst 0, 1) := by decide +kernel
theorem dX8_made_109 : decode cX8_made 109 = .ok (.istore_n 1, 1) := by decide +kernel
theorem dX8_made_110 : decode cX8_made 110 = .ok (.iload_n 1, 1) := by decide +kernel
theorem dX8_made_111 : decode cX8_made 111 = .ok (.aload_n 0, 1) := by decide +kernel
theorem dX8_made_112 : decode cX8_made 112 = .ok (.getfield 13, 3) := by decide +kernel
theorem dX8_made_115 : decode cX8_made 115 = .ok (.if_icmp .ge 81, 3) := by decide +kernel
theorem dX8_made_118 : decode cX8_made 118 = .ok (.aload_n 0, 1) := by decide +kernel
theorem dX8_made_119 : decode cX8_made 119 = .ok (.bipush 8, 2) := by decide +kernel
theorem dX8_made_121 : decode cX8_made 121 = .ok (.iload_n 1, 1) := by decide +kernel
theorem dX8_made_122 : decode cX8_made 122 = .ok (.iadd, 1) := by decide +kernel
theorem dX8_made_123 : decode cX8_made 123 = .ok (.bipush 16, 2) := by decide +kernel
theorem dX8_made_125 : decode cX8_made 125 = .ok (.invokevirtual 87, 3) := by decide +kernel
theorem dX8_made_128 : decode cX8_made 128 = .ok (.iconst 0, 1) := by decide +kernel
theorem dX8_made_129 : decode cX8_made 129 = .ok (.istore_n 2, 1) := by decide +kernel
theorem dX8_made_130 : decode cX8_made 130 = .ok (.iload_n 2, 1) := by decide +kernel
theorem dX8_made_131 : decode cX8_made 131 = .ok (.aload_n 0, 1) := by decide +kernel
theorem dX8_made_132 : decode cX8_made 132 = .ok (.getfield 13, 3) := by decide +kernel
theorem dX8_made_135 : decode cX8_made 135 = .ok (.if_icmp .ge 38, 3) := by decide +kernel
theorem dX8_made_138 : decode cX8_made 138 = .ok (.aload_n 0, 1) := by decide +kernel
theorem dX8_made_139 : decode cX8_made 139 = .ok (.sipush 19804, 3) := by decide +kernel
theorem dX8_made_142 : decode cX8_made 142 = .ok (.iload_n 2, 1) := by decide +kernel
theorem dX8_made_143 : decode cX8_made 143 = .ok (.iload_n 1, 1) := by decide +kernel
theorem dX8_made_144 : decode cX8_made 144 = .ok (.bipush 17, 2) := by decide +kernel
theorem dX8_made_146 : decode cX8_made 146 = .ok (.invokevirtual 137, 3) := by decide +kernel
theorem dX8_made_149 : decode cX8_made 149 = .ok (.iconst (-1), 1) := by decide +kernel
theorem dX8_made_150 : decode cX8_made 150 = .ok (.if_icmp .ne 5, 3) := by decide +kernel
theorem dX8_made_153 : decode cX8_made 153 = .ok (.iconst 0, 1) := by decide +kernel
theorem dX8_made_154 : decode cX8_made 154 = .ok (.ireturn, 1) := by decide +kernel
theorem dX8_made_155 : decode cX8_made 155 = .ok (.aload_n 0, 1) := by decide +kernel
theorem dX8_made_156 : decode cX8_made 156 = .ok (.bipush 17, 2) := by decide +kernel
theorem dX8_made_158 : decode cX8_made 158 = .ok (.iconst 4, 1) := by decide +kernel
theorem dX8_made_159 : decode cX8_made 159 = .ok (.iload_n 2, 1) := by decide +kernel
theorem dX8_made_160 : decode cX8_made 160 = .ok (.iadd, 1) := by decide +kernel
theorem dX8_made_161 : decode cX8_made 161 = .ok (.bipush 16, 2) := by decide +kernel
theorem dX8_made_163 : decode cX8_made 163 = .ok (.iconst 1, 1) := by decide +kernel
theorem dX8_made_164 : decode cX8_made 164 = .ok (.invokevirtual 141, 3) := by decide +kernel
theorem dX8_made_167 : decode cX8_made 167 = .ok (.iinc 2 1, 3) := by decide +kernel
theorem dX8_made_170 : decode cX8_made 170 = .ok (.goto (-40), 3) := by decide +kernel
theorem dX8_made_173 : decode cX8_made 173 = .ok (.aload_n 0, 1) := by decide +kernel
theorem dX8_made_174 : decode cX8_made 174 = .ok (.bipush 16, 2) := by decide +kernel
theorem dX8_made_176 : decode cX8_made 176 = .ok (.bipush 12, 2) := by decide +kernel
theorem dX8_made_178 : decode cX8_made 178 = .ok (.sipush 16476, 3) := by decide +kernel
theorem dX8_made_181 : decode cX8_made 181 = .ok (.sipush 384, 3) := by decide +kernel
theorem dX8_made_184 : decode cX8_made 184 = .ok (.iload_n 1, 1) := by decide +kernel
theorem dX8_made_185 : decode cX8_made 185 = .ok (.imul, 1) := by decide +kernel
theorem dX8_made_186 : decode cX8_made 186 = .ok (.iadd, 1) := by decide +kernel
theorem dX8_made_187 : decode cX8_made 187 = .ok (.invokevirtual 144, 3) := by decide +kernel
theorem dX8_made_190 : decode cX8_made 190 = .ok (.iinc 1 1, 3) := by decide +kernel
theorem dX8_made_193 : decode cX8_made 193 = .ok (.goto (-83), 3) := by decide +kernel
theorem dX8_made_196 : decode cX8_made 196 = .ok (.aload_n 0, 1) := by decide +kernel
theorem dX8_made_197 : decode cX8_made 197 = .ok (.sipush 19804, 3) := by decide +kernel
theorem dX8_made_200 : decode cX8_made 200 = .ok (.sipush 16476, 3) := by decide +kernel
theorem dX8_made_203 : decode cX8_made 203 = .ok (.sipush 384, 3) := by decide +kernel
theorem dX8_made_206 : decode cX8_made 206 = .ok (.aload_n 0, 1) := by decide +kernel
theorem dX8_made_207 : decode cX8_made 207 = .ok (.getfield 13, 3) := by decide +kernel
theorem dX8_made_210 : decode cX8_made 210 = .ok (.imul, 1) := by decide +kernel
theorem dX8_made_211 : decode cX8_made 211 = .ok (.iadd, 1) := by decide +kernel
theorem dX8_made_212 : decode cX8_made 212 = .ok (.bipush 32, 2) := by decide +kernel
theorem dX8_made_214 : decode cX8_made 214 = .ok (.invokevirtual 108, 3) := by decide +kernel
theorem dX8_made_217 : decode cX8_made 217 = .ok (.iconst 1, 1) := by decide +kernel
theorem dX8_made_218 : decode cX8_made 218 = .ok (.ireturn, 1) := by decide +kernel
theorem dX8_locks_0 : decode cX8_locks 0 = .ok (.aload_n 0, 1) := by decide +kernel
theorem dX8_locks_1 : decode cX8_locks 1 = .ok (.sipush 19644, 3) := by decide +kernel
theorem dX8_locks_4 : decode cX8_locks 4 = .ok (.sipush 19804, 3) := by decide +kernel
theorem dX8_locks_7 : decode cX8_locks 7 = .ok (.bipush 32, 2) := by decide +kernel
theorem dX8_locks_9 : decode cX8_locks 9 = .ok (.invokevirtual 108, 3) := by decide +kernel
theorem dX8_locks_12 : decode cX8_locks 12 = .ok (.iconst 0, 1) := by decide +kernel
theorem dX8_locks_13 : decode cX8_locks 13 = .ok (.istore_n 2, 1) := by decide +kernel
theorem dX8_locks_14 : decode cX8_locks 14 = .ok (.iload_n 2, 1) := by decide +kernel
theorem dX8_locks_15 : decode cX8_locks 15 = .ok (.aload_n 0, 1) := by decide +kernel
theorem dX8_locks_16 : decode cX8_locks 16 = .ok (.getfield 13, 3) := by decide +kernel
theorem dX8_locks_19 : decode cX8_locks 19 = .ok (.if_icmp .ge 31, 3) := by decide +kernel
theorem dX8_locks_22 : decode cX8_locks 22 = .ok (.aload_n 0, 1) := by decide +kernel
theorem dX8_locks_23 : decode cX8_locks 23 = .ok (.sipush 19804, 3) := by decide +kernel
theorem dX8_locks_26 : decode cX8_locks 26 = .ok (.iload_n 2, 1) := by decide +kernel
theorem dX8_locks_27 : decode cX8_locks 27 = .ok (.aload_n 0, 1) := by decide +kernel
theorem dX8_locks_28 : decode cX8_locks 28 = .ok (.invokevirtual 127, 3) := by decide +kernel
theorem dX8_locks_31 : decode cX8_locks 31 = .ok (.iconst 4, 1) := by decide +kernel
theorem dX8_locks_32 : decode cX8_locks 32 = .ok (.iload_n 2, 1) := by decide +kernel
theorem dX8_locks_33 : decode cX8_locks 33 = .ok (.iadd, 1) := by decide +kernel
theorem dX8_locks_34 : decode cX8_locks 34 = .ok (.invokevirtual 130, 3) := by decide +kernel
theorem dX8_locks_37 : decode cX8_locks 37 = .ok (.aload_n 0, 1) := by decide +kernel
theorem dX8_locks_38 : decode cX8_locks 38 = .ok (.iconst 4, 1) := by decide +kernel
theorem dX8_locks_39 : decode cX8_locks 39 = .ok (.iload_n 2, 1) := by decide +kernel
theorem dX8_locks_40 : decode cX8_locks 40 = .ok (.iadd, 1) := by decide +kernel
theorem dX8_locks_41 : decode cX8_locks 41 = .ok (.invokevirtual 134, 3) := by decide +kernel
theorem dX8_locks_44 : decode cX8_locks 44 = .ok (.iinc 2 1, 3) := by decide +kernel
theorem dX8_locks_47 : decode cX8_locks 47 = .ok (.goto (-33), 3) := by decide +kernel
theorem dX8_locks_50 : decode cX8_locks 50 = .ok (.iconst 0, 1) := by decide +kernel
theorem dX8_locks_51 : decode cX8_locks 51 = .ok (.istore_n 2, 1) := by decide +kernel
theorem dX8_locks_52 : decode cX8_locks 52 = .ok (.iload_n 2, 1) := by decide +kernel
theorem dX8_locks_53 : decode cX8_locks 53 = .ok (.aload_n 0, 1) := by decide +kernel
theorem dX8_locks_54 : decode cX8_locks 54 = .ok (.getfield 13, 3) := by decide +kernel
theorem dX8_locks_57 : decode cX8_locks 57 = .ok (.if_icmp .ge 131, 3) := by decide +kernel
theorem dX8_locks_60 : decode cX8_locks 60 = .ok (.aload_n 0, 1) := by decide +kernel
theorem dX8_locks_61 : decode cX8_locks 61 = .ok (.bipush 16, 2) := by decide +kernel
theorem dX8_locks_63 : decode cX8_locks 63 = .ok (.invokevirtual 147, 3) := by decide +kernel
theorem dX8_locks_66 : decode cX8_locks 66 = .ok (.iconst 0, 1) := by decide +kernel
theorem dX8_locks_67 : decode cX8_locks 67 = .ok (.istore_n 3, 1) := by decide +kernel
theorem dX8_locks_68 : decode cX8_locks 68 = .ok (.iload_n 3, 1) := by decide +kernel
theorem dX8_locks_69 : decode cX8_locks 69 = .ok (.aload_n 0, 1) := by decide +kernel
theorem dX8_locks_70 : decode cX8_locks 70 = .ok (.getfield 13, 3) := by decide +kernel
theorem dX8_locks_73 : decode cX8_locks 73 = .ok (.if_icmp .ge 45, 3) := by decide +kernel
theorem dX8_locks_76 : decode cX8_locks 76 = .ok (.aload_n 0, 1) := by decide +kernel
theorem dX8_locks_77 : decode cX8_locks 77 = .ok (.iload_n 1, 1) := by decide +kernel
theorem dX8_locks_78 : decode cX8_locks 78 = .ok (.sipush 384, 3) := by decide +kernel
theorem dX8_locks_81 : decode cX8_locks 81 = .ok (.aload_n 0, 1) := by decide +kernel
theorem dX8_locks_82 : decode cX8_locks 82 = .ok (.getfield 13, 3) := by decide +kernel
theorem dX8_locks_85 : decode cX8_locks 85 = .ok (.imul, 1) := by decide +kernel
theorem dX8_locks_86 : decode cX8_locks 86 = .ok (.iadd, 1) := by decide +kernel
theorem dX8_locks_87 : decode cX8_locks 87 = .ok (.iload_n 2, 1) := by decide +kernel
theorem dX8_locks_88 : decode cX8_locks 88 = .ok (.iload_n 3, 1) := by decide +kernel
theorem dX8_locks_89 : decode cX8_locks 89 = .ok (.bipush 17, 2) := by decide +kernel
theorem dX8_locks_91 : decode cX8_locks 91 = .ok (.invokevirtual 137, 3) := by decide +kernel
theorem dX8_locks_94 : decode cX8_locks 94 = .ok (.iconst (-1), 1) := by decide +kernel
theorem dX8_locks_95 : decode cX8_locks 95 = .ok (.if_icmp .ne 5, 3) := by decide +kernel
theorem dX8_locks_98 : decode cX8_locks 98 = .ok (.iconst 0, 1) := by decide +kernel
theorem dX8_locks_99 : decode cX8_locks 99 = .ok (.ireturn, 1) := by decide +kernel
theorem dX8_locks_100 : decode cX8_locks 100 = .ok (.aload_n 0, 1) := by decide +kernel
theorem dX8_locks_101 : decode cX8_locks 101 = .ok (.bipush 17, 2) := by decide +kernel
theorem dX8_locks_103 : decode cX8_locks 103 = .ok (.iconst 4, 1) := by decide +kernel
theorem dX8_locks_104 : decode cX8_locks 104 = .ok (.iload_n 3, 1) := by decide +kernel
theorem dX8_locks_105 : decode cX8_locks 105 = .ok (.iadd, 1) := by decide +kernel
theorem dX8_locks_106 : decode cX8_locks 106 = .ok (.bipush 16, 2) := by decide +kernel
theorem dX8_locks_108 : decode cX8_locks 108 = .ok (.iconst 1, 1) := by decide +kernel
theorem dX8_locks_109 : decode cX8_locks 109 = .ok (.invokevirtual 141, 3) := by decide +kernel
theorem dX8_locks_112 : decode cX8_locks 112 = .ok (.iinc 3 1, 3) := by decide +kernel
theorem dX8_locks_115 : decode cX8_locks 115 = .ok (.goto (-47), 3) := by decide +kernel
theorem dX8_locks_118 : decode cX8_locks 118 = .ok (.aload_n 0, 1) := by decide +kernel
theorem dX8_locks_119 : decode cX8_locks 119 = .ok (.bipush 16, 2) := by decide +kernel
theorem dX8_locks_121 : decode cX8_locks 121 = .ok (.invokevirtual 150, 3) := by decide +kernel
theorem dX8_locks_124 : decode cX8_locks 124 = .ok (.aload_n 0, 1) := by decide +kernel
theorem dX8_locks_125 : decode cX8_locks 125 = .ok (.sipush 19804, 3) := by decide +kernel
theorem dX8_locks_128 : decode cX8_locks 128 = .ok (.aload_n 0, 1) := by decide +kernel
theorem dX8_locks_129 : decode cX8_locks 129 = .ok (.getfield 13, 3) := by decide +kernel
theorem dX8_locks_132 : decode cX8_locks 132 = .ok (.iload_n 2, 1) := by decide +kernel
theorem dX8_locks_133 : decode cX8_locks 133 = .ok (.iadd, 1) := by decide +kernel
theorem dX8_locks_134 : decode cX8_locks 134 = .ok (.iconst 2, 1) := by decide +kernel
theorem dX8_locks_135 : decode cX8_locks 135 = .ok (.bipush 17, 2) := by decide +kernel
theorem dX8_locks_137 : decode cX8_locks 137 = .ok (.invokevirtual 130, 3) := by decide +kernel
theorem dX8_locks_140 : decode cX8_locks 140 = .ok (.aload_n 0, 1) := by decide +kernel
theorem dX8_locks_141 : decode cX8_locks 141 = .ok (.bipush 16, 2) := by decide +kernel
theorem dX8_locks_143 : decode cX8_locks 143 = .ok (.bipush 17, 2) := by decide +kernel
theorem dX8_locks_145 : decode cX8_locks 145 = .ok (.iconst 1, 1) := by decide +kernel
theorem dX8_locks_146 : decode cX8_locks 146 = .ok (.invokevirtual 153, 3) := by decide +kernel
theorem dX8_locks_149 : decode cX8_locks 149 = .ok (.aload_n 0, 1) := by decide +kernel
theorem dX8_locks_150 : decode cX8_locks 150 = .ok (.bipush 16, 2) := by decide +kernel
theorem dX8_locks_152 : decode cX8_locks 152 = .ok (.aload_n 0, 1) := by decide +kernel
theorem dX8_locks_153 : decode cX8_locks 153 = .ok (.invokevirtual 118, 3) := by decide +kernel
theorem dX8_locks_156 : decode cX8_locks 156 = .ok (.invokevirtual 156, 3) := by decide +kernel
theorem dX8_locks_159 : decode cX8_locks 159 = .ok (.aload_n 0, 1) := by decide +kernel
theorem dX8_locks_160 : decode cX8_locks 160 = .ok (.bipush 16, 2) := by decide +kernel
theorem dX8_locks_162 : decode cX8_locks 162 = .ok (.aload_n 0, 1) := by decide +kernel
theorem dX8_locks_163 : decode cX8_locks 163 = .ok (.invokevirtual 118, 3) := by decide +kernel
theorem dX8_locks_166 : decode cX8_locks 166 = .ok (.sipush 18044, 3) := by decide +kernel
theorem dX8_locks_169 : decode cX8_locks 169 = .ok (.bipush 32, 2) := by decide +kernel
theorem dX8_locks_171 : decode cX8_locks 171 = .ok (.aload_n 0, 1) := by decide +kernel
theorem dX8_locks_172 : decode cX8_locks 172 = .ok (.invokevirtual 118, 3) := by decide +kernel
theorem dX8_locks_175 : decode cX8_locks 175 = .ok (.imul, 1) := by decide +kernel
theorem dX8_locks_176 : decode cX8_locks 176 = .ok (.iload_n 2, 1) := by decide +kernel
theorem dX8_locks_177 : decode cX8_locks 177 = .ok (.imul, 1) := by decide +kernel
theorem dX8_locks_178 : decode cX8_locks 178 = .ok (.iadd, 1) := by decide +kernel
theorem dX8_locks_179 : decode cX8_locks 179 = .ok (.invokevirtual 144, 3) := by decide +kernel
theorem dX8_locks_182 : decode cX8_locks 182 = .ok (.iinc 2 1, 3) := by decide +kernel
theorem dX8_locks_185 : decode cX8_locks 185 = .ok (.goto (-133), 3) := by decide +kernel
theorem dX8_locks_188 : decode cX8_locks 188 = .ok (.aload_n 0, 1) := by decide +kernel
theorem dX8_locks_189 : decode cX8_locks 189 = .ok (.bipush 16, 2) := by decide +kernel
theorem dX8_locks_191 : decode cX8_locks 191 = .ok (.invokevirtual 147, 3) := by decide +kernel
theorem dX8_locks_194 : decode cX8_locks 194 = .ok (.iconst 0, 1) := by decide +kernel
theorem dX8_locks_195 : decode cX8_locks 195 = .ok (.istore_n 2, 1) := by decide +kernel
theorem dX8_locks_196 : decode cX8_locks 196 = .ok (.iload_n 2, 1) := by decide +kernel
theorem dX8_locks_197 : decode cX8_locks 197 = .ok (.aload_n 0, 1) := by decide +kernel
theorem dX8_locks_198 : decode cX8_locks 198 = .ok (.getfield 13, 3) := by decide +kernel
theorem dX8_locks_201 : decode cX8_locks 201 = .ok (.if_icmp .ge 36, 3) := by decide +kernel
theorem dX8_locks_204 : decode cX8_locks 204 = .ok (.aload_n 0, 1) := by decide +kernel
theorem dX8_locks_205 : decode cX8_locks 205 = .ok (.bipush 17, 2) := by decide +kernel
theorem dX8_locks_207 : decode cX8_locks 207 = .ok (.bipush 12, 2) := by decide +kernel
theorem dX8_locks_209 : decode cX8_locks 209 = .ok (.iload_n 1, 1) := by decide +kernel
theorem dX8_locks_210 : decode cX8_locks 210 = .ok (.sipush 384, 3) := by decide +kernel
theorem dX8_locks_213 : decode cX8_locks 213 = .ok (.iload_n 2, 1) := by decide +kernel
theorem dX8_locks_214 : decode cX8_locks 214 = .ok (.imul, 1) := by decide +kernel
theorem dX8_locks_215 : decode cX8_locks 215 = .ok (.iadd, 1) := by decide +kernel
theorem dX8_locks_216 : decode cX8_locks 216 = .ok (.invokevirtual 159, 3) := by decide +kernel
theorem dX8_locks_219 : decode cX8_locks 219 = .ok (.aload_n 0, 1) := by decide +kernel
theorem dX8_locks_220 : decode cX8_locks 220 = .ok (.bipush 17, 2) := by decide +kernel
theorem dX8_locks_222 : decode cX8_locks 222 = .ok (.iconst 4, 1) := by decide +kernel
theorem dX8_locks_223 : decode cX8_locks 223 = .ok (.iload_n 2, 1) := by decide +kernel
theorem dX8_locks_224 : decode cX8_locks 224 = .ok (.iadd, 1) := by decide +kernel
theorem dX8_locks_225 : decode cX8_locks 225 = .ok (.bipush 16, 2) := by decide +kernel
theorem dX8_locks_227 : decode cX8_locks 227 = .ok (.iconst 1, 1) := by decide +kernel
theorem dX8_locks_228 : decode cX8_locks 228 = .ok (.invokevirtual 141, 3) := by decide +kernel
theorem dX8_locks_231 : decode cX8_locks 231 = .ok (.iinc 2 1, 3) := by decide +kernel
theorem dX8_locks_234 : decode cX8_locks 234 = .ok (.goto (-38), 3) := by decide +kernel
theorem dX8_locks_237 : decode cX8_locks 237 = .ok (.aload_n 0, 1) := by decide +kernel
theorem dX8_locks_238 : decode cX8_locks 238 = .ok (.bipush 16, 2) := by decide +kernel
theorem dX8_locks_240 : decode cX8_locks 240 = .ok (.invokevirtual 150, 3) := by decide +kernel
theorem dX8_locks_243 : decode cX8_locks 243 = .ok (.aload_n 0, 1) := by decide +kernel
theorem dX8_locks_244 : decode cX8_locks 244 = .ok (.sipush 19804, 3) := by decide +kernel
theorem dX8_locks_247 : decode cX8_locks 247 = .ok (.iconst 2, 1) := by decide +kernel
theorem dX8_locks_248 : decode cX8_locks 248 = .ok (.aload_n 0, 1) := by decide +kernel
theorem dX8_locks_249 : decode cX8_locks 249 = .ok (.getfield 13, 3) := by decide +kernel
theorem dX8_locks_252 : decode cX8_locks 252 = .ok (.imul, 1) := by decide +kernel
theorem dX8_locks_253 : decode cX8_locks 253 = .ok (.iconst 2, 1) := by decide +kernel
theorem dX8_locks_254 : decode cX8_locks 254 = .ok (.bipush 17, 2) := by decide +kernel
theorem dX8_locks_256 : decode cX8_locks 256 = .ok (.invokevirtual 130, 3) := by decide +kernel
theorem dX8_locks_259 : decode cX8_locks 259 = .ok (.aload_n 0, 1) := by decide +kernel
theorem dX8_locks_260 : decode cX8_locks 260 = .ok (.bipush 16, 2) := by decide +kernel
theorem dX8_locks_262 : decode cX8_locks 262 = .ok (.bipush 17, 2) := by decide +kernel
theorem dX8_locks_264 : decode cX8_locks 264 = .ok (.iconst 1, 1) := by decide +kernel
theorem dX8_locks_265 : decode cX8_locks 265 = .ok (.invokevirtual 153, 3) := by decide +kernel
theorem dX8_locks_268 : decode cX8_locks 268 = .ok (.aload_n 0, 1) := by decide +kernel
theorem dX8_locks_269 : decode cX8_locks 269 = .ok (.bipush 17, 2) := by decide +kernel
theorem dX8_locks_271 : decode cX8_locks 271 = .ok (.iconst 1, 1) := by decide +kernel
theorem dX8_locks_272 : decode cX8_locks 272 = .ok (.sipush 19740, 3) := by decide +kernel
theorem dX8_locks_275 : decode cX8_locks 275 = .ok (.invokevirtual 159, 3) := by decide +kernel
theorem dX8_locks_278 : decode cX8_locks 278 = .ok (.aload_n 0, 1) := by decide +kernel
theorem dX8_locks_279 : decode cX8_locks 279 = .ok (.bipush 17, 2) := by decide +kernel
theorem dX8_locks_281 : decode cX8_locks 281 = .ok (.iconst 1, 1) := by decide +kernel
theorem dX8_locks_282 : decode cX8_locks 282 = .ok (.invokevirtual 162, 3) := by decide +kernel
theorem dX8_locks_285 : decode cX8_locks 285 = .ok (.aload_n 0, 1) := by decide +kernel
theorem dX8_locks_286 : decode cX8_locks 286 = .ok (.bipush 16, 2) := by decide +kernel
theorem dX8_locks_288 : decode cX8_locks 288 = .ok (.bipush 17, 2) := by decide +kernel
theorem dX8_locks_290 : decode cX8_locks 290 = .ok (.iconst 1, 1) := by decide +kernel
theorem dX8_locks_291 : decode cX8_locks 291 = .ok (.invokevirtual 153, 3) := by decide +kernel
theorem dX8_locks_294 : decode cX8_locks 294 = .ok (.aload_n 0, 1) := by decide +kernel
theorem dX8_locks_295 : decode cX8_locks 295 = .ok (.bipush 16, 2) := by decide +kernel
theorem dX8_locks_297 : decode cX8_locks 297 = .ok (.aload_n 0, 1) := by decide +kernel
theorem dX8_locks_298 : decode cX8_locks 298 = .ok (.invokevirtual 121, 3) := by decide +kernel
theorem dX8_locks_301 : decode cX8_locks 301 = .ok (.invokevirtual 156, 3) := by decide +kernel
theorem dX8_locks_304 : decode cX8_locks 304 = .ok (.aload_n 0, 1) := by decide +kernel
theorem dX8_locks_305 : decode cX8_locks 305 = .ok (.bipush 16, 2) := by decide +kernel
theorem dX8_locks_307 : decode cX8_locks 307 = .ok (.aload_n 0, 1) := by decide +kernel
theorem dX8_locks_308 : decode cX8_locks 308 = .ok (.invokevirtual 121, 3) := by decide +kernel
theorem dX8_locks_311 : decode cX8_locks 311 = .ok (.sipush 18044, 3) := by decide +kernel
theorem dX8_locks_314 : decode cX8_locks 314 = .ok (.bipush 32, 2) := by decide +kernel
theorem dX8_locks_316 : decode cX8_locks 316 = .ok (.aload_n 0, 1) := by decide +kernel
theorem dX8_locks_317 : decode cX8_locks 317 = .ok (.invokevirtual 118, 3) := by decide +kernel
theorem dX8_locks_320 : decode cX8_locks 320 = .ok (.imul, 1) := by decide +kernel
theorem dX8_locks_321 : decode cX8_locks 321 = .ok (.aload_n 0, 1) := by decide +kernel
theorem dX8_locks_322 : decode cX8_locks 322 = .ok (.getfield 13, 3) := by decide +kernel
theorem dX8_locks_325 : decode cX8_locks 325 = .ok (.imul, 1) := by decide +kernel
theorem dX8_locks_326 : decode cX8_locks 326 = .ok (.iadd, 1) := by decide +kernel
theorem dX8_locks_327 : decode cX8_locks 327 = .ok (.invokevirtual 144, 3) := by decide +kernel
theorem dX8_locks_330 : decode cX8_locks 330 = .ok (.iconst 1, 1) := by decide +kernel
theorem dX8_locks_331 : decode cX8_locks 331 = .ok (.ireturn, 1) := by decide +kernel
theorem dX8_unlocks_0 : decode cX8_unlocks 0 = .ok (.aload_n 0, 1) := by decide +kernel
theorem dX8_unlocks_1 : decode cX8_unlocks 1 = .ok (.bipush 16, 2) := by decide +kernel
theorem dX8_unlocks_3 : decode cX8_unlocks 3 = .ok (.invokevirtual 147, 3) := by decide +kernel
theorem dX8_unlocks_6 : decode cX8_unlocks 6 = .ok (.iconst 0, 1) := by decide +kernel
theorem dX8_unlocks_7 : decode cX8_unlocks 7 = .ok (.istore_n 2, 1) := by decide +kernel
theorem dX8_unlocks_8 : decode cX8_unlocks 8 = .ok (.iload_n 2, 1) := by decide +kernel
theorem dX8_unlocks_9 : decode cX8_unlocks 9 = .ok (.aload_n 0, 1) := by decide +kernel
theorem dX8_unlocks_10 : decode cX8_unlocks 10 = .ok (.getfield 13, 3) := by decide +kernel
theorem dX8_unlocks_13 : decode cX8_unlocks 13 = .ok (.if_icmp .ge 74, 3) := by decide +kernel
theorem dX8_unlocks_16 : decode cX8_unlocks 16 = .ok (.aload_n 0, 1) := by decide +kernel
theorem dX8_unlocks_17 : decode cX8_unlocks 17 = .ok (.bipush 17, 2) := by decide +kernel
theorem dX8_unlocks_19 : decode cX8_unlocks 19 = .ok (.aload_n 0, 1) := by decide +kernel
theorem dX8_unlocks_20 : decode cX8_unlocks 20 = .ok (.invokevirtual 118, 3) := by decide +kernel
theorem dX8_unlocks_23 : decode cX8_unlocks 23 = .ok (.sipush 8736, 3) := by decide +kernel
theorem dX8_unlocks_26 : decode cX8_unlocks 26 = .ok (.bipush 32, 2) := by decide +kernel
theorem dX8_unlocks_28 : decode cX8_unlocks 28 = .ok (.aload_n 0, 1) := by decide +kernel
theorem dX8_unlocks_29 : decode cX8_unlocks 29 = .ok (.invokevirtual 118, 3) := by decide +kernel
theorem dX8_unlocks_32 : decode cX8_unlocks 32 = .ok (.imul, 1) := by decide +kernel
theorem dX8_unlocks_33 : decode cX8_unlocks 33 = .ok (.iload_n 2, 1) := by decide +kernel
theorem dX8_unlocks_34 : decode cX8_unlocks 34 = .ok (.imul, 1) := by decide +kernel
theorem dX8_unlocks_35 : decode cX8_unlocks 35 = .ok (.iadd, 1) := by decide +kernel
theorem dX8_unlocks_36 : decode cX8_unlocks 36 = .ok (.invokevirtual 159, 3) := by decide +kernel
theorem dX8_unlocks_39 : decode cX8_unlocks 39 = .ok (.aload_n 0, 1) := by decide +kernel
theorem dX8_unlocks_40 : decode cX8_unlocks 40 = .ok (.bipush 17, 2) := by decide +kernel
theorem dX8_unlocks_42 : decode cX8_unlocks 42 = .ok (.aload_n 0, 1) := by decide +kernel
theorem dX8_unlocks_43 : decode cX8_unlocks 43 = .ok (.invokevirtual 118, 3) := by decide +kernel
theorem dX8_unlocks_46 : decode cX8_unlocks 46 = .ok (.invokevirtual 162, 3) := by decide +kernel
theorem dX8_unlocks_49 : decode cX8_unlocks 49 = .ok (.aload_n 0, 1) := by decide +kernel
theorem dX8_unlocks_50 : decode cX8_unlocks 50 = .ok (.bipush 17, 2) := by decide +kernel
theorem dX8_unlocks_52 : decode cX8_unlocks 52 = .ok (.invokevirtual 134, 3) := by decide +kernel
theorem dX8_unlocks_55 : decode cX8_unlocks 55 = .ok (.aload_n 0, 1) := by decide +kernel
theorem dX8_unlocks_56 : decode cX8_unlocks 56 = .ok (.bipush 12, 2) := by decide +kernel
theorem dX8_unlocks_58 : decode cX8_unlocks 58 = .ok (.bipush 12, 2) := by decide +kernel
theorem dX8_unlocks_60 : decode cX8_unlocks 60 = .ok (.iload_n 1, 1) := by decide +kernel
theorem dX8_unlocks_61 : decode cX8_unlocks 61 = .ok (.sipush 384, 3) := by decide +kernel
theorem dX8_unlocks_64 : decode cX8_unlocks 64 = .ok (.iload_n 2, 1) := by decide +kernel
theorem dX8_unlocks_65 : decode cX8_unlocks 65 = .ok (.imul, 1) := by decide +kernel
theorem dX8_unlocks_66 : decode cX8_unlocks 66 = .ok (.iadd, 1) := by decide +kernel
theorem dX8_unlocks_67 : decode cX8_unlocks 67 = .ok (.invokevirtual 159, 3) := by decide +kernel
theorem dX8_unlocks_70 : decode cX8_unlocks 70 = .ok (.aload_n 0, 1) := by decide +kernel
theorem dX8_unlocks_71 : decode cX8_unlocks 71 = .ok (.bipush 17, 2) := by decide +kernel
theorem dX8_unlocks_73 : decode cX8_unlocks 73 = .ok (.bipush 12, 2) := by decide +kernel
theorem dX8_unlocks_75 : decode cX8_unlocks 75 = .ok (.bipush 16, 2) := by decide +kernel
theorem dX8_unlocks_77 : decode cX8_unlocks 77 = .ok (.iconst 1, 1) := by decide +kernel
theorem dX8_unlocks_78 : decode cX8_unlocks 78 = .ok (.invokevirtual 141, 3) := by decide +kernel
theorem dX8_unlocks_81 : decode cX8_unlocks 81 = .ok (.iinc 2 1, 3) := by decide +kernel
theorem dX8_unlocks_84 : decode cX8_unlocks 84 = .ok (.goto (-76), 3) := by decide +kernel
theorem dX8_unlocks_87 : decode cX8_unlocks 87 = .ok (.aload_n 0, 1) := by decide +kernel
theorem dX8_unlocks_88 : decode cX8_unlocks 88 = .ok (.bipush 16, 2) := by decide +kernel
theorem dX8_unlocks_90 : decode cX8_unlocks 90 = .ok (.invokevirtual 150, 3) := by decide +kernel
theorem dX8_unlocks_93 : decode cX8_unlocks 93 = .ok (.aload_n 0, 1) := by decide +kernel
theorem dX8_unlocks_94 : decode cX8_unlocks 94 = .ok (.bipush 17, 2) := by decide +kernel
theorem dX8_unlocks_96 : decode cX8_unlocks 96 = .ok (.aload_n 0, 1) := by decide +kernel
theorem dX8_unlocks_97 : decode cX8_unlocks 97 = .ok (.invokevirtual 121, 3) := by decide +kernel
theorem dX8_unlocks_100 : decode cX8_unlocks 100 = .ok (.sipush 8736, 3) := by decide +kernel
theorem dX8_unlocks_103 : decode cX8_unlocks 103 = .ok (.bipush 32, 2) := by decide +kernel
theorem dX8_unlocks_105 : decode cX8_unlocks 105 = .ok (.aload_n 0, 1) := by decide +kernel
theorem dX8_unlocks_106 : decode cX8_unlocks 106 = .ok (.invokevirtual 118, 3) := by decide +kernel
theorem dX8_unlocks_109 : decode cX8_unlocks 109 = .ok (.imul, 1) := by decide +kernel
theorem dX8_unlocks_110 : decode cX8_unlocks 110 = .ok (.aload_n 0, 1) := by decide +kernel
theorem dX8_unlocks_111 : decode cX8_unlocks 111 = .ok (.getfield 13, 3) := by decide +kernel
theorem dX8_unlocks_114 : decode cX8_unlocks 114 = .ok (.imul, 1) := by decide +kernel
theorem dX8_unlocks_115 : decode cX8_unlocks 115 = .ok (.iadd, 1) := by decide +kernel
theorem dX8_unlocks_116 : decode cX8_unlocks 116 = .ok (.invokevirtual 159, 3) := by decide +kernel
theorem dX8_unlocks_119 : decode cX8_unlocks 119 = .ok (.aload_n 0, 1) := by decide +kernel
theorem dX8_unlocks_120 : decode cX8_unlocks 120 = .ok (.bipush 17, 2) := by decide +kernel
theorem dX8_unlocks_122 : decode cX8_unlocks 122 = .ok (.aload_n 0, 1) := by decide +kernel
theorem dX8_unlocks_123 : decode cX8_unlocks 123 = .ok (.invokevirtual 121, 3) := by decide +kernel
theorem dX8_unlocks_126 : decode cX8_unlocks 126 = .ok (.invokevirtual 162, 3) := by decide +kernel
theorem dX8_unlocks_129 : decode cX8_unlocks 129 = .ok (.aload_n 0, 1) := by decide +kernel
theorem dX8_unlocks_130 : decode cX8_unlocks 130 = .ok (.bipush 17, 2) := by decide +kernel
theorem dX8_unlocks_132 : decode cX8_unlocks 132 = .ok (.bipush 16, 2) := by decide +kernel
theorem dX8_unlocks_134 : decode cX8_unlocks 134 = .ok (.iconst (-1), 1) := by decide +kernel
theorem dX8_unlocks_135 : decode cX8_unlocks 135 = .ok (.invokevirtual 153, 3) := by decide +kernel
theorem dX8_unlocks_138 : decode cX8_unlocks 138 = .ok (.aload_n 0, 1) := by decide +kernel
theorem dX8_unlocks_139 : decode cX8_unlocks 139 = .ok (.bipush 17, 2) := by decide +kernel
theorem dX8_unlocks_141 : decode cX8_unlocks 141 = .ok (.iconst 1, 1) := by decide +kernel
theorem dX8_unlocks_142 : decode cX8_unlocks 142 = .ok (.invokevirtual 156, 3) := by decide +kernel
theorem dX8_unlocks_145 : decode cX8_unlocks 145 = .ok (.aload_n 0, 1) := by decide +kernel
theorem dX8_unlocks_146 : decode cX8_unlocks 146 = .ok (.bipush 17, 2) := by decide +kernel
theorem dX8_unlocks_148 : decode cX8_unlocks 148 = .ok (.iconst 1, 1) := by decide +kernel
theorem dX8_unlocks_149 : decode cX8_unlocks 149 = .ok (.sipush 19740, 3) := by decide +kernel
theorem dX8_unlocks_152 : decode cX8_unlocks 152 = .ok (.invokevirtual 144, 3) := by decide +kernel
theorem dX8_unlocks_155 : decode cX8_unlocks 155 = .ok (.return_, 1) := by decide +kernel
theorem dX8_h_0 : decode cX8_h 0 = .ok (.aload_n 0, 1) := by decide +kernel
theorem dX8_h_1 : decode cX8_h 1 = .ok (.sipush 136, 3) := by decide +kernel
theorem dX8_h_4 : decode cX8_h 4 = .ok (.iload_n 1, 1) := by decide +kernel
theorem dX8_h_5 : decode cX8_h 5 = .ok (.iload_n 2, 1) := by decide +kernel
theorem dX8_h_6 : decode cX8_h 6 = .ok (.iconst 1, 1) := by decide +kernel
theorem dX8_h_7 : decode cX8_h 7 = .ok (.invokevirtual 104, 3) := by decide +kernel
theorem dX8_h_10 : decode cX8_h 10 = .ok (.aload_n 0, 1) := by decide +kernel
theorem dX8_h_11 : decode cX8_h 11 = .ok (.iload_n 3, 1) := by decide +kernel
theorem dX8_h_12 : decode cX8_h 12 = .ok (.bipush 32, 2) := by decide +kernel
theorem dX8_h_14 : decode cX8_h 14 = .ok (.invokevirtual 115, 3) := by decide +kernel
theorem dX8_h_17 : decode cX8_h 17 = .ok (.return_, 1) := by decide +kernel
theorem dX8_feed_0 : decode cX8_feed 0 = .ok (.aload_n 0, 1) := by decide +kernel
theorem dX8_feed_1 : decode cX8_feed 1 = .ok (.getfield 165, 3) := by decide +kernel
theorem dX8_feed_4 : decode cX8_feed 4 = .ok (.bipush 20, 2) := by decide +kernel
theorem dX8_feed_6 : decode cX8_feed 6 = .ok (.iadd, 1) := by decide +kernel
theorem dX8_feed_7 : decode cX8_feed 7 = .ok (.sipush 4000, 3) := by decide +kernel
theorem dX8_feed_10 : decode cX8_feed 10 = .ok (.if_icmp .le 5, 3) := by decide +kernel
theorem dX8_feed_13 : decode cX8_feed 13 = .ok (.iconst (-1), 1) := by decide +kernel
theorem dX8_feed_14 : decode cX8_feed 14 = .ok (.ireturn, 1) := by decide +kernel
theorem dX8_feed_15 : decode cX8_feed 15 = .ok (.iconst 0, 1) := by decide +kernel
theorem dX8_feed_16 : decode cX8_feed 16 = .ok (.istore 6, 2) := by decide +kernel
theorem dX8_feed_18 : decode cX8_feed 18 = .ok (.iload 6, 2) := by decide +kernel
theorem dX8_feed_20 : decode cX8_feed 20 = .ok (.bipush 20, 2) := by decide +kernel
theorem dX8_feed_22 : decode cX8_feed 22 = .ok (.if_icmp .ge 92, 3) := by decide +kernel
theorem dX8_feed_25 : decode cX8_feed 25 = .ok (.iload 6, 2) := by decide +kernel
theorem dX8_feed_27 : decode cX8_feed 27 = .ok (.iconst 4, 1) := by decide +kernel
theorem dX8_feed_28 : decode cX8_feed 28 = .ok (.if_icmp .ge 7, 3) := by decide +kernel
theorem dX8_feed_31 : decode cX8_feed 31 = .ok (.iload_n 1, 1) := by decide +kernel
theorem dX8_feed_32 : decode cX8_feed 32 = .ok (.goto 39, 3) := by decide +kernel
theorem dX8_feed_35 : decode cX8_feed 35 = .ok (.iload 6, 2) := by decide +kernel
theorem dX8_feed_37 : decode cX8_feed 37 = .ok (.bipush 8, 2) := by decide +kernel
theorem dX8_feed_39 : decode cX8_feed 39 = .ok (.if_icmp .ge 7, 3) := by decide +kernel
theorem dX8_feed_42 : decode cX8_feed 42 = .ok (.iload_n 2, 1) := by decide +kernel
theorem dX8_feed_43 : decode cX8_feed 43 = .ok (.goto 28, 3) := by decide +kernel
theorem dX8_feed_46 : decode cX8_feed 46 = .ok (.iload 6, 2) := by decide +kernel
theorem dX8_feed_48 : decode cX8_feed 48 = .ok (.bipush 12, 2) := by decide +kernel
theorem dX8_feed_50 : decode cX8_feed 50 = .ok (.if_icmp .ge 7, 3) := by decide +kernel
theorem dX8_feed_53 : decode cX8_feed 53 = .ok (.iload_n 3, 1) := by decide +kernel
theorem dX8_feed_54 : decode cX8_feed 54 = .ok (.goto 17, 3) := by decide +kernel
theorem dX8_feed_57 : decode cX8_feed 57 = .ok (.iload 6, 2) := by decide +kernel
theorem dX8_feed_59 : decode cX8_feed 59 = .ok (.bipush 16, 2) := by decide +kernel
theorem dX8_feed_61 : decode cX8_feed 61 = .ok (.if_icmp .ge 8, 3) := by decide +kernel
theorem dX8_feed_64 : decode cX8_feed 64 = .ok (.iload 4, 2) := by decide +kernel
theorem dX8_feed_66 : decode cX8_feed 66 = .ok (.goto 5, 3) := by decide +kernel
theorem dX8_feed_69 : decode cX8_feed 69 = .ok (.iload 5, 2) := by decide +kernel
theorem dX8_feed_71 : decode cX8_feed 71 = .ok (.istore 7, 2) := by decide +kernel
theorem dX8_feed_73 : decode cX8_feed 73 = .ok (.aload_n 0, 1) := by decide +kernel
theorem dX8_feed_74 : decode cX8_feed 74 = .ok (.getfield 7, 3) := by decide +kernel
theorem dX8_feed_77 : decode cX8_feed 77 = .ok (.iconst 0, 1) := by decide +kernel
theorem dX8_feed_78 : decode cX8_feed 78 = .ok (.aload_n 0, 1) := by decide +kernel
theorem dX8_feed_79 : decode cX8_feed 79 = .ok (.getfield 165, 3) := by decide +kernel
theorem dX8_feed_82 : decode cX8_feed 82 = .ok (.iadd, 1) := by decide +kernel
theorem dX8_feed_83 : decode cX8_feed 83 = .ok (.iload 7, 2) := by decide +kernel
theorem dX8_feed_85 : decode cX8_feed 85 = .ok (.bipush 24, 2) := by decide +kernel
theorem dX8_feed_87 : decode cX8_feed 87 = .ok (.bipush 8, 2) := by decide +kernel
theorem dX8_feed_89 : decode cX8_feed 89 = .ok (.iload 6, 2) := by decide +kernel
theorem dX8_feed_91 : decode cX8_feed 91 = .ok (.iconst 4, 1) := by decide +kernel
theorem dX8_feed_92 : decode cX8_feed 92 = .ok (.irem, 1) := by decide +kernel
theorem dX8_feed_93 : decode cX8_feed 93 = .ok (.imul, 1) := by decide +kernel
theorem dX8_feed_94 : decode cX8_feed 94 = .ok (.isub, 1) := by decide +kernel
theorem dX8_feed_95 : decode cX8_feed 95 = .ok (.ishr, 1) := by decide +kernel
theorem dX8_feed_96 : decode cX8_feed 96 = .ok (.i2b, 1) := by decide +kernel
theorem dX8_feed_97 : decode cX8_feed 97 = .ok (.bastore, 1) := by decide +kernel
theorem dX8_feed_98 : decode cX8_feed 98 = .ok (.aload_n 0, 1) := by decide +kernel
theorem dX8_feed_99 : decode cX8_feed 99 = .ok (.dup, 1) := by decide +kernel
theorem dX8_feed_100 : decode cX8_feed 100 = .ok (.getfield 165, 3) := by decide +kernel
theorem dX8_feed_103 : decode cX8_feed 103 = .ok (.iconst 1, 1) := by decide +kernel
theorem dX8_feed_104 : decode cX8_feed 104 = .ok (.iadd, 1) := by decide +kernel
theorem dX8_feed_105 : decode cX8_feed 105 = .ok (.putfield 165, 3) := by decide +kernel
theorem dX8_feed_108 : decode cX8_feed 108 = .ok (.iinc 6 1, 3) := by decide +kernel
theorem dX8_feed_111 : decode cX8_feed 111 = .ok (.goto (-93), 3) := by decide +kernel
theorem dX8_feed_114 : decode cX8_feed 114 = .ok (.aload_n 0, 1) := by decide +kernel
theorem dX8_feed_115 : decode cX8_feed 115 = .ok (.getfield 165, 3) := by decide +kernel
theorem dX8_feed_118 : decode cX8_feed 118 = .ok (.ireturn, 1) := by decide +kernel
theorem dX8_end_0 : decode cX8_end 0 = .ok (.iload_n 1, 1) := by decide +kernel
theorem dX8_end_1 : decode cX8_end 1 = .ok (.ifCond .lt 11, 3) := by decide +kernel
theorem dX8_end_4 : decode cX8_end 4 = .ok (.iload_n 1, 1) := by decide +kernel
theorem dX8_end_5 : decode cX8_end 5 = .ok (.aload_n 0, 1) := by decide +kernel
theorem dX8_end_6 : decode cX8_end 6 = .ok (.getfield 165, 3) := by decide +kernel
theorem dX8_end_9 : decode cX8_end 9 = .ok (.if_icmp .le 5, 3) := by decide +kernel
theorem dX8_end_12 : decode cX8_end 12 = .ok (.iconst (-1), 1) := by decide +kernel
theorem dX8_end_13 : decode cX8_end 13 = .ok (.ireturn, 1) := by decide +kernel
theorem dX8_end_14 : decode cX8_end 14 = .ok (.aload_n 0, 1) := by decide +kernel
theorem dX8_end_15 : decode cX8_end 15 = .ok (.iload_n 1, 1) := by decide +kernel
theorem dX8_end_16 : decode cX8_end 16 = .ok (.putfield 165, 3) := by decide +kernel
theorem dX8_end_19 : decode cX8_end 19 = .ok (.iload_n 1, 1) := by decide +kernel
theorem dX8_end_20 : decode cX8_end 20 = .ok (.ireturn, 1) := by decide +kernel
theorem dX8_take_0 : decode cX8_take 0 = .ok (.iload_n 1, 1) := by decide +kernel
theorem dX8_take_1 : decode cX8_take 1 = .ok (.ifCond .lt 8, 3) := by decide +kernel
theorem dX8_take_4 : decode cX8_take 4 = .ok (.iload_n 1, 1) := by decide +kernel
theorem dX8_take_5 : decode cX8_take 5 = .ok (.iconst 4, 1) := by decide +kernel
theorem dX8_take_6 : decode cX8_take 6 = .ok (.if_icmp .le 5, 3) := by decide +kernel
theorem dX8_take_9 : decode cX8_take 9 = .ok (.iconst (-1), 1) := by decide +kernel
theorem dX8_take_10 : decode cX8_take 10 = .ok (.ireturn, 1) := by decide +kernel
theorem dX8_take_11 : decode cX8_take 11 = .ok (.iload_n 1, 1) := by decide +kernel
theorem dX8_take_12 : decode cX8_take 12 = .ok (.ifCond .ne 9, 3) := by decide +kernel
theorem dX8_take_15 : decode cX8_take 15 = .ok (.sipush 4000, 3) := by decide +kernel
theorem dX8_take_18 : decode cX8_take 18 = .ok (.goto 39, 3) := by decide +kernel
theorem dX8_take_21 : decode cX8_take 21 = .ok (.iload_n 1, 1) := by decide +kernel
theorem dX8_take_22 : decode cX8_take 22 = .ok (.iconst 1, 1) := by decide +kernel
theorem dX8_take_23 : decode cX8_take 23 = .ok (.if_icmp .ne 9, 3) := by decide +kernel
theorem dX8_take_26 : decode cX8_take 26 = .ok (.sipush 5568, 3) := by decide +kernel
theorem dX8_take_29 : decode cX8_take 29 = .ok (.goto 28, 3) := by decide +kernel
theorem dX8_take_32 : decode cX8_take 32 = .ok (.iload_n 1, 1) := by decide +kernel
theorem dX8_take_33 : decode cX8_take 33 = .ok (.iconst 2, 1) := by decide +kernel
theorem dX8_take_34 : decode cX8_take 34 = .ok (.if_icmp .ne 9, 3) := by decide +kernel
theorem dX8_take_37 : decode cX8_take 37 = .ok (.sipush 8736, 3) := by decide +kernel
theorem dX8_take_40 : decode cX8_take 40 = .ok (.goto 17, 3) := by decide +kernel
theorem dX8_take_43 : decode cX8_take 43 = .ok (.iload_n 1, 1) := by decide +kernel
theorem dX8_take_44 : decode cX8_take 44 = .ok (.iconst 3, 1) := by decide +kernel
theorem dX8_take_45 : decode cX8_take 45 = .ok (.if_icmp .ne 9, 3) := by decide +kernel
theorem dX8_take_48 : decode cX8_take 48 = .ok (.sipush 10304, 3) := by decide +kernel
theorem dX8_take_51 : decode cX8_take 51 = .ok (.goto 6, 3) := by decide +kernel
theorem dX8_take_54 : decode cX8_take 54 = .ok (.sipush 10336, 3) := by decide +kernel
theorem dX8_take_57 : decode cX8_take 57 = .ok (.istore_n 2, 1) := by decide +kernel
theorem dX8_take_58 : decode cX8_take 58 = .ok (.aload_n 0, 1) := by decide +kernel
theorem dX8_take_59 : decode cX8_take 59 = .ok (.iload_n 1, 1) := by decide +kernel
theorem dX8_take_60 : decode cX8_take 60 = .ok (.invokevirtual 168, 3) := by decide +kernel
theorem dX8_take_63 : decode cX8_take 63 = .ok (.istore_n 3, 1) := by decide +kernel
theorem dX8_take_64 : decode cX8_take 64 = .ok (.aload_n 0, 1) := by decide +kernel
theorem dX8_take_65 : decode cX8_take 65 = .ok (.iload_n 2, 1) := by decide +kernel
theorem dX8_take_66 : decode cX8_take 66 = .ok (.iconst 0, 1) := by decide +kernel
theorem dX8_take_67 : decode cX8_take 67 = .ok (.iload_n 3, 1) := by decide +kernel
theorem dX8_take_68 : decode cX8_take 68 = .ok (.invokevirtual 108, 3) := by decide +kernel
theorem dX8_take_71 : decode cX8_take 71 = .ok (.aload_n 0, 1) := by decide +kernel
theorem dX8_take_72 : decode cX8_take 72 = .ok (.iload_n 3, 1) := by decide +kernel
theorem dX8_take_73 : decode cX8_take 73 = .ok (.putfield 165, 3) := by decide +kernel
theorem dX8_take_76 : decode cX8_take 76 = .ok (.iload_n 3, 1) := by decide +kernel
theorem dX8_take_77 : decode cX8_take 77 = .ok (.ireturn, 1) := by decide +kernel
theorem dX8_alter_0 : decode cX8_alter 0 = .ok (.iload_n 1, 1) := by decide +kernel
theorem dX8_alter_1 : decode cX8_alter 1 = .ok (.ifCond .lt 11, 3) := by decide +kernel
theorem dX8_alter_4 : decode cX8_alter 4 = .ok (.iload_n 1, 1) := by decide +kernel
theorem dX8_alter_5 : decode cX8_alter 5 = .ok (.aload_n 0, 1) := by decide +kernel
theorem dX8_alter_6 : decode cX8_alter 6 = .ok (.getfield 165, 3) := by decide +kernel
theorem dX8_alter_9 : decode cX8_alter 9 = .ok (.if_icmp .lt 5, 3) := by decide +kernel
theorem dX8_alter_12 : decode cX8_alter 12 = .ok (.iconst 0, 1) := by decide +kernel
theorem dX8_alter_13 : decode cX8_alter 13 = .ok (.ireturn, 1) := by decide +kernel
theorem dX8_alter_14 : decode cX8_alter 14 = .ok (.aload_n 0, 1) := by decide +kernel
theorem dX8_alter_15 : decode cX8_alter 15 = .ok (.getfield 7, 3) := by decide +kernel
theorem dX8_alter_18 : decode cX8_alter 18 = .ok (.iconst 0, 1) := by decide +kernel
theorem dX8_alter_19 : decode cX8_alter 19 = .ok (.iload_n 1, 1) := by decide +kernel
theorem dX8_alter_20 : decode cX8_alter 20 = .ok (.iadd, 1) := by decide +kernel
theorem dX8_alter_21 : decode cX8_alter 21 = .ok (.iload_n 2, 1) := by decide +kernel
theorem dX8_alter_22 : decode cX8_alter 22 = .ok (.i2b, 1) := by decide +kernel
theorem dX8_alter_23 : decode cX8_alter 23 = .ok (.bastore, 1) := by decide +kernel
theorem dX8_alter_24 : decode cX8_alter 24 = .ok (.iconst 1, 1) := by decide +kernel
theorem dX8_alter_25 : decode cX8_alter 25 = .ok (.ireturn, 1) := by decide +kernel
theorem dX8_choose_0 : decode cX8_choose 0 = .ok (.iload_n 1, 1) := by decide +kernel
theorem dX8_choose_1 : decode cX8_choose 1 = .ok (.iconst 2, 1) := by decide +kernel
theorem dX8_choose_2 : decode cX8_choose 2 = .ok (.if_icmp .lt 8, 3) := by decide +kernel
theorem dX8_choose_5 : decode cX8_choose 5 = .ok (.iload_n 1, 1) := by decide +kernel
theorem dX8_choose_6 : decode cX8_choose 6 = .ok (.iconst 4, 1) := by decide +kernel
theorem dX8_choose_7 : decode cX8_choose 7 = .ok (.if_icmp .le 5, 3) := by decide +kernel
theorem dX8_choose_10 : decode cX8_choose 10 = .ok (.iconst (-1), 1) := by decide +kernel
theorem dX8_choose_11 : decode cX8_choose 11 = .ok (.ireturn, 1) := by decide +kernel
theorem dX8_choose_12 : decode cX8_choose 12 = .ok (.aload_n 0, 1) := by decide +kernel
theorem dX8_choose_13 : decode cX8_choose 13 = .ok (.iload_n 1, 1) := by decide +kernel
theorem dX8_choose_14 : decode cX8_choose 14 = .ok (.putfield 13, 3) := by decide +kernel
theorem dX8_choose_17 : decode cX8_choose 17 = .ok (.aload_n 0, 1) := by decide +kernel
theorem dX8_choose_18 : decode cX8_choose 18 = .ok (.iconst 0, 1) := by decide +kernel
theorem dX8_choose_19 : decode cX8_choose 19 = .ok (.putfield 171, 3) := by decide +kernel
theorem dX8_choose_22 : decode cX8_choose 22 = .ok (.aload_n 0, 1) := by decide +kernel
theorem dX8_choose_23 : decode cX8_choose 23 = .ok (.iconst 0, 1) := by decide +kernel
theorem dX8_choose_24 : decode cX8_choose 24 = .ok (.putfield 174, 3) := by decide +kernel
theorem dX8_choose_27 : decode cX8_choose 27 = .ok (.aload_n 0, 1) := by decide +kernel
theorem dX8_choose_28 : decode cX8_choose 28 = .ok (.iconst 0, 1) := by decide +kernel
theorem dX8_choose_29 : decode cX8_choose 29 = .ok (.putfield 177, 3) := by decide +kernel
theorem dX8_choose_32 : decode cX8_choose 32 = .ok (.aload_n 0, 1) := by decide +kernel
theorem dX8_choose_33 : decode cX8_choose 33 = .ok (.iconst 0, 1) := by decide +kernel
theorem dX8_choose_34 : decode cX8_choose 34 = .ok (.putfield 180, 3) := by decide +kernel
theorem dX8_choose_37 : decode cX8_choose 37 = .ok (.aload_n 0, 1) := by decide +kernel
theorem dX8_choose_38 : decode cX8_choose 38 = .ok (.invokevirtual 183, 3) := by decide +kernel
theorem dX8_choose_41 : decode cX8_choose 41 = .ok (.ireturn, 1) := by decide +kernel
theorem dX8_bound_0 : decode cX8_bound 0 = .ok (.iload_n 1, 1) := by decide +kernel
theorem dX8_bound_1 : decode cX8_bound 1 = .ok (.iconst 1, 1) := by decide +kernel
theorem dX8_bound_2 : decode cX8_bound 2 = .ok (.if_icmp .lt 10, 3) := by decide +kernel
theorem dX8_bound_5 : decode cX8_bound 5 = .ok (.iload_n 1, 1) := by decide +kernel
theorem dX8_bound_6 : decode cX8_bound 6 = .ok (.sipush 280, 3) := by decide +kernel
theorem dX8_bound_9 : decode cX8_bound 9 = .ok (.if_icmp .le 5, 3) := by decide +kernel
theorem dX8_bound_12 : decode cX8_bound 12 = .ok (.iconst (-1), 1) := by decide +kernel
theorem dX8_bound_13 : decode cX8_bound 13 = .ok (.ireturn, 1) := by decide +kernel
theorem dX8_bound_14 : decode cX8_bound 14 = .ok (.aload_n 0, 1) := by decide +kernel
theorem dX8_bound_15 : decode cX8_bound 15 = .ok (.iload_n 1, 1) := by decide +kernel
theorem dX8_bound_16 : decode cX8_bound 16 = .ok (.putfield 17, 3) := by decide +kernel
theorem dX8_bound_19 : decode cX8_bound 19 = .ok (.iload_n 1, 1) := by decide +kernel
theorem dX8_bound_20 : decode cX8_bound 20 = .ok (.ireturn, 1) := by decide +kernel
theorem dX8_length_0 : decode cX8_length 0 = .ok (.iload_n 1, 1) := by decide +kernel
theorem dX8_length_1 : decode cX8_length 1 = .ok (.tableswitch 69 0 5 #[39, 44, 49, 54, 59, 64], 39) := by decide +kernel
theorem dX8_length_40 : decode cX8_length 40 = .ok (.aload_n 0, 1) := by decide +kernel
theorem dX8_length_41 : decode cX8_length 41 = .ok (.getfield 171, 3) := by decide +kernel
theorem dX8_length_44 : decode cX8_length 44 = .ok (.ireturn, 1) := by decide +kernel
theorem dX8_length_45 : decode cX8_length 45 = .ok (.aload_n 0, 1) := by decide +kernel
theorem dX8_length_46 : decode cX8_length 46 = .ok (.getfield 174, 3) := by decide +kernel
theorem dX8_length_49 : decode cX8_length 49 = .ok (.ireturn, 1) := by decide +kernel
theorem dX8_length_50 : decode cX8_length 50 = .ok (.aload_n 0, 1) := by decide +kernel
theorem dX8_length_51 : decode cX8_length 51 = .ok (.getfield 177, 3) := by decide +kernel
theorem dX8_length_54 : decode cX8_length 54 = .ok (.ireturn, 1) := by decide +kernel
theorem dX8_length_55 : decode cX8_length 55 = .ok (.aload_n 0, 1) := by decide +kernel
theorem dX8_length_56 : decode cX8_length 56 = .ok (.getfield 180, 3) := by decide +kernel
theorem dX8_length_59 : decode cX8_length 59 = .ok (.ireturn, 1) := by decide +kernel
theorem dX8_length_60 : decode cX8_length 60 = .ok (.aload_n 0, 1) := by decide +kernel
theorem dX8_length_61 : decode cX8_length 61 = .ok (.getfield 186, 3) := by decide +kernel
theorem dX8_length_64 : decode cX8_length 64 = .ok (.ireturn, 1) := by decide +kernel
theorem dX8_length_65 : decode cX8_length 65 = .ok (.aload_n 0, 1) := by decide +kernel
theorem dX8_length_66 : decode cX8_length 66 = .ok (.getfield 165, 3) := by decide +kernel
theorem dX8_length_69 : decode cX8_length 69 = .ok (.ireturn, 1) := by decide +kernel
theorem dX8_length_70 : decode cX8_length 70 = .ok (.iconst (-1), 1) := by decide +kernel
theorem dX8_length_71 : decode cX8_length 71 = .ok (.ireturn, 1) := by decide +kernel
theorem dX8_at_0 : decode cX8_at 0 = .ok (.iload_n 2, 1) := by decide +kernel
theorem dX8_at_1 : decode cX8_at 1 = .ok (.ifCond .lt 12, 3) := by decide +kernel
theorem dX8_at_4 : decode cX8_at 4 = .ok (.iload_n 2, 1) := by decide +kernel
theorem dX8_at_5 : decode cX8_at 5 = .ok (.aload_n 0, 1) := by decide +kernel
theorem dX8_at_6 : decode cX8_at 6 = .ok (.iload_n 1, 1) := by decide +kernel
theorem dX8_at_7 : decode cX8_at 7 = .ok (.invokevirtual 168, 3) := by decide +kernel
theorem dX8_at_10 : decode cX8_at 10 = .ok (.if_icmp .lt 5, 3) := by decide +kernel
theorem dX8_at_13 : decode cX8_at 13 = .ok (.iconst (-1), 1) := by decide +kernel
theorem dX8_at_14 : decode cX8_at 14 = .ok (.ireturn, 1) := by decide +kernel
theorem dX8_at_15 : decode cX8_at 15 = .ok (.iload_n 1, 1) := by decide +kernel
theorem dX8_at_16 : decode cX8_at 16 = .ok (.ifCond .ne 9, 3) := by decide +kernel
theorem dX8_at_19 : decode cX8_at 19 = .ok (.sipush 4000, 3) := by decide +kernel
theorem dX8_at_22 : decode cX8_at 22 = .ok (.goto 48, 3) := by decide +kernel
theorem dX8_at_25 : decode cX8_at 25 = .ok (.iload_n 1, 1) := by decide +kernel
theorem dX8_at_26 : decode cX8_at 26 = .ok (.iconst 1, 1) := by decide +kernel
theorem dX8_at_27 : decode cX8_at 27 = .ok (.if_icmp .ne 9, 3) := by decide +kernel
theorem dX8_at_30 : decode cX8_at 30 = .ok (.sipush 5568, 3) := by decide +kernel
theorem dX8_at_33 : decode cX8_at 33 = .ok (.goto 37, 3) := by decide +kernel
theorem dX8_at_36 : decode cX8_at 36 = .ok (.iload_n 1, 1) := by decide +kernel
theorem dX8_at_37 : decode cX8_at 37 = .ok (.iconst 2, 1) := by decide +kernel
theorem dX8_at_38 : decode cX8_at 38 = .ok (.if_icmp .ne 9, 3) := by decide +kernel
theorem dX8_at_41 : decode cX8_at 41 = .ok (.sipush 8736, 3) := by decide +kernel
theorem dX8_at_44 : decode cX8_at 44 = .ok (.goto 26, 3) := by decide +kernel
theorem dX8_at_47 : decode cX8_at 47 = .ok (.iload_n 1, 1) := by decide +kernel
theorem dX8_at_48 : decode cX8_at 48 = .ok (.iconst 3, 1) := by decide +kernel
theorem dX8_at_49 : decode cX8_at 49 = .ok (.if_icmp .ne 9, 3) := by decide +kernel
theorem dX8_at_52 : decode cX8_at 52 = .ok (.sipush 10304, 3) := by decide +kernel
theorem dX8_at_55 : decode cX8_at 55 = .ok (.goto 15, 3) := by decide +kernel
theorem dX8_at_58 : decode cX8_at 58 = .ok (.iload_n 1, 1) := by decide +kernel
theorem dX8_at_59 : decode cX8_at 59 = .ok (.iconst 4, 1) := by decide +kernel
theorem dX8_at_60 : decode cX8_at 60 = .ok (.if_icmp .ne 9, 3) := by decide +kernel
theorem dX8_at_63 : decode cX8_at 63 = .ok (.sipush 10336, 3) := by decide +kernel
theorem dX8_at_66 : decode cX8_at 66 = .ok (.goto 4, 3) := by decide +kernel
theorem dX8_at_69 : decode cX8_at 69 = .ok (.iconst 0, 1) := by decide +kernel
theorem dX8_at_70 : decode cX8_at 70 = .ok (.istore_n 3, 1) := by decide +kernel
theorem dX8_at_71 : decode cX8_at 71 = .ok (.aload_n 0, 1) := by decide +kernel
theorem dX8_at_72 : decode cX8_at 72 = .ok (.iload_n 3, 1) := by decide +kernel
theorem dX8_at_73 : decode cX8_at 73 = .ok (.iload_n 2, 1) := by decide +kernel
theorem dX8_at_74 : decode cX8_at 74 = .ok (.iadd, 1) := by decide +kernel
theorem dX8_at_75 : decode cX8_at 75 = .ok (.invokevirtual 74, 3) := by decide +kernel
theorem dX8_at_78 : decode cX8_at 78 = .ok (.ireturn, 1) := by decide +kernel
theorem dX8_used_0 : decode cX8_used 0 = .ok (.aload_n 0, 1) := by decide +kernel
theorem dX8_used_1 : decode cX8_used 1 = .ok (.getfield 165, 3) := by decide +kernel
theorem dX8_used_4 : decode cX8_used 4 = .ok (.istore_n 1, 1) := by decide +kernel
theorem dX8_used_5 : decode cX8_used 5 = .ok (.aload_n 0, 1) := by decide +kernel
theorem dX8_used_6 : decode cX8_used 6 = .ok (.iconst 0, 1) := by decide +kernel
theorem dX8_used_7 : decode cX8_used 7 = .ok (.putfield 165, 3) := by decide +kernel
theorem dX8_used_10 : decode cX8_used 10 = .ok (.iload_n 1, 1) := by decide +kernel
theorem dX8_used_11 : decode cX8_used 11 = .ok (.ireturn, 1) := by decide +kernel
theorem dX8_make_0 : decode cX8_make 0 = .ok (.aload_n 0, 1) := by decide +kernel
theorem dX8_make_1 : decode cX8_make 1 = .ok (.invokevirtual 189, 3) := by decide +kernel
theorem dX8_make_4 : decode cX8_make 4 = .ok (.bipush 64, 2) := by decide +kernel
theorem dX8_make_6 : decode cX8_make 6 = .ok (.if_icmp .eq 5, 3) := by decide +kernel
theorem dX8_make_9 : decode cX8_make 9 = .ok (.iconst (-1), 1) := by decide +kernel
theorem dX8_make_10 : decode cX8_make 10 = .ok (.ireturn, 1) := by decide +kernel
theorem dX8_make_11 : decode cX8_make 11 = .ok (.aload_n 0, 1) := by decide +kernel
theorem dX8_make_12 : decode cX8_make 12 = .ok (.invokevirtual 192, 3) := by decide +kernel
theorem dX8_make_15 : decode cX8_make 15 = .ok (.ifCond .ne 6, 3) := by decide +kernel
theorem dX8_make_18 : decode cX8_make 18 = .ok (.bipush (-2), 2) := by decide +kernel
theorem dX8_make_20 : decode cX8_make 20 = .ok (.ireturn, 1) := by decide +kernel
theorem dX8_make_21 : decode cX8_make 21 = .ok (.aload_n 0, 1) := by decide +kernel
theorem dX8_make_22 : decode cX8_make 22 = .ok (.sipush 16476, 3) := by decide +kernel
theorem dX8_make_25 : decode cX8_make 25 = .ok (.sipush 4000, 3) := by decide +kernel
theorem dX8_make_28 : decode cX8_make 28 = .ok (.aload_n 0, 1) := by decide +kernel
theorem dX8_make_29 : decode cX8_make 29 = .ok (.invokevirtual 183, 3) := by decide +kernel
theorem dX8_make_32 : decode cX8_make 32 = .ok (.invokevirtual 108, 3) := by decide +kernel
theorem dX8_make_35 : decode cX8_make 35 = .ok (.aload_n 0, 1) := by decide +kernel
theorem dX8_make_36 : decode cX8_make 36 = .ok (.aload_n 0, 1) := by decide +kernel
theorem dX8_make_37 : decode cX8_make 37 = .ok (.invokevirtual 183, 3) := by decide +kernel
theorem dX8_make_40 : decode cX8_make 40 = .ok (.putfield 171, 3) := by decide +kernel
theorem dX8_make_43 : decode cX8_make 43 = .ok (.iconst 0, 1) := by decide +kernel
theorem dX8_make_44 : decode cX8_make 44 = .ok (.istore_n 1, 1) := by decide +kernel
theorem dX8_make_45 : decode cX8_make 45 = .ok (.iload_n 1, 1) := by decide +kernel
theorem dX8_make_46 : decode cX8_make 46 = .ok (.aload_n 0, 1) := by decide +kernel
theorem dX8_make_47 : decode cX8_make 47 = .ok (.getfield 13, 3) := by decide +kernel
theorem dX8_make_50 : decode cX8_make 50 = .ok (.if_icmp .ge 27, 3) := by decide +kernel
theorem dX8_make_53 : decode cX8_make 53 = .ok (.aload_n 0, 1) := by decide +kernel
theorem dX8_make_54 : decode cX8_make 54 = .ok (.iconst 4, 1) := by decide +kernel
theorem dX8_make_55 : decode cX8_make 55 = .ok (.iload_n 1, 1) := by decide +kernel
theorem dX8_make_56 : decode cX8_make 56 = .ok (.iadd, 1) := by decide +kernel
theorem dX8_make_57 : decode cX8_make 57 = .ok (.bipush 12, 2) := by decide +kernel
theorem dX8_make_59 : decode cX8_make 59 = .ok (.sipush 5568, 3) := by decide +kernel
theorem dX8_make_62 : decode cX8_make 62 = .ok (.sipush 384, 3) := by decide +kernel
theorem dX8_make_65 : decode cX8_make 65 = .ok (.iload_n 1, 1) := by decide +kernel
theorem dX8_make_66 : decode cX8_make 66 = .ok (.imul, 1) := by decide +kernel
theorem dX8_make_67 : decode cX8_make 67 = .ok (.iadd, 1) := by decide +kernel
theorem dX8_make_68 : decode cX8_make 68 = .ok (.invokevirtual 144, 3) := by decide +kernel
theorem dX8_make_71 : decode cX8_make 71 = .ok (.iinc 1 1, 3) := by decide +kernel
theorem dX8_make_74 : decode cX8_make 74 = .ok (.goto (-29), 3) := by decide +kernel
theorem dX8_make_77 : decode cX8_make 77 = .ok (.aload_n 0, 1) := by decide +kernel
theorem dX8_make_78 : decode cX8_make 78 = .ok (.sipush 4000, 3) := by decide +kernel
theorem dX8_make_81 : decode cX8_make 81 = .ok (.sipush 5568, 3) := by decide +kernel
theorem dX8_make_84 : decode cX8_make 84 = .ok (.sipush 384, 3) := by decide +kernel
theorem dX8_make_87 : decode cX8_make 87 = .ok (.aload_n 0, 1) := by decide +kernel
theorem dX8_make_88 : decode cX8_make 88 = .ok (.getfield 13, 3) := by decide +kernel
theorem dX8_make_91 : decode cX8_make 91 = .ok (.imul, 1) := by decide +kernel
theorem dX8_make_92 : decode cX8_make 92 = .ok (.iadd, 1) := by decide +kernel
theorem dX8_make_93 : decode cX8_make 93 = .ok (.aload_n 0, 1) := by decide +kernel
theorem dX8_make_94 : decode cX8_make 94 = .ok (.getfield 171, 3) := by decide +kernel
theorem dX8_make_97 : decode cX8_make 97 = .ok (.invokevirtual 108, 3) := by decide +kernel
theorem dX8_make_100 : decode cX8_make 100 = .ok (.aload_n 0, 1) := by decide +kernel
theorem dX8_make_101 : decode cX8_make 101 = .ok (.sipush 4000, 3) := by decide +kernel
theorem dX8_make_104 : decode cX8_make 104 = .ok (.aload_n 0, 1) := by decide +kernel
theorem dX8_make_105 : decode cX8_make 105 = .ok (.getfield 171, 3) := by decide +kernel
theorem dX8_make_108 : decode cX8_make 108 = .ok (.sipush 5568, 3) := by decide +kernel
theorem dX8_make_111 : decode cX8_make 111 = .ok (.sipush 768, 3) := by decide +kernel
theorem dX8_make_114 : decode cX8_make 114 = .ok (.aload_n 0, 1) := by decide +kernel
theorem dX8_make_115 : decode cX8_make 115 = .ok (.getfield 13, 3) := by decide +kernel
theorem dX8_make_118 : decode cX8_make 118 = .ok (.imul, 1) := by decide +kernel
theorem dX8_make_119 : decode cX8_make 119 = .ok (.iadd, 1) := by decide +kernel
theorem dX8_make_120 : decode cX8_make 120 = .ok (.bipush 32, 2) := by decide +kernel
theorem dX8_make_122 : decode cX8_make 122 = .ok (.iadd, 1) := by decide +kernel
theorem dX8_make_123 : decode cX8_make 123 = .ok (.invokevirtual 196, 3) := by decide +kernel
theorem dX8_make_126 : decode cX8_make 126 = .ok (.aload_n 0, 1) := by decide +kernel
theorem dX8_make_127 : decode cX8_make 127 = .ok (.bipush 32, 2) := by decide +kernel
theorem dX8_make_129 : decode cX8_make 129 = .ok (.sipush 5568, 3) := by decide +kernel
theorem dX8_make_132 : decode cX8_make 132 = .ok (.sipush 768, 3) := by decide +kernel
theorem dX8_make_135 : decode cX8_make 135 = .ok (.aload_n 0, 1) := by decide +kernel
theorem dX8_make_136 : decode cX8_make 136 = .ok (.getfield 13, 3) := by decide +kernel
theorem dX8_make_139 : decode cX8_make 139 = .ok (.imul, 1) := by decide +kernel
theorem dX8_make_140 : decode cX8_make 140 = .ok (.iadd, 1) := by decide +kernel
theorem dX8_make_141 : decode cX8_make 141 = .ok (.bipush 64, 2) := by decide +kernel
theorem dX8_make_143 : decode cX8_make 143 = .ok (.iadd, 1) := by decide +kernel
theorem dX8_make_144 : decode cX8_make 144 = .ok (.bipush 32, 2) := by decide +kernel
theorem dX8_make_146 : decode cX8_make 146 = .ok (.invokevirtual 108, 3) := by decide +kernel
theorem dX8_make_149 : decode cX8_make 149 = .ok (.aload_n 0, 1) := by decide +kernel
theorem dX8_make_150 : decode cX8_make 150 = .ok (.sipush 768, 3) := by decide +kernel
theorem dX8_make_153 : decode cX8_make 153 = .ok (.aload_n 0, 1) := by decide +kernel
theorem dX8_make_154 : decode cX8_make 154 = .ok (.getfield 13, 3) := by decide +kernel
theorem dX8_make_157 : decode cX8_make 157 = .ok (.imul, 1) := by decide +kernel
theorem dX8_make_158 : decode cX8_make 158 = .ok (.bipush 96, 2) := by decide +kernel
theorem dX8_make_160 : decode cX8_make 160 = .ok (.iadd, 1) := by decide +kernel
theorem dX8_make_161 : decode cX8_make 161 = .ok (.putfield 174, 3) := by decide +kernel
theorem dX8_make_164 : decode cX8_make 164 = .ok (.aload_n 0, 1) := by decide +kernel
theorem dX8_make_165 : decode cX8_make 165 = .ok (.iconst 0, 1) := by decide +kernel
theorem dX8_make_166 : decode cX8_make 166 = .ok (.putfield 177, 3) := by decide +kernel
theorem dX8_make_169 : decode cX8_make 169 = .ok (.aload_n 0, 1) := by decide +kernel
theorem dX8_make_170 : decode cX8_make 170 = .ok (.iconst 0, 1) := by decide +kernel
theorem dX8_make_171 : decode cX8_make 171 = .ok (.putfield 180, 3) := by decide +kernel
theorem dX8_make_174 : decode cX8_make 174 = .ok (.aload_n 0, 1) := by decide +kernel
theorem dX8_make_175 : decode cX8_make 175 = .ok (.getfield 171, 3) := by decide +kernel
theorem dX8_make_178 : decode cX8_make 178 = .ok (.ireturn, 1) := by decide +kernel
theorem dX8_load_0 : decode cX8_load 0 = .ok (.iload_n 1, 1) := by decide +kernel
theorem dX8_load_1 : decode cX8_load 1 = .ok (.ifCond .lt 8, 3) := by decide +kernel
theorem dX8_load_4 : decode cX8_load 4 = .ok (.iload_n 1, 1) := by decide +kernel
theorem dX8_load_5 : decode cX8_load 5 = .ok (.iconst 2, 1) := by decide +kernel
theorem dX8_load_6 : decode cX8_load 6 = .ok (.if_icmp .le 5, 3) := by decide +kernel
theorem dX8_load_9 : decode cX8_load 9 = .ok (.iconst (-1), 1) := by decide +kernel
theorem dX8_load_10 : decode cX8_load 10 = .ok (.ireturn, 1) := by decide +kernel
theorem dX8_load_11 : decode cX8_load 11 = .ok (.aload_n 0, 1) := by decide +kernel
theorem dX8_load_12 : decode cX8_load 12 = .ok (.invokevirtual 189, 3) := by decide +kernel
theorem dX8_load_15 : decode cX8_load 15 = .ok (.istore_n 2, 1) := by decide +kernel
theorem dX8_load_16 : decode cX8_load 16 = .ok (.iload_n 2, 1) := by decide +kernel
theorem dX8_load_17 : decode cX8_load 17 = .ok (.iload_n 1, 1) := by decide +kernel
theorem dX8_load_18 : decode cX8_load 18 = .ok (.ifCond .ne 10, 3) := by decide +kernel
theorem dX8_load_21 : decode cX8_load 21 = .ok (.aload_n 0, 1) := by decide +kernel
theorem dX8_load_22 : decode cX8_load 22 = .ok (.invokevirtual 183, 3) := by decide +kernel
theorem dX8_load_25 : decode cX8_load 25 = .ok (.goto 26, 3) := by decide +kernel
theorem dX8_load_28 : decode cX8_load 28 = .ok (.iload_n 1, 1) := by decide +kernel
theorem dX8_load_29 : decode cX8_load 29 = .ok (.iconst 1, 1) := by decide +kernel
theorem dX8_load_30 : decode cX8_load 30 = .ok (.if_icmp .ne 17, 3) := by decide +kernel
theorem dX8_load_33 : decode cX8_load 33 = .ok (.sipush 768, 3) := by decide +kernel
theorem dX8_load_36 : decode cX8_load 36 = .ok (.aload_n 0, 1) := by decide +kernel
theorem dX8_load_37 : decode cX8_load 37 = .ok (.getfield 13, 3) := by decide +kernel
theorem dX8_load_40 : decode cX8_load 40 = .ok (.imul, 1) := by decide +kernel
theorem dX8_load_41 : decode cX8_load 41 = .ok (.bipush 96, 2) := by decide +kernel
theorem dX8_load_43 : decode cX8_load 43 = .ok (.iadd, 1) := by decide +kernel
theorem dX8_load_44 : decode cX8_load 44 = .ok (.goto 7, 3) := by decide +kernel
theorem dX8_load_47 : decode cX8_load 47 = .ok (.aload_n 0, 1) := by decide +kernel
theorem dX8_load_48 : decode cX8_load 48 = .ok (.invokevirtual 199, 3) := by decide +kernel
theorem dX8_load_51 : decode cX8_load 51 = .ok (.if_icmp .eq 5, 3) := by decide +kernel
theorem dX8_load_54 : decode cX8_load 54 = .ok (.iconst (-1), 1) := by decide +kernel
theorem dX8_load_55 : decode cX8_load 55 = .ok (.ireturn, 1) := by decide +kernel
theorem dX8_load_56 : decode cX8_load 56 = .ok (.iload_n 1, 1) := by decide +kernel
theorem dX8_load_57 : decode cX8_load 57 = .ok (.ifCond .ne 57, 3) := by decide +kernel
theorem dX8_load_60 : decode cX8_load 60 = .ok (.iconst 0, 1) := by decide +kernel
theorem dX8_load_61 : decode cX8_load 61 = .ok (.istore_n 3, 1) := by decide +kernel
theorem dX8_load_62 : decode cX8_load 62 = .ok (.iload_n 3, 1) := by decide +kernel
theorem dX8_load_63 : decode cX8_load 63 = .ok (.sipush 256, 3) := by decide +kernel
theorem dX8_load_66 : decode cX8_load 66 = .ok (.aload_n 0, 1) := by decide +kernel
theorem dX8_load_67 : decode cX8_load 67 = .ok (.getfield 13, 3) := by decide +kernel
theorem dX8_load_70 : decode cX8_load 70 = .ok (.imul, 1) := by decide +kernel
theorem dX8_load_71 : decode cX8_load 71 = .ok (.if_icmp .ge 26, 3) := by decide +kernel
theorem dX8_load_74 : decode cX8_load 74 = .ok (.aload_n 0, 1) := by decide +kernel
theorem dX8_load_75 : decode cX8_load 75 = .ok (.iconst 0, 1) := by decide +kernel
theorem dX8_load_76 : decode cX8_load 76 = .ok (.iload_n 3, 1) := by decide +kernel
theorem dX8_load_77 : decode cX8_load 77 = .ok (.bipush 12, 2) := by decide +kernel
theorem dX8_load_79 : decode cX8_load 79 = .ok (.invokevirtual 101, 3) := by decide +kernel
theorem dX8_load_82 : decode cX8_load 82 = .ok (.sipush 3329, 3) := by decide +kernel
theorem dX8_load_85 : decode cX8_load 85 = .ok (.if_icmp .lt 6, 3) := by decide +kernel
theorem dX8_load_88 : decode cX8_load 88 = .ok (.bipush (-2), 2) := by decide +kernel
theorem dX8_load_90 : decode cX8_load 90 = .ok (.ireturn, 1) := by decide +kernel
theorem dX8_load_91 : decode cX8_load 91 = .ok (.iinc 3 1, 3) := by decide +kernel
theorem dX8_load_94 : decode cX8_load 94 = .ok (.goto (-32), 3) := by decide +kernel
theorem dX8_load_97 : decode cX8_load 97 = .ok (.aload_n 0, 1) := by decide +kernel
theorem dX8_load_98 : decode cX8_load 98 = .ok (.iconst 0, 1) := by decide +kernel
theorem dX8_load_99 : decode cX8_load 99 = .ok (.sipush 4000, 3) := by decide +kernel
theorem dX8_load_102 : decode cX8_load 102 = .ok (.iload_n 2, 1) := by decide +kernel
theorem dX8_load_103 : decode cX8_load 103 = .ok (.invokevirtual 108, 3) := by decide +kernel
theorem dX8_load_106 : decode cX8_load 106 = .ok (.aload_n 0, 1) := by decide +kernel
theorem dX8_load_107 : decode cX8_load 107 = .ok (.iload_n 2, 1) := by decide +kernel
theorem dX8_load_108 : decode cX8_load 108 = .ok (.putfield 171, 3) := by decide +kernel
theorem dX8_load_111 : decode cX8_load 111 = .ok (.goto 110, 3) := by decide +kernel
theorem dX8_load_114 : decode cX8_load 114 = .ok (.iload_n 1, 1) := by decide +kernel
theorem dX8_load_115 : decode cX8_load 115 = .ok (.iconst 1, 1) := by decide +kernel
theorem dX8_load_116 : decode cX8_load 116 = .ok (.if_icmp .ne 91, 3) := by decide +kernel
theorem dX8_load_119 : decode cX8_load 119 = .ok (.aload_n 0, 1) := by decide +kernel
theorem dX8_load_120 : decode cX8_load 120 = .ok (.iconst 0, 1) := by decide +kernel
theorem dX8_load_121 : decode cX8_load 121 = .ok (.sipush 384, 3) := by decide +kernel
theorem dX8_load_124 : decode cX8_load 124 = .ok (.aload_n 0, 1) := by decide +kernel
theorem dX8_load_125 : decode cX8_load 125 = .ok (.getfield 13, 3) := by decide +kernel
theorem dX8_load_128 : decode cX8_load 128 = .ok (.imul, 1) := by decide +kernel
theorem dX8_load_129 : decode cX8_load 129 = .ok (.iadd, 1) := by decide +kernel
theorem dX8_load_130 : decode cX8_load 130 = .ok (.aload_n 0, 1) := by decide +kernel
theorem dX8_load_131 : decode cX8_load 131 = .ok (.invokevirtual 183, 3) := by decide +kernel
theorem dX8_load_134 : decode cX8_load 134 = .ok (.sipush 15436, 3) := by decide +kernel
theorem dX8_load_137 : decode cX8_load 137 = .ok (.invokevirtual 196, 3) := by decide +kernel
theorem dX8_load_140 : decode cX8_load 140 = .ok (.iconst 0, 1) := by decide +kernel
theorem dX8_load_141 : decode cX8_load 141 = .ok (.istore_n 3, 1) := by decide +kernel
theorem dX8_load_142 : decode cX8_load 142 = .ok (.iload_n 3, 1) := by decide +kernel
theorem dX8_load_143 : decode cX8_load 143 = .ok (.bipush 32, 2) := by decide +kernel
theorem dX8_load_145 : decode cX8_load 145 = .ok (.if_icmp .ge 45, 3) := by decide +kernel
theorem dX8_load_148 : decode cX8_load 148 = .ok (.aload_n 0, 1) := by decide +kernel
theorem dX8_load_149 : decode cX8_load 149 = .ok (.getfield 7, 3) := by decide +kernel
theorem dX8_load_152 : decode cX8_load 152 = .ok (.sipush 15436, 3) := by decide +kernel
theorem dX8_load_155 : decode cX8_load 155 = .ok (.iload_n 3, 1) := by decide +kernel
theorem dX8_load_156 : decode cX8_load 156 = .ok (.iadd, 1) := by decide +kernel
theorem dX8_load_157 : decode cX8_load 157 = .ok (.baload, 1) := by decide +kernel
theorem dX8_load_158 : decode cX8_load 158 = .ok (.aload_n 0, 1) := by decide +kernel
theorem dX8_load_159 : decode cX8_load 159 = .ok (.getfield 7, 3) := by decide +kernel
theorem dX8_load_162 : decode cX8_load 162 = .ok (.iconst 0, 1) := by decide +kernel
theorem dX8_load_163 : decode cX8_load 163 = .ok (.sipush 768, 3) := by decide +kernel
theorem dX8_load_166 : decode cX8_load 166 = .ok (.aload_n 0, 1) := by decide +kernel
theorem dX8_load_167 : decode cX8_load 167 = .ok (.getfield 13, 3) := by decide +kernel
theorem dX8_load_170 : decode cX8_load 170 = .ok (.imul, 1) := by decide +kernel
theorem dX8_load_171 : decode cX8_load 171 = .ok (.iadd, 1) := by decide +kernel
theorem dX8_load_172 : decode cX8_load 172 = .ok (.bipush 32, 2) := by decide +kernel
theorem dX8_load_174 : decode cX8_load 174 = .ok (.iadd, 1) := by decide +kernel
theorem dX8_load_175 : decode cX8_load 175 = .ok (.iload_n 3, 1) := by decide +kernel
theorem dX8_load_176 : decode cX8_load 176 = .ok (.iadd, 1) := by decide +kernel
theorem dX8_load_177 : decode cX8_load 177 = .ok (.baload, 1) := by decide +kernel
theorem dX8_load_178 : decode cX8_load 178 = .ok (.if_icmp .eq 6, 3) := by decide +kernel
theorem dX8_load_181 : decode cX8_load 181 = .ok (.bipush (-3), 2) := by decide +kernel
theorem dX8_load_183 : decode cX8_load 183 = .ok (.ireturn, 1) := by decide +kernel
theorem dX8_load_184 : decode cX8_load 184 = .ok (.iinc 3 1, 3) := by decide +kernel
theorem dX8_load_187 : decode cX8_load 187 = .ok (.goto (-45), 3) := by decide +kernel
theorem dX8_load_190 : decode cX8_load 190 = .ok (.aload_n 0, 1) := by decide +kernel
theorem dX8_load_191 : decode cX8_load 191 = .ok (.iconst 0, 1) := by decide +kernel
theorem dX8_load_192 : decode cX8_load 192 = .ok (.sipush 5568, 3) := by decide +kernel
theorem dX8_load_195 : decode cX8_load 195 = .ok (.iload_n 2, 1) := by decide +kernel
theorem dX8_load_196 : decode cX8_load 196 = .ok (.invokevirtual 108, 3) := by decide +kernel
theorem dX8_load_199 : decode cX8_load 199 = .ok (.aload_n 0, 1) := by decide +kernel
theorem dX8_load_200 : decode cX8_load 200 = .ok (.iload_n 2, 1) := by decide +kernel
theorem dX8_load_201 : decode cX8_load 201 = .ok (.putfield 174, 3) := by decide +kernel
theorem dX8_load_204 : decode cX8_load 204 = .ok (.goto 17, 3) := by decide +kernel
theorem dX8_load_207 : decode cX8_load 207 = .ok (.aload_n 0, 1) := by decide +kernel
theorem dX8_load_208 : decode cX8_load 208 = .ok (.iconst 0, 1) := by decide +kernel
theorem dX8_load_209 : decode cX8_load 209 = .ok (.sipush 8736, 3) := by decide +kernel
theorem dX8_load_212 : decode cX8_load 212 = .ok (.iload_n 2, 1) := by decide +kernel
theorem dX8_load_213 : decode cX8_load 213 = .ok (.invokevirtual 108, 3) := by decide +kernel
theorem dX8_load_216 : decode cX8_load 216 = .ok (.aload_n 0, 1) := by decide +kernel
theorem dX8_load_217 : decode cX8_load 217 = .ok (.iload_n 2, 1) := by decide +kernel
theorem dX8_load_218 : decode cX8_load 218 = .ok (.putfield 177, 3) := by decide +kernel
theorem dX8_load_221 : decode cX8_load 221 = .ok (.iload_n 2, 1) := by decide +kernel
theorem dX8_load_222 : decode cX8_load 222 = .ok (.ireturn, 1) := by decide +kernel
theorem dX8_wrap_0 : decode cX8_wrap 0 = .ok (.aload_n 0, 1) := by decide +kernel
theorem dX8_wrap_1 : decode cX8_wrap 1 = .ok (.invokevirtual 189, 3) := by decide +kernel
theorem dX8_wrap_4 : decode cX8_wrap 4 = .ok (.bipush 32, 2) := by decide +kernel
theorem dX8_wrap_6 : decode cX8_wrap 6 = .ok (.if_icmp .ne 10, 3) := by decide +kernel
theorem dX8_wrap_9 : decode cX8_wrap 9 = .ok (.aload_n 0, 1) := by decide +kernel
theorem dX8_wrap_10 : decode cX8_wrap 10 = .ok (.getfield 171, 3) := by decide +kernel
theorem dX8_wrap_13 : decode cX8_wrap 13 = .ok (.ifCond .ne 5, 3) := by decide +kernel
theorem dX8_wrap_16 : decode cX8_wrap 16 = .ok (.iconst (-1), 1) := by decide +kernel
theorem dX8_wrap_17 : decode cX8_wrap 17 = .ok (.ireturn, 1) := by decide +kernel
theorem dX8_wrap_18 : decode cX8_wrap 18 = .ok (.aload_n 0, 1) := by decide +kernel
theorem dX8_wrap_19 : decode cX8_wrap 19 = .ok (.iconst 0, 1) := by decide +kernel
theorem dX8_wrap_20 : decode cX8_wrap 20 = .ok (.sipush 19740, 3) := by decide +kernel
theorem dX8_wrap_23 : decode cX8_wrap 23 = .ok (.bipush 32, 2) := by decide +kernel
theorem dX8_wrap_25 : decode cX8_wrap 25 = .ok (.invokevirtual 108, 3) := by decide +kernel
theorem dX8_wrap_28 : decode cX8_wrap 28 = .ok (.aload_n 0, 1) := by decide +kernel
theorem dX8_wrap_29 : decode cX8_wrap 29 = .ok (.sipush 4000, 3) := by decide +kernel
theorem dX8_wrap_32 : decode cX8_wrap 32 = .ok (.aload_n 0, 1) := by decide +kernel
theorem dX8_wrap_33 : decode cX8_wrap 33 = .ok (.getfield 171, 3) := by decide +kernel
theorem dX8_wrap_36 : decode cX8_wrap 36 = .ok (.sipush 11400, 3) := by decide +kernel
theorem dX8_wrap_39 : decode cX8_wrap 39 = .ok (.invokevirtual 196, 3) := by decide +kernel
theorem dX8_wrap_42 : decode cX8_wrap 42 = .ok (.aload_n 0, 1) := by decide +kernel
theorem dX8_wrap_43 : decode cX8_wrap 43 = .ok (.sipush 19740, 3) := by decide +kernel
theorem dX8_wrap_46 : decode cX8_wrap 46 = .ok (.sipush 11336, 3) := by decide +kernel
theorem dX8_wrap_49 : decode cX8_wrap 49 = .ok (.bipush 32, 2) := by decide +kernel
theorem dX8_wrap_51 : decode cX8_wrap 51 = .ok (.invokevirtual 108, 3) := by decide +kernel
theorem dX8_wrap_54 : decode cX8_wrap 54 = .ok (.aload_n 0, 1) := by decide +kernel
theorem dX8_wrap_55 : decode cX8_wrap 55 = .ok (.sipush 11400, 3) := by decide +kernel
theorem dX8_wrap_58 : decode cX8_wrap 58 = .ok (.sipush 11368, 3) := by decide +kernel
theorem dX8_wrap_61 : decode cX8_wrap 61 = .ok (.bipush 32, 2) := by decide +kernel
theorem dX8_wrap_63 : decode cX8_wrap 63 = .ok (.invokevirtual 108, 3) := by decide +kernel
theorem dX8_wrap_66 : decode cX8_wrap 66 = .ok (.aload_n 0, 1) := by decide +kernel
theorem dX8_wrap_67 : decode cX8_wrap 67 = .ok (.bipush 64, 2) := by decide +kernel
theorem dX8_wrap_69 : decode cX8_wrap 69 = .ok (.invokevirtual 124, 3) := by decide +kernel
theorem dX8_wrap_72 : decode cX8_wrap 72 = .ok (.aload_n 0, 1) := by decide +kernel
theorem dX8_wrap_73 : decode cX8_wrap 73 = .ok (.sipush 4000, 3) := by decide +kernel
theorem dX8_wrap_76 : decode cX8_wrap 76 = .ok (.invokevirtual 202, 3) := by decide +kernel
theorem dX8_wrap_79 : decode cX8_wrap 79 = .ok (.ifCond .ne 6, 3) := by decide +kernel
theorem dX8_wrap_82 : decode cX8_wrap 82 = .ok (.bipush (-2), 2) := by decide +kernel
theorem dX8_wrap_84 : decode cX8_wrap 84 = .ok (.ireturn, 1) := by decide +kernel
theorem dX8_wrap_85 : decode cX8_wrap 85 = .ok (.aload_n 0, 1) := by decide +kernel
theorem dX8_wrap_86 : decode cX8_wrap 86 = .ok (.sipush 18044, 3) := by decide +kernel
theorem dX8_wrap_89 : decode cX8_wrap 89 = .ok (.sipush 8736, 3) := by decide +kernel
theorem dX8_wrap_92 : decode cX8_wrap 92 = .ok (.aload_n 0, 1) := by decide +kernel
theorem dX8_wrap_93 : decode cX8_wrap 93 = .ok (.invokevirtual 199, 3) := by decide +kernel
theorem dX8_wrap_96 : decode cX8_wrap 96 = .ok (.invokevirtual 108, 3) := by decide +kernel
theorem dX8_wrap_99 : decode cX8_wrap 99 = .ok (.aload_n 0, 1) := by decide +kernel
theorem dX8_wrap_100 : decode cX8_wrap 100 = .ok (.aload_n 0, 1) := by decide +kernel
theorem dX8_wrap_101 : decode cX8_wrap 101 = .ok (.invokevirtual 199, 3) := by decide +kernel
theorem dX8_wrap_104 : decode cX8_wrap 104 = .ok (.putfield 177, 3) := by decide +kernel
theorem dX8_wrap_107 : decode cX8_wrap 107 = .ok (.aload_n 0, 1) := by decide +kernel
theorem dX8_wrap_108 : decode cX8_wrap 108 = .ok (.sipush 19612, 3) := by decide +kernel
theorem dX8_wrap_111 : decode cX8_wrap 111 = .ok (.sipush 10304, 3) := by decide +kernel
theorem dX8_wrap_114 : decode cX8_wrap 114 = .ok (.bipush 32, 2) := by decide +kernel
theorem dX8_wrap_116 : decode cX8_wrap 116 = .ok (.invokevirtual 108, 3) := by decide +kernel
theorem dX8_wrap_119 : decode cX8_wrap 119 = .ok (.aload_n 0, 1) := by decide +kernel
theorem dX8_wrap_120 : decode cX8_wrap 120 = .ok (.bipush 32, 2) := by decide +kernel
theorem dX8_wrap_122 : decode cX8_wrap 122 = .ok (.putfield 180, 3) := by decide +kernel
theorem dX8_wrap_125 : decode cX8_wrap 125 = .ok (.aload_n 0, 1) := by decide +kernel
theorem dX8_wrap_126 : decode cX8_wrap 126 = .ok (.getfield 177, 3) := by decide +kernel
theorem dX8_wrap_129 : decode cX8_wrap 129 = .ok (.ireturn, 1) := by decide +kernel
theorem dX8_unwrap_0 : decode cX8_unwrap 0 = .ok (.aload_n 0, 1) := by decide +kernel
theorem dX8_unwrap_1 : decode cX8_unwrap 1 = .ok (.getfield 174, 3) := by decide +kernel
theorem dX8_unwrap_4 : decode cX8_unwrap 4 = .ok (.ifCond .eq 10, 3) := by decide +kernel
theorem dX8_unwrap_7 : decode cX8_unwrap 7 = .ok (.aload_n 0, 1) := by decide +kernel
theorem dX8_unwrap_8 : decode cX8_unwrap 8 = .ok (.getfield 177, 3) := by decide +kernel
theorem dX8_unwrap_11 : decode cX8_unwrap 11 = .ok (.ifCond .ne 5, 3) := by decide +kernel
theorem dX8_unwrap_14 : decode cX8_unwrap 14 = .ok (.iconst (-1), 1) := by decide +kernel
theorem dX8_unwrap_15 : decode cX8_unwrap 15 = .ok (.ireturn, 1) := by decide +kernel
theorem dX8_unwrap_16 : decode cX8_unwrap 16 = .ok (.aload_n 0, 1) := by decide +kernel
theorem dX8_unwrap_17 : decode cX8_unwrap 17 = .ok (.sipush 5568, 3) := by decide +kernel
theorem dX8_unwrap_20 : decode cX8_unwrap 20 = .ok (.invokevirtual 206, 3) := by decide +kernel
theorem dX8_unwrap_23 : decode cX8_unwrap 23 = .ok (.aload_n 0, 1) := by decide +kernel
theorem dX8_unwrap_24 : decode cX8_unwrap 24 = .ok (.sipush 19740, 3) := by decide +kernel
theorem dX8_unwrap_27 : decode cX8_unwrap 27 = .ok (.sipush 11336, 3) := by decide +kernel
theorem dX8_unwrap_30 : decode cX8_unwrap 30 = .ok (.bipush 32, 2) := by decide +kernel
theorem dX8_unwrap_32 : decode cX8_unwrap 32 = .ok (.invokevirtual 108, 3) := by decide +kernel
theorem dX8_unwrap_35 : decode cX8_unwrap 35 = .ok (.aload_n 0, 1) := by decide +kernel
theorem dX8_unwrap_36 : decode cX8_unwrap 36 = .ok (.sipush 5568, 3) := by decide +kernel
theorem dX8_unwrap_39 : decode cX8_unwrap 39 = .ok (.sipush 768, 3) := by decide +kernel
theorem dX8_unwrap_42 : decode cX8_unwrap 42 = .ok (.aload_n 0, 1) := by decide +kernel
theorem dX8_unwrap_43 : decode cX8_unwrap 43 = .ok (.getfield 13, 3) := by decide +kernel
theorem dX8_unwrap_46 : decode cX8_unwrap 46 = .ok (.imul, 1) := by decide +kernel
theorem dX8_unwrap_47 : decode cX8_unwrap 47 = .ok (.iadd, 1) := by decide +kernel
theorem dX8_unwrap_48 : decode cX8_unwrap 48 = .ok (.bipush 32, 2) := by decide +kernel
theorem dX8_unwrap_50 : decode cX8_unwrap 50 = .ok (.iadd, 1) := by decide +kernel
theorem dX8_unwrap_51 : decode cX8_unwrap 51 = .ok (.sipush 11368, 3) := by decide +kernel
theorem dX8_unwrap_54 : decode cX8_unwrap 54 = .ok (.bipush 32, 2) := by decide +kernel
theorem dX8_unwrap_56 : decode cX8_unwrap 56 = .ok (.invokevirtual 108, 3) := by decide +kernel
theorem dX8_unwrap_59 : decode cX8_unwrap 59 = .ok (.aload_n 0, 1) := by decide +kernel
theorem dX8_unwrap_60 : decode cX8_unwrap 60 = .ok (.bipush 64, 2) := by decide +kernel
theorem dX8_unwrap_62 : decode cX8_unwrap 62 = .ok (.invokevirtual 124, 3) := by decide +kernel
theorem dX8_unwrap_65 : decode cX8_unwrap 65 = .ok (.aload_n 0, 1) := by decide +kernel
theorem dX8_unwrap_66 : decode cX8_unwrap 66 = .ok (.sipush 5568, 3) := by decide +kernel
theorem dX8_unwrap_69 : decode cX8_unwrap 69 = .ok (.sipush 384, 3) := by decide +kernel
theorem dX8_unwrap_72 : decode cX8_unwrap 72 = .ok (.aload_n 0, 1) := by decide +kernel
theorem dX8_unwrap_73 : decode cX8_unwrap 73 = .ok (.getfield 13, 3) := by decide +kernel
theorem dX8_unwrap_76 : decode cX8_unwrap 76 = .ok (.imul, 1) := by decide +kernel
theorem dX8_unwrap_77 : decode cX8_unwrap 77 = .ok (.iadd, 1) := by decide +kernel
theorem dX8_unwrap_78 : decode cX8_unwrap 78 = .ok (.invokevirtual 202, 3) := by decide +kernel
theorem dX8_unwrap_81 : decode cX8_unwrap 81 = .ok (.ifCond .ne 6, 3) := by decide +kernel
theorem dX8_unwrap_84 : decode cX8_unwrap 84 = .ok (.bipush (-2), 2) := by decide +kernel
theorem dX8_unwrap_86 : decode cX8_unwrap 86 = .ok (.ireturn, 1) := by decide +kernel
theorem dX8_unwrap_87 : decode cX8_unwrap 87 = .ok (.iconst 1, 1) := by decide +kernel
theorem dX8_unwrap_88 : decode cX8_unwrap 88 = .ok (.istore_n 1, 1) := by decide +kernel
theorem dX8_unwrap_89 : decode cX8_unwrap 89 = .ok (.iconst 0, 1) := by decide +kernel
theorem dX8_unwrap_90 : decode cX8_unwrap 90 = .ok (.istore_n 2, 1) := by decide +kernel
theorem dX8_unwrap_91 : decode cX8_unwrap 91 = .ok (.iload_n 2, 1) := by decide +kernel
theorem dX8_unwrap_92 : decode cX8_unwrap 92 = .ok (.aload_n 0, 1) := by decide +kernel
theorem dX8_unwrap_93 : decode cX8_unwrap 93 = .ok (.getfield 177, 3) := by decide +kernel
theorem dX8_unwrap_96 : decode cX8_unwrap 96 = .ok (.if_icmp .ge 42, 3) := by decide +kernel
theorem dX8_unwrap_99 : decode cX8_unwrap 99 = .ok (.iload_n 1, 1) := by decide +kernel
theorem dX8_unwrap_100 : decode cX8_unwrap 100 = .ok (.ifCond .eq 30, 3) := by decide +kernel
theorem dX8_unwrap_103 : decode cX8_unwrap 103 = .ok (.aload_n 0, 1) := by decide +kernel
theorem dX8_unwrap_104 : decode cX8_unwrap 104 = .ok (.getfield 7, 3) := by decide +kernel
theorem dX8_unwrap_107 : decode cX8_unwrap 107 = .ok (.sipush 8736, 3) := by decide +kernel
theorem dX8_unwrap_110 : decode cX8_unwrap 110 = .ok (.iload_n 2, 1) := by decide +kernel
theorem dX8_unwrap_111 : decode cX8_unwrap 111 = .ok (.iadd, 1) := by decide +kernel
theorem dX8_unwrap_112 : decode cX8_unwrap 112 = .ok (.baload, 1) := by decide +kernel
theorem dX8_unwrap_113 : decode cX8_unwrap 113 = .ok (.aload_n 0, 1) := by decide +kernel
theorem dX8_unwrap_114 : decode cX8_unwrap 114 = .ok (.getfield 7, 3) := by decide +kernel
theorem dX8_unwrap_117 : decode cX8_unwrap 117 = .ok (.sipush 18044, 3) := by decide +kernel
theorem dX8_unwrap_120 : decode cX8_unwrap 120 = .ok (.iload_n 2, 1) := by decide +kernel
theorem dX8_unwrap_121 : decode cX8_unwrap 121 = .ok (.iadd, 1) := by decide +kernel
theorem dX8_unwrap_122 : decode cX8_unwrap 122 = .ok (.baload, 1) := by decide +kernel
theorem dX8_unwrap_123 : decode cX8_unwrap 123 = .ok (.if_icmp .ne 7, 3) := by decide +kernel
theorem dX8_unwrap_126 : decode cX8_unwrap 126 = .ok (.iconst 1, 1) := by decide +kernel
theorem dX8_unwrap_127 : decode cX8_unwrap 127 = .ok (.goto 4, 3) := by decide +kernel
theorem dX8_unwrap_130 : decode cX8_unwrap 130 = .ok (.iconst 0, 1) := by decide +kernel
theorem dX8_unwrap_131 : decode cX8_unwrap 131 = .ok (.istore_n 1, 1) := by decide +kernel
theorem dX8_unwrap_132 : decode cX8_unwrap 132 = .ok (.iinc 2 1, 3) := by decide +kernel
theorem dX8_unwrap_135 : decode cX8_unwrap 135 = .ok (.goto (-44), 3) := by decide +kernel
theorem dX8_unwrap_138 : decode cX8_unwrap 138 = .ok (.iload_n 1, 1) := by decide +kernel
theorem dX8_unwrap_139 : decode cX8_unwrap 139 = .ok (.ifCond .eq 18, 3) := by decide +kernel
theorem dX8_unwrap_142 : decode cX8_unwrap 142 = .ok (.aload_n 0, 1) := by decide +kernel
theorem dX8_unwrap_143 : decode cX8_unwrap 143 = .ok (.sipush 19612, 3) := by decide +kernel
theorem dX8_unwrap_146 : decode cX8_unwrap 146 = .ok (.sipush 10304, 3) := by decide +kernel
theorem dX8_unwrap_149 : decode cX8_unwrap 149 = .ok (.bipush 32, 2) := by decide +kernel
theorem dX8_unwrap_151 : decode cX8_unwrap 151 = .ok (.invokevirtual 108, 3) := by decide +kernel
theorem dX8_unwrap_154 : decode cX8_unwrap 154 = .ok (.goto 68, 3) := by decide +kernel
theorem dX8_unwrap_157 : decode cX8_unwrap 157 = .ok (.aload_n 0, 1) := by decide +kernel
theorem dX8_unwrap_158 : decode cX8_unwrap 158 = .ok (.sipush 5568, 3) := by decide +kernel
theorem dX8_unwrap_161 : decode cX8_unwrap 161 = .ok (.sipush 768, 3) := by decide +kernel
theorem dX8_unwrap_164 : decode cX8_unwrap 164 = .ok (.aload_n 0, 1) := by decide +kernel
theorem dX8_unwrap_165 : decode cX8_unwrap 165 = .ok (.getfield 13, 3) := by decide +kernel
theorem dX8_unwrap_168 : decode cX8_unwrap 168 = .ok (.imul, 1) := by decide +kernel
theorem dX8_unwrap_169 : decode cX8_unwrap 169 = .ok (.iadd, 1) := by decide +kernel
theorem dX8_unwrap_170 : decode cX8_unwrap 170 = .ok (.bipush 64, 2) := by decide +kernel
theorem dX8_unwrap_172 : decode cX8_unwrap 172 = .ok (.iadd, 1) := by decide +kernel
theorem dX8_unwrap_173 : decode cX8_unwrap 173 = .ok (.sipush 11336, 3) := by decide +kernel
theorem dX8_unwrap_176 : decode cX8_unwrap 176 = .ok (.bipush 32, 2) := by decide +kernel
theorem dX8_unwrap_178 : decode cX8_unwrap 178 = .ok (.invokevirtual 108, 3) := by decide +kernel
theorem dX8_unwrap_181 : decode cX8_unwrap 181 = .ok (.aload_n 0, 1) := by decide +kernel
theorem dX8_unwrap_182 : decode cX8_unwrap 182 = .ok (.sipush 8736, 3) := by decide +kernel
theorem dX8_unwrap_185 : decode cX8_unwrap 185 = .ok (.sipush 11368, 3) := by decide +kernel
theorem dX8_unwrap_188 : decode cX8_unwrap 188 = .ok (.aload_n 0, 1) := by decide +kernel
theorem dX8_unwrap_189 : decode cX8_unwrap 189 = .ok (.getfield 177, 3) := by decide +kernel
theorem dX8_unwrap_192 : decode cX8_unwrap 192 = .ok (.invokevirtual 108, 3) := by decide +kernel
theorem dX8_unwrap_195 : decode cX8_unwrap 195 = .ok (.aload_n 0, 1) := by decide +kernel
theorem dX8_unwrap_196 : decode cX8_unwrap 196 = .ok (.sipush 136, 3) := by decide +kernel
theorem dX8_unwrap_199 : decode cX8_unwrap 199 = .ok (.sipush 11336, 3) := by decide +kernel
theorem dX8_unwrap_202 : decode cX8_unwrap 202 = .ok (.bipush 32, 2) := by decide +kernel
theorem dX8_unwrap_204 : decode cX8_unwrap 204 = .ok (.aload_n 0, 1) := by decide +kernel
theorem dX8_unwrap_205 : decode cX8_unwrap 205 = .ok (.getfield 177, 3) := by decide +kernel
theorem dX8_unwrap_208 : decode cX8_unwrap 208 = .ok (.iadd, 1) := by decide +kernel
theorem dX8_unwrap_209 : decode cX8_unwrap 209 = .ok (.iconst 0, 1) := by decide +kernel
theorem dX8_unwrap_210 : decode cX8_unwrap 210 = .ok (.invokevirtual 104, 3) := by decide +kernel
theorem dX8_unwrap_213 : decode cX8_unwrap 213 = .ok (.aload_n 0, 1) := by decide +kernel
theorem dX8_unwrap_214 : decode cX8_unwrap 214 = .ok (.sipush 10304, 3) := by decide +kernel
theorem dX8_unwrap_217 : decode cX8_unwrap 217 = .ok (.bipush 32, 2) := by decide +kernel
theorem dX8_unwrap_219 : decode cX8_unwrap 219 = .ok (.invokevirtual 115, 3) := by decide +kernel
theorem dX8_unwrap_222 : decode cX8_unwrap 222 = .ok (.aload_n 0, 1) := by decide +kernel
theorem dX8_unwrap_223 : decode cX8_unwrap 223 = .ok (.bipush 32, 2) := by decide +kernel
theorem dX8_unwrap_225 : decode cX8_unwrap 225 = .ok (.putfield 180, 3) := by decide +kernel
theorem dX8_unwrap_228 : decode cX8_unwrap 228 = .ok (.iload_n 1, 1) := by decide +kernel
theorem dX8_unwrap_229 : decode cX8_unwrap 229 = .ok (.ifCond .eq 7, 3) := by decide +kernel
theorem dX8_unwrap_232 : decode cX8_unwrap 232 = .ok (.iconst 1, 1) := by decide +kernel
theorem dX8_unwrap_233 : decode cX8_unwrap 233 = .ok (.goto 4, 3) := by decide +kernel
theorem dX8_unwrap_236 : decode cX8_unwrap 236 = .ok (.iconst 0, 1) := by decide +kernel
theorem dX8_unwrap_237 : decode cX8_unwrap 237 = .ok (.ireturn, 1) := by decide +kernel
theorem dX8_hash_0 : decode cX8_hash 0 = .ok (.iload_n 1, 1) := by decide +kernel
theorem dX8_hash_1 : decode cX8_hash 1 = .ok (.ifCond .lt 24, 3) := by decide +kernel
theorem dX8_hash_4 : decode cX8_hash 4 = .ok (.iload_n 1, 1) := by decide +kernel
theorem dX8_hash_5 : decode cX8_hash 5 = .ok (.iconst 3, 1) := by decide +kernel
theorem dX8_hash_6 : decode cX8_hash 6 = .ok (.if_icmp .gt 19, 3) := by decide +kernel
theorem dX8_hash_9 : decode cX8_hash 9 = .ok (.iload_n 1, 1) := by decide +kernel
theorem dX8_hash_10 : decode cX8_hash 10 = .ok (.iconst 1, 1) := by decide +kernel
theorem dX8_hash_11 : decode cX8_hash 11 = .ok (.if_icmp .le 16, 3) := by decide +kernel
theorem dX8_hash_14 : decode cX8_hash 14 = .ok (.iload_n 2, 1) := by decide +kernel
theorem dX8_hash_15 : decode cX8_hash 15 = .ok (.ifCond .lt 10, 3) := by decide +kernel
theorem dX8_hash_18 : decode cX8_hash 18 = .ok (.iload_n 2, 1) := by decide +kernel
theorem dX8_hash_19 : decode cX8_hash 19 = .ok (.sipush 1000, 3) := by decide +kernel
theorem dX8_hash_22 : decode cX8_hash 22 = .ok (.if_icmp .le 5, 3) := by decide +kernel
theorem dX8_hash_25 : decode cX8_hash 25 = .ok (.iconst (-1), 1) := by decide +kernel
theorem dX8_hash_26 : decode cX8_hash 26 = .ok (.ireturn, 1) := by decide +kernel
theorem dX8_hash_27 : decode cX8_hash 27 = .ok (.aload_n 0, 1) := by decide +kernel
theorem dX8_hash_28 : decode cX8_hash 28 = .ok (.invokevirtual 189, 3) := by decide +kernel
theorem dX8_hash_31 : decode cX8_hash 31 = .ok (.istore_n 3, 1) := by decide +kernel
theorem dX8_hash_32 : decode cX8_hash 32 = .ok (.iload_n 1, 1) := by decide +kernel
theorem dX8_hash_33 : decode cX8_hash 33 = .ok (.ifCond .ne 8, 3) := by decide +kernel
theorem dX8_hash_36 : decode cX8_hash 36 = .ok (.bipush 32, 2) := by decide +kernel
theorem dX8_hash_38 : decode cX8_hash 38 = .ok (.goto 14, 3) := by decide +kernel
theorem dX8_hash_41 : decode cX8_hash 41 = .ok (.iload_n 1, 1) := by decide +kernel
theorem dX8_hash_42 : decode cX8_hash 42 = .ok (.iconst 1, 1) := by decide +kernel
theorem dX8_hash_43 : decode cX8_hash 43 = .ok (.if_icmp .ne 8, 3) := by decide +kernel
theorem dX8_hash_46 : decode cX8_hash 46 = .ok (.bipush 64, 2) := by decide +kernel
theorem dX8_hash_48 : decode cX8_hash 48 = .ok (.goto 4, 3) := by decide +kernel
theorem dX8_hash_51 : decode cX8_hash 51 = .ok (.iload_n 2, 1) := by decide +kernel
theorem dX8_hash_52 : decode cX8_hash 52 = .ok (.istore 4, 2) := by decide +kernel
theorem dX8_hash_54 : decode cX8_hash 54 = .ok (.aload_n 0, 1) := by decide +kernel
theorem dX8_hash_55 : decode cX8_hash 55 = .ok (.iload_n 1, 1) := by decide +kernel
theorem dX8_hash_56 : decode cX8_hash 56 = .ok (.iconst 1, 1) := by decide +kernel
theorem dX8_hash_57 : decode cX8_hash 57 = .ok (.if_icmp .ne 8, 3) := by decide +kernel
theorem dX8_hash_60 : decode cX8_hash 60 = .ok (.bipush 72, 2) := by decide +kernel
theorem dX8_hash_62 : decode cX8_hash 62 = .ok (.goto 17, 3) := by decide +kernel
theorem dX8_hash_65 : decode cX8_hash 65 = .ok (.iload_n 1, 1) := by decide +kernel
theorem dX8_hash_66 : decode cX8_hash 66 = .ok (.iconst 2, 1) := by decide +kernel
theorem dX8_hash_67 : decode cX8_hash 67 = .ok (.if_icmp .ne 9, 3) := by decide +kernel
theorem dX8_hash_70 : decode cX8_hash 70 = .ok (.sipush 168, 3) := by decide +kernel
theorem dX8_hash_73 : decode cX8_hash 73 = .ok (.goto 6, 3) := by decide +kernel
theorem dX8_hash_76 : decode cX8_hash 76 = .ok (.sipush 136, 3) := by decide +kernel
theorem dX8_hash_79 : decode cX8_hash 79 = .ok (.iconst 0, 1) := by decide +kernel
theorem dX8_hash_80 : decode cX8_hash 80 = .ok (.iload_n 3, 1) := by decide +kernel
theorem dX8_hash_81 : decode cX8_hash 81 = .ok (.iload_n 1, 1) := by decide +kernel
theorem dX8_hash_82 : decode cX8_hash 82 = .ok (.iconst 2, 1) := by decide +kernel
theorem dX8_hash_83 : decode cX8_hash 83 = .ok (.if_icmp .ge 7, 3) := by decide +kernel
theorem dX8_hash_86 : decode cX8_hash 86 = .ok (.iconst 1, 1) := by decide +kernel
theorem dX8_hash_87 : decode cX8_hash 87 = .ok (.goto 4, 3) := by decide +kernel
theorem dX8_hash_90 : decode cX8_hash 90 = .ok (.iconst 0, 1) := by decide +kernel
theorem dX8_hash_91 : decode cX8_hash 91 = .ok (.invokevirtual 104, 3) := by decide +kernel
theorem dX8_hash_94 : decode cX8_hash 94 = .ok (.aload_n 0, 1) := by decide +kernel
theorem dX8_hash_95 : decode cX8_hash 95 = .ok (.sipush 10336, 3) := by decide +kernel
theorem dX8_hash_98 : decode cX8_hash 98 = .ok (.iload 4, 2) := by decide +kernel
theorem dX8_hash_100 : decode cX8_hash 100 = .ok (.invokevirtual 115, 3) := by decide +kernel
theorem dX8_hash_103 : decode cX8_hash 103 = .ok (.aload_n 0, 1) := by decide +kernel
theorem dX8_hash_104 : decode cX8_hash 104 = .ok (.iload 4, 2) := by decide +kernel
theorem dX8_hash_106 : decode cX8_hash 106 = .ok (.putfield 186, 3) := by decide +kernel
theorem dX8_hash_109 : decode cX8_hash 109 = .ok (.iload 4, 2) := by decide +kernel
theorem dX8_hash_111 : decode cX8_hash 111 = .ok (.ireturn, 1) := by decide +kernel
theorem dX8_isPol_0 : decode cX8_isPol 0 = .ok (.iload_n 0, 1) := by decide +kernel
theorem dX8_isPol_1 : decode cX8_isPol 1 = .ok (.ifCond .lt 12, 3) := by decide +kernel
theorem dX8_isPol_4 : decode cX8_isPol 4 = .ok (.iload_n 0, 1) := by decide +kernel
theorem dX8_isPol_5 : decode cX8_isPol 5 = .ok (.iconst 3, 1) := by decide +kernel
theorem dX8_isPol_6 : decode cX8_isPol 6 = .ok (.if_icmp .gt 7, 3) := by decide +kernel
theorem dX8_isPol_9 : decode cX8_isPol 9 = .ok (.iconst 1, 1) := by decide +kernel
theorem dX8_isPol_10 : decode cX8_isPol 10 = .ok (.goto 4, 3) := by decide +kernel
theorem dX8_isPol_13 : decode cX8_isPol 13 = .ok (.iconst 0, 1) := by decide +kernel
theorem dX8_isPol_14 : decode cX8_isPol 14 = .ok (.ireturn, 1) := by decide +kernel
theorem dX8_put_0 : decode cX8_put 0 = .ok (.iload_n 1, 1) := by decide +kernel
theorem dX8_put_1 : decode cX8_put 1 = .ok (.invokestatic 209, 3) := by decide +kernel
theorem dX8_put_4 : decode cX8_put 4 = .ok (.ifCond .eq 14, 3) := by decide +kernel
theorem dX8_put_7 : decode cX8_put 7 = .ok (.iload_n 2, 1) := by decide +kernel
theorem dX8_put_8 : decode cX8_put 8 = .ok (.ifCond .lt 10, 3) := by decide +kernel
theorem dX8_put_11 : decode cX8_put 11 = .ok (.iload_n 2, 1) := by decide +kernel
theorem dX8_put_12 : decode cX8_put 12 = .ok (.sipush 255, 3) := by decide +kernel
theorem dX8_put_15 : decode cX8_put 15 = .ok (.if_icmp .le 5, 3) := by decide +kernel
theorem dX8_put_18 : decode cX8_put 18 = .ok (.iconst (-1), 1) := by decide +kernel
theorem dX8_put_19 : decode cX8_put 19 = .ok (.ireturn, 1) := by decide +kernel
theorem dX8_put_20 : decode cX8_put 20 = .ok (.aload_n 0, 1) := by decide +kernel
theorem dX8_put_21 : decode cX8_put 21 = .ok (.getfield 36, 3) := by decide +kernel
theorem dX8_put_24 : decode cX8_put 24 = .ok (.sipush 256, 3) := by decide +kernel
theorem dX8_put_27 : decode cX8_put 27 = .ok (.iload_n 1, 1) := by decide +kernel
theorem dX8_put_28 : decode cX8_put 28 = .ok (.imul, 1) := by decide +kernel
theorem dX8_put_29 : decode cX8_put 29 = .ok (.iload_n 2, 1) := by decide +kernel
theorem dX8_put_30 : decode cX8_put 30 = .ok (.iadd, 1) := by decide +kernel
theorem dX8_put_31 : decode cX8_put 31 = .ok (.iload_n 3, 1) := by decide +kernel
theorem dX8_put_32 : decode cX8_put 32 = .ok (.i2l, 1) := by decide +kernel
theorem dX8_put_33 : decode cX8_put 33 = .ok (.invokestatic 91, 3) := by decide +kernel
theorem dX8_put_36 : decode cX8_put 36 = .ok (.iastore, 1) := by decide +kernel
theorem dX8_put_37 : decode cX8_put 37 = .ok (.aload_n 0, 1) := by decide +kernel
theorem dX8_put_38 : decode cX8_put 38 = .ok (.getfield 36, 3) := by decide +kernel
theorem dX8_put_41 : decode cX8_put 41 = .ok (.sipush 256, 3) := by decide +kernel
theorem dX8_put_44 : decode cX8_put 44 = .ok (.iload_n 1, 1) := by decide +kernel
theorem dX8_put_45 : decode cX8_put 45 = .ok (.imul, 1) := by decide +kernel
theorem dX8_put_46 : decode cX8_put 46 = .ok (.iload_n 2, 1) := by decide +kernel
theorem dX8_put_47 : decode cX8_put 47 = .ok (.iadd, 1) := by decide +kernel
theorem dX8_put_48 : decode cX8_put 48 = .ok (.iaload, 1) := by decide +kernel
theorem dX8_put_49 : decode cX8_put 49 = .ok (.ireturn, 1) := by decide +kernel
theorem dX8_number_0 : decode cX8_number 0 = .ok (.iload_n 1, 1) := by decide +kernel
theorem dX8_number_1 : decode cX8_number 1 = .ok (.invokestatic 209, 3) := by decide +kernel
theorem dX8_number_4 : decode cX8_number 4 = .ok (.ifCond .eq 14, 3) := by decide +kernel
theorem dX8_number_7 : decode cX8_number 7 = .ok (.iload_n 2, 1) := by decide +kernel
theorem dX8_number_8 : decode cX8_number 8 = .ok (.ifCond .lt 10, 3) := by decide +kernel
theorem dX8_number_11 : decode cX8_number 11 = .ok (.iload_n 2, 1) := by decide +kernel
theorem dX8_number_12 : decode cX8_number 12 = .ok (.sipush 255, 3) := by decide +kernel
theorem dX8_number_15 : decode cX8_number 15 = .ok (.if_icmp .le 7, 3) := by decide +kernel
theorem dX8_number_18 : decode cX8_number 18 = .ok (.iconst (-1), 1) := by decide +kernel
theorem dX8_number_19 : decode cX8_number 19 = .ok (.goto 15, 3) := by decide +kernel
theorem dX8_number_22 : decode cX8_number 22 = .ok (.aload_n 0, 1) := by decide +kernel
theorem dX8_number_23 : decode cX8_number 23 = .ok (.getfield 36, 3) := by decide +kernel
theorem dX8_number_26 : decode cX8_number 26 = .ok (.sipush 256, 3) := by decide +kernel
theorem dX8_number_29 : decode cX8_number 29 = .ok (.iload_n 1, 1) := by decide +kernel
theorem dX8_number_30 : decode cX8_number 30 = .ok (.imul, 1) := by decide +kernel
theorem dX8_number_31 : decode cX8_number 31 = .ok (.iload_n 2, 1) := by decide +kernel
theorem dX8_number_32 : decode cX8_number 32 = .ok (.iadd, 1) := by decide +kernel
theorem dX8_number_33 : decode cX8_number 33 = .ok (.iaload, 1) := by decide +kernel
theorem dX8_number_34 : decode cX8_number 34 = .ok (.ireturn, 1) := by decide +kernel
theorem dX8_forward_0 : decode cX8_forward 0 = .ok (.iload_n 1, 1) := by decide +kernel
theorem dX8_forward_1 : decode cX8_forward 1 = .ok (.invokestatic 209, 3) := by decide +kernel
theorem dX8_forward_4 : decode cX8_forward 4 = .ok (.ifCond .ne 5, 3) := by decide +kernel
theorem dX8_forward_7 : decode cX8_forward 7 = .ok (.iconst 0, 1) := by decide +kernel
theorem dX8_forward_8 : decode cX8_forward 8 = .ok (.ireturn, 1) := by decide +kernel
theorem dX8_forward_9 : decode cX8_forward 9 = .ok (.aload_n 0, 1) := by decide +kernel
theorem dX8_forward_10 : decode cX8_forward 10 = .ok (.iload_n 1, 1) := by decide +kernel
theorem dX8_forward_11 : decode cX8_forward 11 = .ok (.invokevirtual 134, 3) := by decide +kernel
theorem dX8_forward_14 : decode cX8_forward 14 = .ok (.iconst 1, 1) := by decide +kernel
theorem dX8_forward_15 : decode cX8_forward 15 = .ok (.ireturn, 1) := by decide +kernel
theorem dX8_back_0 : decode cX8_back 0 = .ok (.iload_n 1, 1) := by decide +kernel
theorem dX8_back_1 : decode cX8_back 1 = .ok (.invokestatic 209, 3) := by decide +kernel
theorem dX8_back_4 : decode cX8_back 4 = .ok (.ifCond .ne 5, 3) := by decide +kernel
theorem dX8_back_7 : decode cX8_back 7 = .ok (.iconst 0, 1) := by decide +kernel
theorem dX8_back_8 : decode cX8_back 8 = .ok (.ireturn, 1) := by decide +kernel
theorem dX8_back_9 : decode cX8_back 9 = .ok (.aload_n 0, 1) := by decide +kernel
theorem dX8_back_10 : decode cX8_back 10 = .ok (.iload_n 1, 1) := by decide +kernel
theorem dX8_back_11 : decode cX8_back 11 = .ok (.invokevirtual 150, 3) := by decide +kernel
theorem dX8_back_14 : decode cX8_back 14 = .ok (.iconst 1, 1) := by decide +kernel
theorem dX8_back_15 : decode cX8_back 15 = .ok (.ireturn, 1) := by decide +kernel
theorem dX8_pairs_0 : decode cX8_pairs 0 = .ok (.iload_n 1, 1) := by decide +kernel
theorem dX8_pairs_1 : decode cX8_pairs 1 = .ok (.invokestatic 209, 3) := by decide +kernel
theorem dX8_pairs_4 : decode cX8_pairs 4 = .ok (.ifCond .eq 17, 3) := by decide +kernel
theorem dX8_pairs_7 : decode cX8_pairs 7 = .ok (.iload_n 2, 1) := by decide +kernel
theorem dX8_pairs_8 : decode cX8_pairs 8 = .ok (.invokestatic 209, 3) := by decide +kernel
theorem dX8_pairs_11 : decode cX8_pairs 11 = .ok (.ifCond .eq 10, 3) := by decide +kernel
theorem dX8_pairs_14 : decode cX8_pairs 14 = .ok (.iload_n 3, 1) := by decide +kernel
theorem dX8_pairs_15 : decode cX8_pairs 15 = .ok (.invokestatic 209, 3) := by decide +kernel
theorem dX8_pairs_18 : decode cX8_pairs 18 = .ok (.ifCond .ne 5, 3) := by decide +kernel
theorem dX8_pairs_21 : decode cX8_pairs 21 = .ok (.iconst 0, 1) := by decide +kernel
theorem dX8_pairs_22 : decode cX8_pairs 22 = .ok (.ireturn, 1) := by decide +kernel
theorem dX8_pairs_23 : decode cX8_pairs 23 = .ok (.aload_n 0, 1) := by decide +kernel
theorem dX8_pairs_24 : decode cX8_pairs 24 = .ok (.iload_n 1, 1) := by decide +kernel
theorem dX8_pairs_25 : decode cX8_pairs 25 = .ok (.iload_n 2, 1) := by decide +kernel
theorem dX8_pairs_26 : decode cX8_pairs 26 = .ok (.bipush 17, 2) := by decide +kernel
theorem dX8_pairs_28 : decode cX8_pairs 28 = .ok (.iconst 0, 1) := by decide +kernel
theorem dX8_pairs_29 : decode cX8_pairs 29 = .ok (.invokevirtual 141, 3) := by decide +kernel
theorem dX8_pairs_32 : decode cX8_pairs 32 = .ok (.aload_n 0, 1) := by decide +kernel
theorem dX8_pairs_33 : decode cX8_pairs 33 = .ok (.bipush 17, 2) := by decide +kernel
theorem dX8_pairs_35 : decode cX8_pairs 35 = .ok (.iload_n 3, 1) := by decide +kernel
theorem dX8_pairs_36 : decode cX8_pairs 36 = .ok (.invokevirtual 87, 3) := by decide +kernel
theorem dX8_pairs_39 : decode cX8_pairs 39 = .ok (.iconst 1, 1) := by decide +kernel
theorem dX8_pairs_40 : decode cX8_pairs 40 = .ok (.ireturn, 1) := by decide +kernel
theorem dX8_add_0 : decode cX8_add 0 = .ok (.iload_n 1, 1) := by decide +kernel
theorem dX8_add_1 : decode cX8_add 1 = .ok (.invokestatic 209, 3) := by decide +kernel
theorem dX8_add_4 : decode cX8_add 4 = .ok (.ifCond .eq 20, 3) := by decide +kernel
theorem dX8_add_7 : decode cX8_add 7 = .ok (.iload_n 2, 1) := by decide +kernel
theorem dX8_add_8 : decode cX8_add 8 = .ok (.invokestatic 209, 3) := by decide +kernel
theorem dX8_add_11 : decode cX8_add 11 = .ok (.ifCond .eq 13, 3) := by decide +kernel
theorem dX8_add_14 : decode cX8_add 14 = .ok (.iload_n 3, 1) := by decide +kernel
theorem dX8_add_15 : decode cX8_add 15 = .ok (.iconst 1, 1) := by decide +kernel
theorem dX8_add_16 : decode cX8_add 16 = .ok (.if_icmp .eq 10, 3) := by decide +kernel
theorem dX8_add_19 : decode cX8_add 19 = .ok (.iload_n 3, 1) := by decide +kernel
theorem dX8_add_20 : decode cX8_add 20 = .ok (.iconst (-1), 1) := by decide +kernel
theorem dX8_add_21 : decode cX8_add 21 = .ok (.if_icmp .eq 5, 3) := by decide +kernel
theorem dX8_add_24 : decode cX8_add 24 = .ok (.iconst 0, 1) := by decide +kernel
theorem dX8_add_25 : decode cX8_add 25 = .ok (.ireturn, 1) := by decide +kernel
theorem dX8_add_26 : decode cX8_add 26 = .ok (.aload_n 0, 1) := by decide +kernel
theorem dX8_add_27 : decode cX8_add 27 = .ok (.iload_n 2, 1) := by decide +kernel
theorem dX8_add_28 : decode cX8_add 28 = .ok (.bipush 17, 2) := by decide +kernel
theorem dX8_add_30 : decode cX8_add 30 = .ok (.invokevirtual 87, 3) := by decide +kernel
theorem dX8_add_33 : decode cX8_add 33 = .ok (.aload_n 0, 1) := by decide +kernel
theorem dX8_add_34 : decode cX8_add 34 = .ok (.iload_n 1, 1) := by decide +kernel
theorem dX8_add_35 : decode cX8_add 35 = .ok (.bipush 17, 2) := by decide +kernel
theorem dX8_add_37 : decode cX8_add 37 = .ok (.iload_n 3, 1) := by decide +kernel
theorem dX8_add_38 : decode cX8_add 38 = .ok (.invokevirtual 153, 3) := by decide +kernel
theorem dX8_add_41 : decode cX8_add 41 = .ok (.iconst 1, 1) := by decide +kernel
theorem dX8_add_42 : decode cX8_add 42 = .ok (.ireturn, 1) := by decide +kernel
theorem dX8_press_0 : decode cX8_press 0 = .ok (.iload_n 1, 1) := by decide +kernel
theorem dX8_press_1 : decode cX8_press 1 = .ok (.invokestatic 209, 3) := by decide +kernel
theorem dX8_press_4 : decode cX8_press 4 = .ok (.ifCond .eq 14, 3) := by decide +kernel
theorem dX8_press_7 : decode cX8_press 7 = .ok (.iload_n 2, 1) := by decide +kernel
theorem dX8_press_8 : decode cX8_press 8 = .ok (.iconst 1, 1) := by decide +kernel
theorem dX8_press_9 : decode cX8_press 9 = .ok (.if_icmp .lt 9, 3) := by decide +kernel
theorem dX8_press_12 : decode cX8_press 12 = .ok (.iload_n 2, 1) := by decide +kernel
theorem dX8_press_13 : decode cX8_press 13 = .ok (.bipush 11, 2) := by decide +kernel
theorem dX8_press_15 : decode cX8_press 15 = .ok (.if_icmp .le 5, 3) := by decide +kernel
theorem dX8_press_18 : decode cX8_press 18 = .ok (.iconst 0, 1) := by decide +kernel
theorem dX8_press_19 : decode cX8_press 19 = .ok (.ireturn, 1) := by decide +kernel
theorem dX8_press_20 : decode cX8_press 20 = .ok (.aload_n 0, 1) := by decide +kernel
theorem dX8_press_21 : decode cX8_press 21 = .ok (.iload_n 1, 1) := by decide +kernel
theorem dX8_press_22 : decode cX8_press 22 = .ok (.iload_n 2, 1) := by decide +kernel
theorem dX8_press_23 : decode cX8_press 23 = .ok (.invokevirtual 156, 3) := by decide +kernel
theorem dX8_press_26 : decode cX8_press 26 = .ok (.iconst 1, 1) := by decide +kernel
theorem dX8_press_27 : decode cX8_press 27 = .ok (.ireturn, 1) := by decide +kernel
theorem dX8_stretch_0 : decode cX8_stretch 0 = .ok (.iload_n 1, 1) := by decide +kernel
theorem dX8_stretch_1 : decode cX8_stretch 1 = .ok (.invokestatic 209, 3) := by decide +kernel
theorem dX8_stretch_4 : decode cX8_stretch 4 = .ok (.ifCond .eq 14, 3) := by decide +kernel
theorem dX8_stretch_7 : decode cX8_stretch 7 = .ok (.iload_n 2, 1) := by decide +kernel
theorem dX8_stretch_8 : decode cX8_stretch 8 = .ok (.iconst 1, 1) := by decide +kernel
theorem dX8_stretch_9 : decode cX8_stretch 9 = .ok (.if_icmp .lt 9, 3) := by decide +kernel
theorem dX8_stretch_12 : decode cX8_stretch 12 = .ok (.iload_n 2, 1) := by decide +kernel
theorem dX8_stretch_13 : decode cX8_stretch 13 = .ok (.bipush 11, 2) := by decide +kernel
theorem dX8_stretch_15 : decode cX8_stretch 15 = .ok (.if_icmp .le 5, 3) := by decide +kernel
theorem dX8_stretch_18 : decode cX8_stretch 18 = .ok (.iconst 0, 1) := by decide +kernel
theorem dX8_stretch_19 : decode cX8_stretch 19 = .ok (.ireturn, 1) := by decide +kernel
theorem dX8_stretch_20 : decode cX8_stretch 20 = .ok (.aload_n 0, 1) := by decide +kernel
theorem dX8_stretch_21 : decode cX8_stretch 21 = .ok (.iload_n 1, 1) := by decide +kernel
theorem dX8_stretch_22 : decode cX8_stretch 22 = .ok (.iload_n 2, 1) := by decide +kernel
theorem dX8_stretch_23 : decode cX8_stretch 23 = .ok (.invokevirtual 162, 3) := by decide +kernel
theorem dX8_stretch_26 : decode cX8_stretch 26 = .ok (.iconst 1, 1) := by decide +kernel
theorem dX8_stretch_27 : decode cX8_stretch 27 = .ok (.ireturn, 1) := by decide +kernel
theorem dX8_encode_0 : decode cX8_encode 0 = .ok (.iload_n 1, 1) := by decide +kernel
theorem dX8_encode_1 : decode cX8_encode 1 = .ok (.invokestatic 209, 3) := by decide +kernel
theorem dX8_encode_4 : decode cX8_encode 4 = .ok (.ifCond .eq 14, 3) := by decide +kernel
theorem dX8_encode_7 : decode cX8_encode 7 = .ok (.iload_n 2, 1) := by decide +kernel
theorem dX8_encode_8 : decode cX8_encode 8 = .ok (.iconst 1, 1) := by decide +kernel
theorem dX8_encode_9 : decode cX8_encode 9 = .ok (.if_icmp .lt 9, 3) := by decide +kernel
theorem dX8_encode_12 : decode cX8_encode 12 = .ok (.iload_n 2, 1) := by decide +kernel
theorem dX8_encode_13 : decode cX8_encode 13 = .ok (.bipush 12, 2) := by decide +kernel
theorem dX8_encode_15 : decode cX8_encode 15 = .ok (.if_icmp .le 5, 3) := by decide +kernel
theorem dX8_encode_18 : decode cX8_encode 18 = .ok (.iconst (-1), 1) := by decide +kernel
theorem dX8_encode_19 : decode cX8_encode 19 = .ok (.ireturn, 1) := by decide +kernel
theorem dX8_encode_20 : decode cX8_encode 20 = .ok (.aload_n 0, 1) := by decide +kernel
theorem dX8_encode_21 : decode cX8_encode 21 = .ok (.iload_n 1, 1) := by decide +kernel
theorem dX8_encode_22 : decode cX8_encode 22 = .ok (.iload_n 2, 1) := by decide +kernel
theorem dX8_encode_23 : decode cX8_encode 23 = .ok (.sipush 10336, 3) := by decide +kernel
theorem dX8_encode_26 : decode cX8_encode 26 = .ok (.invokevirtual 144, 3) := by decide +kernel
theorem dX8_encode_29 : decode cX8_encode 29 = .ok (.aload_n 0, 1) := by decide +kernel
theorem dX8_encode_30 : decode cX8_encode 30 = .ok (.bipush 32, 2) := by decide +kernel
theorem dX8_encode_32 : decode cX8_encode 32 = .ok (.iload_n 2, 1) := by decide +kernel
theorem dX8_encode_33 : decode cX8_encode 33 = .ok (.imul, 1) := by decide +kernel
theorem dX8_encode_34 : decode cX8_encode 34 = .ok (.putfield 186, 3) := by decide +kernel
theorem dX8_encode_37 : decode cX8_encode 37 = .ok (.aload_n 0, 1) := by decide +kernel
theorem dX8_encode_38 : decode cX8_encode 38 = .ok (.getfield 186, 3) := by decide +kernel
theorem dX8_encode_41 : decode cX8_encode 41 = .ok (.ireturn, 1) := by decide +kernel
theorem dX8_decode_0 : decode cX8_decode 0 = .ok (.iload_n 1, 1) := by decide +kernel
theorem dX8_decode_1 : decode cX8_decode 1 = .ok (.invokestatic 209, 3) := by decide +kernel
theorem dX8_decode_4 : decode cX8_decode 4 = .ok (.ifCond .eq 14, 3) := by decide +kernel
theorem dX8_decode_7 : decode cX8_decode 7 = .ok (.iload_n 2, 1) := by decide +kernel
theorem dX8_decode_8 : decode cX8_decode 8 = .ok (.iconst 1, 1) := by decide +kernel
theorem dX8_decode_9 : decode cX8_decode 9 = .ok (.if_icmp .lt 9, 3) := by decide +kernel
theorem dX8_decode_12 : decode cX8_decode 12 = .ok (.iload_n 2, 1) := by decide +kernel
theorem dX8_decode_13 : decode cX8_decode 13 = .ok (.bipush 12, 2) := by decide +kernel
theorem dX8_decode_15 : decode cX8_decode 15 = .ok (.if_icmp .le 5, 3) := by decide +kernel
theorem dX8_decode_18 : decode cX8_decode 18 = .ok (.iconst (-1), 1) := by decide +kernel
theorem dX8_decode_19 : decode cX8_decode 19 = .ok (.ireturn, 1) := by decide +kernel
theorem dX8_decode_20 : decode cX8_decode 20 = .ok (.aload_n 0, 1) := by decide +kernel
theorem dX8_decode_21 : decode cX8_decode 21 = .ok (.invokevirtual 189, 3) := by decide +kernel
theorem dX8_decode_24 : decode cX8_decode 24 = .ok (.bipush 32, 2) := by decide +kernel
theorem dX8_decode_26 : decode cX8_decode 26 = .ok (.iload_n 2, 1) := by decide +kernel
theorem dX8_decode_27 : decode cX8_decode 27 = .ok (.imul, 1) := by decide +kernel
theorem dX8_decode_28 : decode cX8_decode 28 = .ok (.if_icmp .eq 5, 3) := by decide +kernel
theorem dX8_decode_31 : decode cX8_decode 31 = .ok (.iconst (-1), 1) := by decide +kernel
theorem dX8_decode_32 : decode cX8_decode 32 = .ok (.ireturn, 1) := by decide +kernel
theorem dX8_decode_33 : decode cX8_decode 33 = .ok (.aload_n 0, 1) := by decide +kernel
theorem dX8_decode_34 : decode cX8_decode 34 = .ok (.iload_n 1, 1) := by decide +kernel
theorem dX8_decode_35 : decode cX8_decode 35 = .ok (.iload_n 2, 1) := by decide +kernel
theorem dX8_decode_36 : decode cX8_decode 36 = .ok (.iconst 0, 1) := by decide +kernel
theorem dX8_decode_37 : decode cX8_decode 37 = .ok (.invokevirtual 159, 3) := by decide +kernel
theorem dX8_decode_40 : decode cX8_decode 40 = .ok (.sipush 256, 3) := by decide +kernel
theorem dX8_decode_43 : decode cX8_decode 43 = .ok (.ireturn, 1) := by decide +kernel
theorem dX8_sample_0 : decode cX8_sample 0 = .ok (.iload_n 1, 1) := by decide +kernel
theorem dX8_sample_1 : decode cX8_sample 1 = .ok (.invokestatic 209, 3) := by decide +kernel
theorem dX8_sample_4 : decode cX8_sample 4 = .ok (.ifCond .ne 5, 3) := by decide +kernel
theorem dX8_sample_7 : decode cX8_sample 7 = .ok (.iconst (-1), 1) := by decide +kernel
theorem dX8_sample_8 : decode cX8_sample 8 = .ok (.ireturn, 1) := by decide +kernel
theorem dX8_sample_9 : decode cX8_sample 9 = .ok (.aload_n 0, 1) := by decide +kernel
theorem dX8_sample_10 : decode cX8_sample 10 = .ok (.invokevirtual 189, 3) := by decide +kernel
theorem dX8_sample_13 : decode cX8_sample 13 = .ok (.bipush 32, 2) := by decide +kernel
theorem dX8_sample_15 : decode cX8_sample 15 = .ok (.if_icmp .eq 5, 3) := by decide +kernel
theorem dX8_sample_18 : decode cX8_sample 18 = .ok (.iconst (-1), 1) := by decide +kernel
theorem dX8_sample_19 : decode cX8_sample 19 = .ok (.ireturn, 1) := by decide +kernel
theorem dX8_sample_20 : decode cX8_sample 20 = .ok (.aload_n 0, 1) := by decide +kernel
theorem dX8_sample_21 : decode cX8_sample 21 = .ok (.iconst 0, 1) := by decide +kernel
theorem dX8_sample_22 : decode cX8_sample 22 = .ok (.iload_n 3, 1) := by decide +kernel
theorem dX8_sample_23 : decode cX8_sample 23 = .ok (.iload_n 2, 1) := by decide +kernel
theorem dX8_sample_24 : decode cX8_sample 24 = .ok (.iload_n 1, 1) := by decide +kernel
theorem dX8_sample_25 : decode cX8_sample 25 = .ok (.invokevirtual 137, 3) := by decide +kernel
theorem dX8_sample_28 : decode cX8_sample 28 = .ok (.istore 4, 2) := by decide +kernel
theorem dX8_sample_30 : decode cX8_sample 30 = .ok (.iload 4, 2) := by decide +kernel
theorem dX8_sample_32 : decode cX8_sample 32 = .ok (.iconst (-1), 1) := by decide +kernel
theorem dX8_sample_33 : decode cX8_sample 33 = .ok (.if_icmp .ne 8, 3) := by decide +kernel
theorem dX8_sample_36 : decode cX8_sample 36 = .ok (.bipush (-2), 2) := by decide +kernel
theorem dX8_sample_38 : decode cX8_sample 38 = .ok (.goto 5, 3) := by decide +kernel
theorem dX8_sample_41 : decode cX8_sample 41 = .ok (.iload 4, 2) := by decide +kernel
theorem dX8_sample_43 : decode cX8_sample 43 = .ok (.ireturn, 1) := by decide +kernel
theorem dX8_noise_0 : decode cX8_noise 0 = .ok (.iload_n 1, 1) := by decide +kernel
theorem dX8_noise_1 : decode cX8_noise 1 = .ok (.invokestatic 209, 3) := by decide +kernel
theorem dX8_noise_4 : decode cX8_noise 4 = .ok (.ifCond .eq 13, 3) := by decide +kernel
theorem dX8_noise_7 : decode cX8_noise 7 = .ok (.iload_n 2, 1) := by decide +kernel
theorem dX8_noise_8 : decode cX8_noise 8 = .ok (.iconst 2, 1) := by decide +kernel
theorem dX8_noise_9 : decode cX8_noise 9 = .ok (.if_icmp .eq 10, 3) := by decide +kernel
theorem dX8_noise_12 : decode cX8_noise 12 = .ok (.iload_n 2, 1) := by decide +kernel
theorem dX8_noise_13 : decode cX8_noise 13 = .ok (.iconst 3, 1) := by decide +kernel
theorem dX8_noise_14 : decode cX8_noise 14 = .ok (.if_icmp .eq 5, 3) := by decide +kernel
theorem dX8_noise_17 : decode cX8_noise 17 = .ok (.iconst (-1), 1) := by decide +kernel
theorem dX8_noise_18 : decode cX8_noise 18 = .ok (.ireturn, 1) := by decide +kernel
theorem dX8_noise_19 : decode cX8_noise 19 = .ok (.aload_n 0, 1) := by decide +kernel
theorem dX8_noise_20 : decode cX8_noise 20 = .ok (.invokevirtual 189, 3) := by decide +kernel
theorem dX8_noise_23 : decode cX8_noise 23 = .ok (.bipush 32, 2) := by decide +kernel
theorem dX8_noise_25 : decode cX8_noise 25 = .ok (.if_icmp .eq 5, 3) := by decide +kernel
theorem dX8_noise_28 : decode cX8_noise 28 = .ok (.iconst (-1), 1) := by decide +kernel
theorem dX8_noise_29 : decode cX8_noise 29 = .ok (.ireturn, 1) := by decide +kernel
theorem dX8_noise_30 : decode cX8_noise 30 = .ok (.aload_n 0, 1) := by decide +kernel
theorem dX8_noise_31 : decode cX8_noise 31 = .ok (.iconst 0, 1) := by decide +kernel
theorem dX8_noise_32 : decode cX8_noise 32 = .ok (.iload_n 3, 1) := by decide +kernel
theorem dX8_noise_33 : decode cX8_noise 33 = .ok (.iload_n 2, 1) := by decide +kernel
theorem dX8_noise_34 : decode cX8_noise 34 = .ok (.iload_n 1, 1) := by decide +kernel
theorem dX8_noise_35 : decode cX8_noise 35 = .ok (.invokevirtual 130, 3) := by decide +kernel
theorem dX8_noise_38 : decode cX8_noise 38 = .ok (.sipush 256, 3) := by decide +kernel
theorem dX8_noise_41 : decode cX8_noise 41 = .ok (.ireturn, 1) := by decide +kernel
end
section
theorem dL_law_0 : decode cL_law 0 = .ok (.new 7, 3) := by decide +kernel
theorem dL_law_3 : decode cL_law 3 = .ok (.dup, 1) := by decide +kernel
theorem dL_law_4 : decode cL_law 4 = .ok (.invokespecial 9, 3) := by decide +kernel
theorem dL_law_7 : decode cL_law 7 = .ok (.astore_n 1, 1) := by decide +kernel
theorem dL_law_8 : decode cL_law 8 = .ok (.new 10, 3) := by decide +kernel
theorem dL_law_11 : decode cL_law 11 = .ok (.dup, 1) := by decide +kernel
theorem dL_law_12 : decode cL_law 12 = .ok (.invokespecial 12, 3) := by decide +kernel
theorem dL_law_15 : decode cL_law 15 = .ok (.astore_n 2, 1) := by decide +kernel
theorem dL_law_16 : decode cL_law 16 = .ok (.iconst 0, 1) := by decide +kernel
theorem dL_law_17 : decode cL_law 17 = .ok (.istore_n 3, 1) := by decide +kernel
theorem dL_law_18 : decode cL_law 18 = .ok (.iload_n 3, 1) := by decide +kernel
theorem dL_law_19 : decode cL_law 19 = .ok (.aload_n 0, 1) := by decide +kernel
theorem dL_law_20 : decode cL_law 20 = .ok (.arraylength, 1) := by decide +kernel
theorem dL_law_21 : decode cL_law 21 = .ok (.bipush 6, 2) := by decide +kernel
theorem dL_law_23 : decode cL_law 23 = .ok (.isub, 1) := by decide +kernel
theorem dL_law_24 : decode cL_law 24 = .ok (.if_icmp .gt 895, 3) := by decide +kernel
theorem dL_law_27 : decode cL_law 27 = .ok (.aload_n 0, 1) := by decide +kernel
theorem dL_law_28 : decode cL_law 28 = .ok (.iload_n 3, 1) := by decide +kernel
theorem dL_law_29 : decode cL_law 29 = .ok (.iaload, 1) := by decide +kernel
theorem dL_law_30 : decode cL_law 30 = .ok (.bipush 31, 2) := by decide +kernel
theorem dL_law_32 : decode cL_law 32 = .ok (.iand, 1) := by decide +kernel
theorem dL_law_33 : decode cL_law 33 = .ok (.tableswitch 880 0 24 #[115, 178, 201, 224, 257, 280, 303, 326, 359, 372, 395, 408, 421, 454, 497, 530, 553, 576, 619, 662, 695, 728, 761, 794, 837], 115) := by decide +kernel
theorem dL_law_148 : decode cL_law 148 = .ok (.aload_n 1, 1) := by decide +kernel
theorem dL_law_149 : decode cL_law 149 = .ok (.aload_n 0, 1) := by decide +kernel
theorem dL_law_150 : decode cL_law 150 = .ok (.iload_n 3, 1) := by decide +kernel
theorem dL_law_151 : decode cL_law 151 = .ok (.iconst 1, 1) := by decide +kernel
theorem dL_law_152 : decode cL_law 152 = .ok (.iadd, 1) := by decide +kernel
theorem dL_law_153 : decode cL_law 153 = .ok (.iaload, 1) := by decide +kernel
theorem dL_law_154 : decode cL_law 154 = .ok (.aload_n 0, 1) := by decide +kernel
theorem dL_law_155 : decode cL_law 155 = .ok (.iload_n 3, 1) := by decide +kernel
theorem dL_law_156 : decode cL_law 156 = .ok (.iconst 2, 1) := by decide +kernel
theorem dL_law_157 : decode cL_law 157 = .ok (.iadd, 1) := by decide +kernel
theorem dL_law_158 : decode cL_law 158 = .ok (.iaload, 1) := by decide +kernel
theorem dL_law_159 : decode cL_law 159 = .ok (.aload_n 0, 1) := by decide +kernel
theorem dL_law_160 : decode cL_law 160 = .ok (.iload_n 3, 1) := by decide +kernel
theorem dL_law_161 : decode cL_law 161 = .ok (.iconst 3, 1) := by decide +kernel
theorem dL_law_162 : decode cL_law 162 = .ok (.iadd, 1) := by decide +kernel
theorem dL_law_163 : decode cL_law 163 = .ok (.iaload, 1) := by decide +kernel
theorem dL_law_164 : decode cL_law 164 = .ok (.aload_n 0, 1) := by decide +kernel
theorem dL_law_165 : decode cL_law 165 = .ok (.iload_n 3, 1) := by decide +kernel
theorem dL_law_166 : decode cL_law 166 = .ok (.iconst 4, 1) := by decide +kernel
theorem dL_law_167 : decode cL_law 167 = .ok (.iadd, 1) := by decide +kernel
theorem dL_law_168 : decode cL_law 168 = .ok (.iaload, 1) := by decide +kernel
theorem dL_law_169 : decode cL_law 169 = .ok (.aload_n 0, 1) := by decide +kernel
theorem dL_law_170 : decode cL_law 170 = .ok (.iload_n 3, 1) := by decide +kernel
theorem dL_law_171 : decode cL_law 171 = .ok (.iconst 5, 1) := by decide +kernel
theorem dL_law_172 : decode cL_law 172 = .ok (.iadd, 1) := by decide +kernel
theorem dL_law_173 : decode cL_law 173 = .ok (.iaload, 1) := by decide +kernel
theorem dL_law_174 : decode cL_law 174 = .ok (.invokevirtual 13, 3) := by decide +kernel
theorem dL_law_177 : decode cL_law 177 = .ok (.aload_n 2, 1) := by decide +kernel
theorem dL_law_178 : decode cL_law 178 = .ok (.aload_n 0, 1) := by decide +kernel
theorem dL_law_179 : decode cL_law 179 = .ok (.iload_n 3, 1) := by decide +kernel
theorem dL_law_180 : decode cL_law 180 = .ok (.iconst 1, 1) := by decide +kernel
theorem dL_law_181 : decode cL_law 181 = .ok (.iadd, 1) := by decide +kernel
theorem dL_law_182 : decode cL_law 182 = .ok (.iaload, 1) := by decide +kernel
theorem dL_law_183 : decode cL_law 183 = .ok (.aload_n 0, 1) := by decide +kernel
theorem dL_law_184 : decode cL_law 184 = .ok (.iload_n 3, 1) := by decide +kernel
theorem dL_law_185 : decode cL_law 185 = .ok (.iconst 2, 1) := by decide +kernel
theorem dL_law_186 : decode cL_law 186 = .ok (.iadd, 1) := by decide +kernel
theorem dL_law_187 : decode cL_law 187 = .ok (.iaload, 1) := by decide +kernel
theorem dL_law_188 : decode cL_law 188 = .ok (.aload_n 0, 1) := by decide +kernel
theorem dL_law_189 : decode cL_law 189 = .ok (.iload_n 3, 1) := by decide +kernel
theorem dL_law_190 : decode cL_law 190 = .ok (.iconst 3, 1) := by decide +kernel
theorem dL_law_191 : decode cL_law 191 = .ok (.iadd, 1) := by decide +kernel
theorem dL_law_192 : decode cL_law 192 = .ok (.iaload, 1) := by decide +kernel
theorem dL_law_193 : decode cL_law 193 = .ok (.aload_n 0, 1) := by decide +kernel
theorem dL_law_194 : decode cL_law 194 = .ok (.iload_n 3, 1) := by decide +kernel
theorem dL_law_195 : decode cL_law 195 = .ok (.iconst 4, 1) := by decide +kernel
theorem dL_law_196 : decode cL_law 196 = .ok (.iadd, 1) := by decide +kernel
theorem dL_law_197 : decode cL_law 197 = .ok (.iaload, 1) := by decide +kernel
theorem dL_law_198 : decode cL_law 198 = .ok (.aload_n 0, 1) := by decide +kernel
theorem dL_law_199 : decode cL_law 199 = .ok (.iload_n 3, 1) := by decide +kernel
theorem dL_law_200 : decode cL_law 200 = .ok (.iconst 5, 1) := by decide +kernel
theorem dL_law_201 : decode cL_law 201 = .ok (.iadd, 1) := by decide +kernel
theorem dL_law_202 : decode cL_law 202 = .ok (.iaload, 1) := by decide +kernel
theorem dL_law_203 : decode cL_law 203 = .ok (.invokevirtual 17, 3) := by decide +kernel
theorem dL_law_206 : decode cL_law 206 = .ok (.if_icmp .eq 707, 3) := by decide +kernel
theorem dL_law_209 : decode cL_law 209 = .ok (.iconst 0, 1) := by decide +kernel
theorem dL_law_210 : decode cL_law 210 = .ok (.ireturn, 1) := by decide +kernel
theorem dL_law_211 : decode cL_law 211 = .ok (.aload_n 1, 1) := by decide +kernel
theorem dL_law_212 : decode cL_law 212 = .ok (.aload_n 0, 1) := by decide +kernel
theorem dL_law_213 : decode cL_law 213 = .ok (.iload_n 3, 1) := by decide +kernel
theorem dL_law_214 : decode cL_law 214 = .ok (.iconst 1, 1) := by decide +kernel
theorem dL_law_215 : decode cL_law 215 = .ok (.iadd, 1) := by decide +kernel
theorem dL_law_216 : decode cL_law 216 = .ok (.iaload, 1) := by decide +kernel
theorem dL_law_217 : decode cL_law 217 = .ok (.invokevirtual 18, 3) := by decide +kernel
theorem dL_law_220 : decode cL_law 220 = .ok (.aload_n 2, 1) := by decide +kernel
theorem dL_law_221 : decode cL_law 221 = .ok (.aload_n 0, 1) := by decide +kernel
theorem dL_law_222 : decode cL_law 222 = .ok (.iload_n 3, 1) := by decide +kernel
theorem dL_law_223 : decode cL_law 223 = .ok (.iconst 1, 1) := by decide +kernel
theorem dL_law_224 : decode cL_law 224 = .ok (.iadd, 1) := by decide +kernel
theorem dL_law_225 : decode cL_law 225 = .ok (.iaload, 1) := by decide +kernel
theorem dL_law_226 : decode cL_law 226 = .ok (.invokevirtual 22, 3) := by decide +kernel
theorem dL_law_229 : decode cL_law 229 = .ok (.if_icmp .eq 684, 3) := by decide +kernel
theorem dL_law_232 : decode cL_law 232 = .ok (.iconst 0, 1) := by decide +kernel
theorem dL_law_233 : decode cL_law 233 = .ok (.ireturn, 1) := by decide +kernel
theorem dL_law_234 : decode cL_law 234 = .ok (.aload_n 1, 1) := by decide +kernel
theorem dL_law_235 : decode cL_law 235 = .ok (.aload_n 0, 1) := by decide +kernel
theorem dL_law_236 : decode cL_law 236 = .ok (.iload_n 3, 1) := by decide +kernel
theorem dL_law_237 : decode cL_law 237 = .ok (.iconst 1, 1) := by decide +kernel
theorem dL_law_238 : decode cL_law 238 = .ok (.iadd, 1) := by decide +kernel
theorem dL_law_239 : decode cL_law 239 = .ok (.iaload, 1) := by decide +kernel
theorem dL_law_240 : decode cL_law 240 = .ok (.invokevirtual 23, 3) := by decide +kernel
theorem dL_law_243 : decode cL_law 243 = .ok (.aload_n 2, 1) := by decide +kernel
theorem dL_law_244 : decode cL_law 244 = .ok (.aload_n 0, 1) := by decide +kernel
theorem dL_law_245 : decode cL_law 245 = .ok (.iload_n 3, 1) := by decide +kernel
theorem dL_law_246 : decode cL_law 246 = .ok (.iconst 1, 1) := by decide +kernel
theorem dL_law_247 : decode cL_law 247 = .ok (.iadd, 1) := by decide +kernel
theorem dL_law_248 : decode cL_law 248 = .ok (.iaload, 1) := by decide +kernel
theorem dL_law_249 : decode cL_law 249 = .ok (.invokevirtual 26, 3) := by decide +kernel
theorem dL_law_252 : decode cL_law 252 = .ok (.if_icmp .eq 661, 3) := by decide +kernel
theorem dL_law_255 : decode cL_law 255 = .ok (.iconst 0, 1) := by decide +kernel
theorem dL_law_256 : decode cL_law 256 = .ok (.ireturn, 1) := by decide +kernel
theorem dL_law_257 : decode cL_law 257 = .ok (.aload_n 1, 1) := by decide +kernel
theorem dL_law_258 : decode cL_law 258 = .ok (.aload_n 0, 1) := by decide +kernel
theorem dL_law_259 : decode cL_law 259 = .ok (.iload_n 3, 1) := by decide +kernel
theorem dL_law_260 : decode cL_law 260 = .ok (.iconst 1, 1) := by decide +kernel
theorem dL_law_261 : decode cL_law 261 = .ok (.iadd, 1) := by decide +kernel
theorem dL_law_262 : decode cL_law 262 = .ok (.iaload, 1) := by decide +kernel
theorem dL_law_263 : decode cL_law 263 = .ok (.aload_n 0, 1) := by decide +kernel
theorem dL_law_264 : decode cL_law 264 = .ok (.iload_n 3, 1) := by decide +kernel
theorem dL_law_265 : decode cL_law 265 = .ok (.iconst 2, 1) := by decide +kernel
theorem dL_law_266 : decode cL_law 266 = .ok (.iadd, 1) := by decide +kernel
theorem dL_law_267 : decode cL_law 267 = .ok (.iaload, 1) := by decide +kernel
theorem dL_law_268 : decode cL_law 268 = .ok (.invokevirtual 27, 3) := by decide +kernel
theorem dL_law_271 : decode cL_law 271 = .ok (.aload_n 2, 1) := by decide +kernel
theorem dL_law_272 : decode cL_law 272 = .ok (.aload_n 0, 1) := by decide +kernel
theorem dL_law_273 : decode cL_law 273 = .ok (.iload_n 3, 1) := by decide +kernel
theorem dL_law_274 : decode cL_law 274 = .ok (.iconst 1, 1) := by decide +kernel
theorem dL_law_275 : decode cL_law 275 = .ok (.iadd, 1) := by decide +kernel
theorem dL_law_276 : decode cL_law 276 = .ok (.iaload, 1) := by decide +kernel
theorem dL_law_277 : decode cL_law 277 = .ok (.aload_n 0, 1) := by decide +kernel
theorem dL_law_278 : decode cL_law 278 = .ok (.iload_n 3, 1) := by decide +kernel
theorem dL_law_279 : decode cL_law 279 = .ok (.iconst 2, 1) := by decide +kernel
theorem dL_law_280 : decode cL_law 280 = .ok (.iadd, 1) := by decide +kernel
theorem dL_law_281 : decode cL_law 281 = .ok (.iaload, 1) := by decide +kernel
theorem dL_law_282 : decode cL_law 282 = .ok (.invokevirtual 31, 3) := by decide +kernel
theorem dL_law_285 : decode cL_law 285 = .ok (.if_icmp .eq 628, 3) := by decide +kernel
theorem dL_law_288 : decode cL_law 288 = .ok (.iconst 0, 1) := by decide +kernel
theorem dL_law_289 : decode cL_law 289 = .ok (.ireturn, 1) := by decide +kernel
theorem dL_law_290 : decode cL_law 290 = .ok (.aload_n 1, 1) := by decide +kernel
theorem dL_law_291 : decode cL_law 291 = .ok (.aload_n 0, 1) := by decide +kernel
theorem dL_law_292 : decode cL_law 292 = .ok (.iload_n 3, 1) := by decide +kernel
theorem dL_law_293 : decode cL_law 293 = .ok (.iconst 1, 1) := by decide +kernel
theorem dL_law_294 : decode cL_law 294 = .ok (.iadd, 1) := by decide +kernel
theorem dL_law_295 : decode cL_law 295 = .ok (.iaload, 1) := by decide +kernel
theorem dL_law_296 : decode cL_law 296 = .ok (.invokevirtual 32, 3) := by decide +kernel
theorem dL_law_299 : decode cL_law 299 = .ok (.aload_n 2, 1) := by decide +kernel
theorem dL_law_300 : decode cL_law 300 = .ok (.aload_n 0, 1) := by decide +kernel
theorem dL_law_301 : decode cL_law 301 = .ok (.iload_n 3, 1) := by decide +kernel
theorem dL_law_302 : decode cL_law 302 = .ok (.iconst 1, 1) := by decide +kernel
theorem dL_law_303 : decode cL_law 303 = .ok (.iadd, 1) := by decide +kernel
theorem dL_law_304 : decode cL_law 304 = .ok (.iaload, 1) := by decide +kernel
theorem dL_law_305 : decode cL_law 305 = .ok (.invokevirtual 35, 3) := by decide +kernel
theorem dL_law_308 : decode cL_law 308 = .ok (.if_icmp .eq 605, 3) := by decide +kernel
theorem dL_law_311 : decode cL_law 311 = .ok (.iconst 0, 1) := by decide +kernel
theorem dL_law_312 : decode cL_law 312 = .ok (.ireturn, 1) := by decide +kernel
theorem dL_law_313 : decode cL_law 313 = .ok (.aload_n 1, 1) := by decide +kernel
theorem dL_law_314 : decode cL_law 314 = .ok (.aload_n 0, 1) := by decide +kernel
theorem dL_law_315 : decode cL_law 315 = .ok (.iload_n 3, 1) := by decide +kernel
theorem dL_law_316 : decode cL_law 316 = .ok (.iconst 1, 1) := by decide +kernel
theorem dL_law_317 : decode cL_law 317 = .ok (.iadd, 1) := by decide +kernel
theorem dL_law_318 : decode cL_law 318 = .ok (.iaload, 1) := by decide +kernel
theorem dL_law_319 : decode cL_law 319 = .ok (.invokevirtual 36, 3) := by decide +kernel
theorem dL_law_322 : decode cL_law 322 = .ok (.aload_n 2, 1) := by decide +kernel
theorem dL_law_323 : decode cL_law 323 = .ok (.aload_n 0, 1) := by decide +kernel
theorem dL_law_324 : decode cL_law 324 = .ok (.iload_n 3, 1) := by decide +kernel
theorem dL_law_325 : decode cL_law 325 = .ok (.iconst 1, 1) := by decide +kernel
theorem dL_law_326 : decode cL_law 326 = .ok (.iadd, 1) := by decide +kernel
theorem dL_law_327 : decode cL_law 327 = .ok (.iaload, 1) := by decide +kernel
theorem dL_law_328 : decode cL_law 328 = .ok (.invokevirtual 39, 3) := by decide +kernel
theorem dL_law_331 : decode cL_law 331 = .ok (.if_icmp .eq 582, 3) := by decide +kernel
theorem dL_law_334 : decode cL_law 334 = .ok (.iconst 0, 1) := by decide +kernel
theorem dL_law_335 : decode cL_law 335 = .ok (.ireturn, 1) := by decide +kernel
theorem dL_law_336 : decode cL_law 336 = .ok (.aload_n 1, 1) := by decide +kernel
theorem dL_law_337 : decode cL_law 337 = .ok (.aload_n 0, 1) := by decide +kernel
theorem dL_law_338 : decode cL_law 338 = .ok (.iload_n 3, 1) := by decide +kernel
theorem dL_law_339 : decode cL_law 339 = .ok (.iconst 1, 1) := by decide +kernel
theorem dL_law_340 : decode cL_law 340 = .ok (.iadd, 1) := by decide +kernel
theorem dL_law_341 : decode cL_law 341 = .ok (.iaload, 1) := by decide +kernel
theorem dL_law_342 : decode cL_law 342 = .ok (.invokevirtual 40, 3) := by decide +kernel
theorem dL_law_345 : decode cL_law 345 = .ok (.aload_n 2, 1) := by decide +kernel
theorem dL_law_346 : decode cL_law 346 = .ok (.aload_n 0, 1) := by decide +kernel
theorem dL_law_347 : decode cL_law 347 = .ok (.iload_n 3, 1) := by decide +kernel
theorem dL_law_348 : decode cL_law 348 = .ok (.iconst 1, 1) := by decide +kernel
theorem dL_law_349 : decode cL_law 349 = .ok (.iadd, 1) := by decide +kernel
theorem dL_law_350 : decode cL_law 350 = .ok (.iaload, 1) := by decide +kernel
theorem dL_law_351 : decode cL_law 351 = .ok (.invokevirtual 43, 3) := by decide +kernel
theorem dL_law_354 : decode cL_law 354 = .ok (.if_icmp .eq 559, 3) := by decide +kernel
theorem dL_law_357 : decode cL_law 357 = .ok (.iconst 0, 1) := by decide +kernel
theorem dL_law_358 : decode cL_law 358 = .ok (.ireturn, 1) := by decide +kernel
theorem dL_law_359 : decode cL_law 359 = .ok (.aload_n 1, 1) := by decide +kernel
theorem dL_law_360 : decode cL_law 360 = .ok (.aload_n 0, 1) := by decide +kernel
theorem dL_law_361 : decode cL_law 361 = .ok (.iload_n 3, 1) := by decide +kernel
theorem dL_law_362 : decode cL_law 362 = .ok (.iconst 1, 1) := by decide +kernel
theorem dL_law_363 : decode cL_law 363 = .ok (.iadd, 1) := by decide +kernel
theorem dL_law_364 : decode cL_law 364 = .ok (.iaload, 1) := by decide +kernel
theorem dL_law_365 : decode cL_law 365 = .ok (.aload_n 0, 1) := by decide +kernel
theorem dL_law_366 : decode cL_law 366 = .ok (.iload_n 3, 1) := by decide +kernel
theorem dL_law_367 : decode cL_law 367 = .ok (.iconst 2, 1) := by decide +kernel
theorem dL_law_368 : decode cL_law 368 = .ok (.iadd, 1) := by decide +kernel
theorem dL_law_369 : decode cL_law 369 = .ok (.iaload, 1) := by decide +kernel
theorem dL_law_370 : decode cL_law 370 = .ok (.invokevirtual 44, 3) := by decide +kernel
theorem dL_law_373 : decode cL_law 373 = .ok (.aload_n 2, 1) := by decide +kernel
theorem dL_law_374 : decode cL_law 374 = .ok (.aload_n 0, 1) := by decide +kernel
theorem dL_law_375 : decode cL_law 375 = .ok (.iload_n 3, 1) := by decide +kernel
theorem dL_law_376 : decode cL_law 376 = .ok (.iconst 1, 1) := by decide +kernel
theorem dL_law_377 : decode cL_law 377 = .ok (.iadd, 1) := by decide +kernel
theorem dL_law_378 : decode cL_law 378 = .ok (.iaload, 1) := by decide +kernel
theorem dL_law_379 : decode cL_law 379 = .ok (.aload_n 0, 1) := by decide +kernel
theorem dL_law_380 : decode cL_law 380 = .ok (.iload_n 3, 1) := by decide +kernel
theorem dL_law_381 : decode cL_law 381 = .ok (.iconst 2, 1) := by decide +kernel
theorem dL_law_382 : decode cL_law 382 = .ok (.iadd, 1) := by decide +kernel
theorem dL_law_383 : decode cL_law 383 = .ok (.iaload, 1) := by decide +kernel
theorem dL_law_384 : decode cL_law 384 = .ok (.invokevirtual 48, 3) := by decide +kernel
theorem dL_law_387 : decode cL_law 387 = .ok (.if_icmp .eq 526, 3) := by decide +kernel
theorem dL_law_390 : decode cL_law 390 = .ok (.iconst 0, 1) := by decide +kernel
theorem dL_law_391 : decode cL_law 391 = .ok (.ireturn, 1) := by decide +kernel
theorem dL_law_392 : decode cL_law 392 = .ok (.aload_n 1, 1) := by decide +kernel
theorem dL_law_393 : decode cL_law 393 = .ok (.invokevirtual 49, 3) := by decide +kernel
theorem dL_law_396 : decode cL_law 396 = .ok (.aload_n 2, 1) := by decide +kernel
theorem dL_law_397 : decode cL_law 397 = .ok (.invokevirtual 53, 3) := by decide +kernel
theorem dL_law_400 : decode cL_law 400 = .ok (.if_icmp .eq 513, 3) := by decide +kernel
theorem dL_law_403 : decode cL_law 403 = .ok (.iconst 0, 1) := by decide +kernel
theorem dL_law_404 : decode cL_law 404 = .ok (.ireturn, 1) := by decide +kernel
theorem dL_law_405 : decode cL_law 405 = .ok (.aload_n 1, 1) := by decide +kernel
theorem dL_law_406 : decode cL_law 406 = .ok (.aload_n 0, 1) := by decide +kernel
theorem dL_law_407 : decode cL_law 407 = .ok (.iload_n 3, 1) := by decide +kernel
theorem dL_law_408 : decode cL_law 408 = .ok (.iconst 1, 1) := by decide +kernel
theorem dL_law_409 : decode cL_law 409 = .ok (.iadd, 1) := by decide +kernel
theorem dL_law_410 : decode cL_law 410 = .ok (.iaload, 1) := by decide +kernel
theorem dL_law_411 : decode cL_law 411 = .ok (.invokevirtual 54, 3) := by decide +kernel
theorem dL_law_414 : decode cL_law 414 = .ok (.aload_n 2, 1) := by decide +kernel
theorem dL_law_415 : decode cL_law 415 = .ok (.aload_n 0, 1) := by decide +kernel
theorem dL_law_416 : decode cL_law 416 = .ok (.iload_n 3, 1) := by decide +kernel
theorem dL_law_417 : decode cL_law 417 = .ok (.iconst 1, 1) := by decide +kernel
theorem dL_law_418 : decode cL_law 418 = .ok (.iadd, 1) := by decide +kernel
theorem dL_law_419 : decode cL_law 419 = .ok (.iaload, 1) := by decide +kernel
theorem dL_law_420 : decode cL_law 420 = .ok (.invokevirtual 57, 3) := by decide +kernel
theorem dL_law_423 : decode cL_law 423 = .ok (.if_icmp .eq 490, 3) := by decide +kernel
theorem dL_law_426 : decode cL_law 426 = .ok (.iconst 0, 1) := by decide +kernel
theorem dL_law_427 : decode cL_law 427 = .ok (.ireturn, 1) := by decide +kernel
theorem dL_law_428 : decode cL_law 428 = .ok (.aload_n 1, 1) := by decide +kernel
theorem dL_law_429 : decode cL_law 429 = .ok (.invokevirtual 58, 3) := by decide +kernel
theorem dL_law_432 : decode cL_law 432 = .ok (.aload_n 2, 1) := by decide +kernel
theorem dL_law_433 : decode cL_law 433 = .ok (.invokevirtual 61, 3) := by decide +kernel
theorem dL_law_436 : decode cL_law 436 = .ok (.if_icmp .eq 477, 3) := by decide +kernel
theorem dL_law_439 : decode cL_law 439 = .ok (.iconst 0, 1) := by decide +kernel
theorem dL_law_440 : decode cL_law 440 = .ok (.ireturn, 1) := by decide +kernel
theorem dL_law_441 : decode cL_law 441 = .ok (.aload_n 1, 1) := by decide +kernel
theorem dL_law_442 : decode cL_law 442 = .ok (.invokevirtual 62, 3) := by decide +kernel
theorem dL_law_445 : decode cL_law 445 = .ok (.aload_n 2, 1) := by decide +kernel
theorem dL_law_446 : decode cL_law 446 = .ok (.invokevirtual 65, 3) := by decide +kernel
theorem dL_law_449 : decode cL_law 449 = .ok (.if_icmp .eq 464, 3) := by decide +kernel
theorem dL_law_452 : decode cL_law 452 = .ok (.iconst 0, 1) := by decide +kernel
theorem dL_law_453 : decode cL_law 453 = .ok (.ireturn, 1) := by decide +kernel
theorem dL_law_454 : decode cL_law 454 = .ok (.aload_n 1, 1) := by decide +kernel
theorem dL_law_455 : decode cL_law 455 = .ok (.aload_n 0, 1) := by decide +kernel
theorem dL_law_456 : decode cL_law 456 = .ok (.iload_n 3, 1) := by decide +kernel
theorem dL_law_457 : decode cL_law 457 = .ok (.iconst 1, 1) := by decide +kernel
theorem dL_law_458 : decode cL_law 458 = .ok (.iadd, 1) := by decide +kernel
theorem dL_law_459 : decode cL_law 459 = .ok (.iaload, 1) := by decide +kernel
theorem dL_law_460 : decode cL_law 460 = .ok (.aload_n 0, 1) := by decide +kernel
theorem dL_law_461 : decode cL_law 461 = .ok (.iload_n 3, 1) := by decide +kernel
theorem dL_law_462 : decode cL_law 462 = .ok (.iconst 2, 1) := by decide +kernel
theorem dL_law_463 : decode cL_law 463 = .ok (.iadd, 1) := by decide +kernel
theorem dL_law_464 : decode cL_law 464 = .ok (.iaload, 1) := by decide +kernel
theorem dL_law_465 : decode cL_law 465 = .ok (.invokevirtual 66, 3) := by decide +kernel
theorem dL_law_468 : decode cL_law 468 = .ok (.aload_n 2, 1) := by decide +kernel
theorem dL_law_469 : decode cL_law 469 = .ok (.aload_n 0, 1) := by decide +kernel
theorem dL_law_470 : decode cL_law 470 = .ok (.iload_n 3, 1) := by decide +kernel
theorem dL_law_471 : decode cL_law 471 = .ok (.iconst 1, 1) := by decide +kernel
theorem dL_law_472 : decode cL_law 472 = .ok (.iadd, 1) := by decide +kernel
theorem dL_law_473 : decode cL_law 473 = .ok (.iaload, 1) := by decide +kernel
theorem dL_law_474 : decode cL_law 474 = .ok (.aload_n 0, 1) := by decide +kernel
theorem dL_law_475 : decode cL_law 475 = .ok (.iload_n 3, 1) := by decide +kernel
theorem dL_law_476 : decode cL_law 476 = .ok (.iconst 2, 1) := by decide +kernel
theorem dL_law_477 : decode cL_law 477 = .ok (.iadd, 1) := by decide +kernel
theorem dL_law_478 : decode cL_law 478 = .ok (.iaload, 1) := by decide +kernel
theorem dL_law_479 : decode cL_law 479 = .ok (.invokevirtual 69, 3) := by decide +kernel
theorem dL_law_482 : decode cL_law 482 = .ok (.if_icmp .eq 431, 3) := by decide +kernel
theorem dL_law_485 : decode cL_law 485 = .ok (.iconst 0, 1) := by decide +kernel
theorem dL_law_486 : decode cL_law 486 = .ok (.ireturn, 1) := by decide +kernel
theorem dL_law_487 : decode cL_law 487 = .ok (.aload_n 1, 1) := by decide +kernel
theorem dL_law_488 : decode cL_law 488 = .ok (.aload_n 0, 1) := by decide +kernel
theorem dL_law_489 : decode cL_law 489 = .ok (.iload_n 3, 1) := by decide +kernel
theorem dL_law_490 : decode cL_law 490 = .ok (.iconst 1, 1) := by decide +kernel
theorem dL_law_491 : decode cL_law 491 = .ok (.iadd, 1) := by decide +kernel
theorem dL_law_492 : decode cL_law 492 = .ok (.iaload, 1) := by decide +kernel
theorem dL_law_493 : decode cL_law 493 = .ok (.aload_n 0, 1) := by decide +kernel
theorem dL_law_494 : decode cL_law 494 = .ok (.iload_n 3, 1) := by decide +kernel
theorem dL_law_495 : decode cL_law 495 = .ok (.iconst 2, 1) := by decide +kernel
theorem dL_law_496 : decode cL_law 496 = .ok (.iadd, 1) := by decide +kernel
theorem dL_law_497 : decode cL_law 497 = .ok (.iaload, 1) := by decide +kernel
theorem dL_law_498 : decode cL_law 498 = .ok (.aload_n 0, 1) := by decide +kernel
theorem dL_law_499 : decode cL_law 499 = .ok (.iload_n 3, 1) := by decide +kernel
theorem dL_law_500 : decode cL_law 500 = .ok (.iconst 3, 1) := by decide +kernel
theorem dL_law_501 : decode cL_law 501 = .ok (.iadd, 1) := by decide +kernel
theorem dL_law_502 : decode cL_law 502 = .ok (.iaload, 1) := by decide +kernel
theorem dL_law_503 : decode cL_law 503 = .ok (.invokevirtual 70, 3) := by decide +kernel
theorem dL_law_506 : decode cL_law 506 = .ok (.aload_n 2, 1) := by decide +kernel
theorem dL_law_507 : decode cL_law 507 = .ok (.aload_n 0, 1) := by decide +kernel
theorem dL_law_508 : decode cL_law 508 = .ok (.iload_n 3, 1) := by decide +kernel
theorem dL_law_509 : decode cL_law 509 = .ok (.iconst 1, 1) := by decide +kernel
theorem dL_law_510 : decode cL_law 510 = .ok (.iadd, 1) := by decide +kernel
theorem dL_law_511 : decode cL_law 511 = .ok (.iaload, 1) := by decide +kernel
theorem dL_law_512 : decode cL_law 512 = .ok (.aload_n 0, 1) := by decide +kernel
theorem dL_law_513 : decode cL_law 513 = .ok (.iload_n 3, 1) := by decide +kernel
theorem dL_law_514 : decode cL_law 514 = .ok (.iconst 2, 1) := by decide +kernel
theorem dL_law_515 : decode cL_law 515 = .ok (.iadd, 1) := by decide +kernel
theorem dL_law_516 : decode cL_law 516 = .ok (.iaload, 1) := by decide +kernel
theorem dL_law_517 : decode cL_law 517 = .ok (.aload_n 0, 1) := by decide +kernel
theorem dL_law_518 : decode cL_law 518 = .ok (.iload_n 3, 1) := by decide +kernel
theorem dL_law_519 : decode cL_law 519 = .ok (.iconst 3, 1) := by decide +kernel
theorem dL_law_520 : decode cL_law 520 = .ok (.iadd, 1) := by decide +kernel
theorem dL_law_521 : decode cL_law 521 = .ok (.iaload, 1) := by decide +kernel
theorem dL_law_522 : decode cL_law 522 = .ok (.invokevirtual 74, 3) := by decide +kernel
theorem dL_law_525 : decode cL_law 525 = .ok (.if_icmp .eq 388, 3) := by decide +kernel
theorem dL_law_528 : decode cL_law 528 = .ok (.iconst 0, 1) := by decide +kernel
theorem dL_law_529 : decode cL_law 529 = .ok (.ireturn, 1) := by decide +kernel
theorem dL_law_530 : decode cL_law 530 = .ok (.aload_n 1, 1) := by decide +kernel
theorem dL_law_531 : decode cL_law 531 = .ok (.aload_n 0, 1) := by decide +kernel
theorem dL_law_532 : decode cL_law 532 = .ok (.iload_n 3, 1) := by decide +kernel
theorem dL_law_533 : decode cL_law 533 = .ok (.iconst 1, 1) := by decide +kernel
theorem dL_law_534 : decode cL_law 534 = .ok (.iadd, 1) := by decide +kernel
theorem dL_law_535 : decode cL_law 535 = .ok (.iaload, 1) := by decide +kernel
theorem dL_law_536 : decode cL_law 536 = .ok (.aload_n 0, 1) := by decide +kernel
theorem dL_law_537 : decode cL_law 537 = .ok (.iload_n 3, 1) := by decide +kernel
theorem dL_law_538 : decode cL_law 538 = .ok (.iconst 2, 1) := by decide +kernel
theorem dL_law_539 : decode cL_law 539 = .ok (.iadd, 1) := by decide +kernel
theorem dL_law_540 : decode cL_law 540 = .ok (.iaload, 1) := by decide +kernel
theorem dL_law_541 : decode cL_law 541 = .ok (.invokevirtual 75, 3) := by decide +kernel
theorem dL_law_544 : decode cL_law 544 = .ok (.aload_n 2, 1) := by decide +kernel
theorem dL_law_545 : decode cL_law 545 = .ok (.aload_n 0, 1) := by decide +kernel
theorem dL_law_546 : decode cL_law 546 = .ok (.iload_n 3, 1) := by decide +kernel
theorem dL_law_547 : decode cL_law 547 = .ok (.iconst 1, 1) := by decide +kernel
theorem dL_law_548 : decode cL_law 548 = .ok (.iadd, 1) := by decide +kernel
theorem dL_law_549 : decode cL_law 549 = .ok (.iaload, 1) := by decide +kernel
theorem dL_law_550 : decode cL_law 550 = .ok (.aload_n 0, 1) := by decide +kernel
theorem dL_law_551 : decode cL_law 551 = .ok (.iload_n 3, 1) := by decide +kernel
theorem dL_law_552 : decode cL_law 552 = .ok (.iconst 2, 1) := by decide +kernel
theorem dL_law_553 : decode cL_law 553 = .ok (.iadd, 1) := by decide +kernel
theorem dL_law_554 : decode cL_law 554 = .ok (.iaload, 1) := by decide +kernel
theorem dL_law_555 : decode cL_law 555 = .ok (.invokevirtual 78, 3) := by decide +kernel
theorem dL_law_558 : decode cL_law 558 = .ok (.if_icmp .eq 355, 3) := by decide +kernel
theorem dL_law_561 : decode cL_law 561 = .ok (.iconst 0, 1) := by decide +kernel
theorem dL_law_562 : decode cL_law 562 = .ok (.ireturn, 1) := by decide +kernel
theorem dL_law_563 : decode cL_law 563 = .ok (.aload_n 1, 1) := by decide +kernel
theorem dL_law_564 : decode cL_law 564 = .ok (.aload_n 0, 1) := by decide +kernel
theorem dL_law_565 : decode cL_law 565 = .ok (.iload_n 3, 1) := by decide +kernel
theorem dL_law_566 : decode cL_law 566 = .ok (.iconst 1, 1) := by decide +kernel
theorem dL_law_567 : decode cL_law 567 = .ok (.iadd, 1) := by decide +kernel
theorem dL_law_568 : decode cL_law 568 = .ok (.iaload, 1) := by decide +kernel
theorem dL_law_569 : decode cL_law 569 = .ok (.invokevirtual 79, 3) := by decide +kernel
theorem dL_law_572 : decode cL_law 572 = .ok (.aload_n 2, 1) := by decide +kernel
theorem dL_law_573 : decode cL_law 573 = .ok (.aload_n 0, 1) := by decide +kernel
theorem dL_law_574 : decode cL_law 574 = .ok (.iload_n 3, 1) := by decide +kernel
theorem dL_law_575 : decode cL_law 575 = .ok (.iconst 1, 1) := by decide +kernel
theorem dL_law_576 : decode cL_law 576 = .ok (.iadd, 1) := by decide +kernel
theorem dL_law_577 : decode cL_law 577 = .ok (.iaload, 1) := by decide +kernel
theorem dL_law_578 : decode cL_law 578 = .ok (.invokevirtual 83, 3) := by decide +kernel
theorem dL_law_581 : decode cL_law 581 = .ok (.if_icmp .eq 332, 3) := by decide +kernel
theorem dL_law_584 : decode cL_law 584 = .ok (.iconst 0, 1) := by decide +kernel
theorem dL_law_585 : decode cL_law 585 = .ok (.ireturn, 1) := by decide +kernel
theorem dL_law_586 : decode cL_law 586 = .ok (.aload_n 1, 1) := by decide +kernel
theorem dL_law_587 : decode cL_law 587 = .ok (.aload_n 0, 1) := by decide +kernel
theorem dL_law_588 : decode cL_law 588 = .ok (.iload_n 3, 1) := by decide +kernel
theorem dL_law_589 : decode cL_law 589 = .ok (.iconst 1, 1) := by decide +kernel
theorem dL_law_590 : decode cL_law 590 = .ok (.iadd, 1) := by decide +kernel
theorem dL_law_591 : decode cL_law 591 = .ok (.iaload, 1) := by decide +kernel
theorem dL_law_592 : decode cL_law 592 = .ok (.invokevirtual 84, 3) := by decide +kernel
theorem dL_law_595 : decode cL_law 595 = .ok (.aload_n 2, 1) := by decide +kernel
theorem dL_law_596 : decode cL_law 596 = .ok (.aload_n 0, 1) := by decide +kernel
theorem dL_law_597 : decode cL_law 597 = .ok (.iload_n 3, 1) := by decide +kernel
theorem dL_law_598 : decode cL_law 598 = .ok (.iconst 1, 1) := by decide +kernel
theorem dL_law_599 : decode cL_law 599 = .ok (.iadd, 1) := by decide +kernel
theorem dL_law_600 : decode cL_law 600 = .ok (.iaload, 1) := by decide +kernel
theorem dL_law_601 : decode cL_law 601 = .ok (.invokevirtual 87, 3) := by decide +kernel
theorem dL_law_604 : decode cL_law 604 = .ok (.if_icmp .eq 309, 3) := by decide +kernel
theorem dL_law_607 : decode cL_law 607 = .ok (.iconst 0, 1) := by decide +kernel
theorem dL_law_608 : decode cL_law 608 = .ok (.ireturn, 1) := by decide +kernel
theorem dL_law_609 : decode cL_law 609 = .ok (.aload_n 1, 1) := by decide +kernel
theorem dL_law_610 : decode cL_law 610 = .ok (.aload_n 0, 1) := by decide +kernel
theorem dL_law_611 : decode cL_law 611 = .ok (.iload_n 3, 1) := by decide +kernel
theorem dL_law_612 : decode cL_law 612 = .ok (.iconst 1, 1) := by decide +kernel
theorem dL_law_613 : decode cL_law 613 = .ok (.iadd, 1) := by decide +kernel
theorem dL_law_614 : decode cL_law 614 = .ok (.iaload, 1) := by decide +kernel
theorem dL_law_615 : decode cL_law 615 = .ok (.aload_n 0, 1) := by decide +kernel
theorem dL_law_616 : decode cL_law 616 = .ok (.iload_n 3, 1) := by decide +kernel
theorem dL_law_617 : decode cL_law 617 = .ok (.iconst 2, 1) := by decide +kernel
theorem dL_law_618 : decode cL_law 618 = .ok (.iadd, 1) := by decide +kernel
theorem dL_law_619 : decode cL_law 619 = .ok (.iaload, 1) := by decide +kernel
theorem dL_law_620 : decode cL_law 620 = .ok (.aload_n 0, 1) := by decide +kernel
theorem dL_law_621 : decode cL_law 621 = .ok (.iload_n 3, 1) := by decide +kernel
theorem dL_law_622 : decode cL_law 622 = .ok (.iconst 3, 1) := by decide +kernel
theorem dL_law_623 : decode cL_law 623 = .ok (.iadd, 1) := by decide +kernel
theorem dL_law_624 : decode cL_law 624 = .ok (.iaload, 1) := by decide +kernel
theorem dL_law_625 : decode cL_law 625 = .ok (.invokevirtual 88, 3) := by decide +kernel
theorem dL_law_628 : decode cL_law 628 = .ok (.aload_n 2, 1) := by decide +kernel
theorem dL_law_629 : decode cL_law 629 = .ok (.aload_n 0, 1) := by decide +kernel
theorem dL_law_630 : decode cL_law 630 = .ok (.iload_n 3, 1) := by decide +kernel
theorem dL_law_631 : decode cL_law 631 = .ok (.iconst 1, 1) := by decide +kernel
theorem dL_law_632 : decode cL_law 632 = .ok (.iadd, 1) := by decide +kernel
theorem dL_law_633 : decode cL_law 633 = .ok (.iaload, 1) := by decide +kernel
theorem dL_law_634 : decode cL_law 634 = .ok (.aload_n 0, 1) := by decide +kernel
theorem dL_law_635 : decode cL_law 635 = .ok (.iload_n 3, 1) := by decide +kernel
theorem dL_law_636 : decode cL_law 636 = .ok (.iconst 2, 1) := by decide +kernel
theorem dL_law_637 : decode cL_law 637 = .ok (.iadd, 1) := by decide +kernel
theorem dL_law_638 : decode cL_law 638 = .ok (.iaload, 1) := by decide +kernel
theorem dL_law_639 : decode cL_law 639 = .ok (.aload_n 0, 1) := by decide +kernel
theorem dL_law_640 : decode cL_law 640 = .ok (.iload_n 3, 1) := by decide +kernel
theorem dL_law_641 : decode cL_law 641 = .ok (.iconst 3, 1) := by decide +kernel
theorem dL_law_642 : decode cL_law 642 = .ok (.iadd, 1) := by decide +kernel
theorem dL_law_643 : decode cL_law 643 = .ok (.iaload, 1) := by decide +kernel
theorem dL_law_644 : decode cL_law 644 = .ok (.invokevirtual 92, 3) := by decide +kernel
theorem dL_law_647 : decode cL_law 647 = .ok (.if_icmp .eq 266, 3) := by decide +kernel
theorem dL_law_650 : decode cL_law 650 = .ok (.iconst 0, 1) := by decide +kernel
theorem dL_law_651 : decode cL_law 651 = .ok (.ireturn, 1) := by decide +kernel
theorem dL_law_652 : decode cL_law 652 = .ok (.aload_n 1, 1) := by decide +kernel
theorem dL_law_653 : decode cL_law 653 = .ok (.aload_n 0, 1) := by decide +kernel
theorem dL_law_654 : decode cL_law 654 = .ok (.iload_n 3, 1) := by decide +kernel
theorem dL_law_655 : decode cL_law 655 = .ok (.iconst 1, 1) := by decide +kernel
theorem dL_law_656 : decode cL_law 656 = .ok (.iadd, 1) := by decide +kernel
theorem dL_law_657 : decode cL_law 657 = .ok (.iaload, 1) := by decide +kernel
theorem dL_law_658 : decode cL_law 658 = .ok (.aload_n 0, 1) := by decide +kernel
theorem dL_law_659 : decode cL_law 659 = .ok (.iload_n 3, 1) := by decide +kernel
theorem dL_law_660 : decode cL_law 660 = .ok (.iconst 2, 1) := by decide +kernel
theorem dL_law_661 : decode cL_law 661 = .ok (.iadd, 1) := by decide +kernel
theorem dL_law_662 : decode cL_law 662 = .ok (.iaload, 1) := by decide +kernel
theorem dL_law_663 : decode cL_law 663 = .ok (.aload_n 0, 1) := by decide +kernel
theorem dL_law_664 : decode cL_law 664 = .ok (.iload_n 3, 1) := by decide +kernel
theorem dL_law_665 : decode cL_law 665 = .ok (.iconst 3, 1) := by decide +kernel
theorem dL_law_666 : decode cL_law 666 = .ok (.iadd, 1) := by decide +kernel
theorem dL_law_667 : decode cL_law 667 = .ok (.iaload, 1) := by decide +kernel
theorem dL_law_668 : decode cL_law 668 = .ok (.invokevirtual 93, 3) := by decide +kernel
theorem dL_law_671 : decode cL_law 671 = .ok (.aload_n 2, 1) := by decide +kernel
theorem dL_law_672 : decode cL_law 672 = .ok (.aload_n 0, 1) := by decide +kernel
theorem dL_law_673 : decode cL_law 673 = .ok (.iload_n 3, 1) := by decide +kernel
theorem dL_law_674 : decode cL_law 674 = .ok (.iconst 1, 1) := by decide +kernel
theorem dL_law_675 : decode cL_law 675 = .ok (.iadd, 1) := by decide +kernel
theorem dL_law_676 : decode cL_law 676 = .ok (.iaload, 1) := by decide +kernel
theorem dL_law_677 : decode cL_law 677 = .ok (.aload_n 0, 1) := by decide +kernel
theorem dL_law_678 : decode cL_law 678 = .ok (.iload_n 3, 1) := by decide +kernel
theorem dL_law_679 : decode cL_law 679 = .ok (.iconst 2, 1) := by decide +kernel
theorem dL_law_680 : decode cL_law 680 = .ok (.iadd, 1) := by decide +kernel
theorem dL_law_681 : decode cL_law 681 = .ok (.iaload, 1) := by decide +kernel
theorem dL_law_682 : decode cL_law 682 = .ok (.aload_n 0, 1) := by decide +kernel
theorem dL_law_683 : decode cL_law 683 = .ok (.iload_n 3, 1) := by decide +kernel
theorem dL_law_684 : decode cL_law 684 = .ok (.iconst 3, 1) := by decide +kernel
theorem dL_law_685 : decode cL_law 685 = .ok (.iadd, 1) := by decide +kernel
theorem dL_law_686 : decode cL_law 686 = .ok (.iaload, 1) := by decide +kernel
theorem dL_law_687 : decode cL_law 687 = .ok (.invokevirtual 96, 3) := by decide +kernel
theorem dL_law_690 : decode cL_law 690 = .ok (.if_icmp .eq 223, 3) := by decide +kernel
theorem dL_law_693 : decode cL_law 693 = .ok (.iconst 0, 1) := by decide +kernel
theorem dL_law_694 : decode cL_law 694 = .ok (.ireturn, 1) := by decide +kernel
theorem dL_law_695 : decode cL_law 695 = .ok (.aload_n 1, 1) := by decide +kernel
theorem dL_law_696 : decode cL_law 696 = .ok (.aload_n 0, 1) := by decide +kernel
theorem dL_law_697 : decode cL_law 697 = .ok (.iload_n 3, 1) := by decide +kernel
theorem dL_law_698 : decode cL_law 698 = .ok (.iconst 1, 1) := by decide +kernel
theorem dL_law_699 : decode cL_law 699 = .ok (.iadd, 1) := by decide +kernel
theorem dL_law_700 : decode cL_law 700 = .ok (.iaload, 1) := by decide +kernel
theorem dL_law_701 : decode cL_law 701 = .ok (.aload_n 0, 1) := by decide +kernel
theorem dL_law_702 : decode cL_law 702 = .ok (.iload_n 3, 1) := by decide +kernel
theorem dL_law_703 : decode cL_law 703 = .ok (.iconst 2, 1) := by decide +kernel
theorem dL_law_704 : decode cL_law 704 = .ok (.iadd, 1) := by decide +kernel
theorem dL_law_705 : decode cL_law 705 = .ok (.iaload, 1) := by decide +kernel
theorem dL_law_706 : decode cL_law 706 = .ok (.invokevirtual 97, 3) := by decide +kernel
theorem dL_law_709 : decode cL_law 709 = .ok (.aload_n 2, 1) := by decide +kernel
theorem dL_law_710 : decode cL_law 710 = .ok (.aload_n 0, 1) := by decide +kernel
theorem dL_law_711 : decode cL_law 711 = .ok (.iload_n 3, 1) := by decide +kernel
theorem dL_law_712 : decode cL_law 712 = .ok (.iconst 1, 1) := by decide +kernel
theorem dL_law_713 : decode cL_law 713 = .ok (.iadd, 1) := by decide +kernel
theorem dL_law_714 : decode cL_law 714 = .ok (.iaload, 1) := by decide +kernel
theorem dL_law_715 : decode cL_law 715 = .ok (.aload_n 0, 1) := by decide +kernel
theorem dL_law_716 : decode cL_law 716 = .ok (.iload_n 3, 1) := by decide +kernel
theorem dL_law_717 : decode cL_law 717 = .ok (.iconst 2, 1) := by decide +kernel
theorem dL_law_718 : decode cL_law 718 = .ok (.iadd, 1) := by decide +kernel
theorem dL_law_719 : decode cL_law 719 = .ok (.iaload, 1) := by decide +kernel
theorem dL_law_720 : decode cL_law 720 = .ok (.invokevirtual 100, 3) := by decide +kernel
theorem dL_law_723 : decode cL_law 723 = .ok (.if_icmp .eq 190, 3) := by decide +kernel
theorem dL_law_726 : decode cL_law 726 = .ok (.iconst 0, 1) := by decide +kernel
theorem dL_law_727 : decode cL_law 727 = .ok (.ireturn, 1) := by decide +kernel
theorem dL_law_728 : decode cL_law 728 = .ok (.aload_n 1, 1) := by decide +kernel
theorem dL_law_729 : decode cL_law 729 = .ok (.aload_n 0, 1) := by decide +kernel
theorem dL_law_730 : decode cL_law 730 = .ok (.iload_n 3, 1) := by decide +kernel
theorem dL_law_731 : decode cL_law 731 = .ok (.iconst 1, 1) := by decide +kernel
theorem dL_law_732 : decode cL_law 732 = .ok (.iadd, 1) := by decide +kernel
theorem dL_law_733 : decode cL_law 733 = .ok (.iaload, 1) := by decide +kernel
theorem dL_law_734 : decode cL_law 734 = .ok (.aload_n 0, 1) := by decide +kernel
theorem dL_law_735 : decode cL_law 735 = .ok (.iload_n 3, 1) := by decide +kernel
theorem dL_law_736 : decode cL_law 736 = .ok (.iconst 2, 1) := by decide +kernel
theorem dL_law_737 : decode cL_law 737 = .ok (.iadd, 1) := by decide +kernel
theorem dL_law_738 : decode cL_law 738 = .ok (.iaload, 1) := by decide +kernel
theorem dL_law_739 : decode cL_law 739 = .ok (.invokevirtual 101, 3) := by decide +kernel
theorem dL_law_742 : decode cL_law 742 = .ok (.aload_n 2, 1) := by decide +kernel
theorem dL_law_743 : decode cL_law 743 = .ok (.aload_n 0, 1) := by decide +kernel
theorem dL_law_744 : decode cL_law 744 = .ok (.iload_n 3, 1) := by decide +kernel
theorem dL_law_745 : decode cL_law 745 = .ok (.iconst 1, 1) := by decide +kernel
theorem dL_law_746 : decode cL_law 746 = .ok (.iadd, 1) := by decide +kernel
theorem dL_law_747 : decode cL_law 747 = .ok (.iaload, 1) := by decide +kernel
theorem dL_law_748 : decode cL_law 748 = .ok (.aload_n 0, 1) := by decide +kernel
theorem dL_law_749 : decode cL_law 749 = .ok (.iload_n 3, 1) := by decide +kernel
theorem dL_law_750 : decode cL_law 750 = .ok (.iconst 2, 1) := by decide +kernel
theorem dL_law_751 : decode cL_law 751 = .ok (.iadd, 1) := by decide +kernel
theorem dL_law_752 : decode cL_law 752 = .ok (.iaload, 1) := by decide +kernel
theorem dL_law_753 : decode cL_law 753 = .ok (.invokevirtual 104, 3) := by decide +kernel
theorem dL_law_756 : decode cL_law 756 = .ok (.if_icmp .eq 157, 3) := by decide +kernel
theorem dL_law_759 : decode cL_law 759 = .ok (.iconst 0, 1) := by decide +kernel
theorem dL_law_760 : decode cL_law 760 = .ok (.ireturn, 1) := by decide +kernel
theorem dL_law_761 : decode cL_law 761 = .ok (.aload_n 1, 1) := by decide +kernel
theorem dL_law_762 : decode cL_law 762 = .ok (.aload_n 0, 1) := by decide +kernel
theorem dL_law_763 : decode cL_law 763 = .ok (.iload_n 3, 1) := by decide +kernel
theorem dL_law_764 : decode cL_law 764 = .ok (.iconst 1, 1) := by decide +kernel
theorem dL_law_765 : decode cL_law 765 = .ok (.iadd, 1) := by decide +kernel
theorem dL_law_766 : decode cL_law 766 = .ok (.iaload, 1) := by decide +kernel
theorem dL_law_767 : decode cL_law 767 = .ok (.aload_n 0, 1) := by decide +kernel
theorem dL_law_768 : decode cL_law 768 = .ok (.iload_n 3, 1) := by decide +kernel
theorem dL_law_769 : decode cL_law 769 = .ok (.iconst 2, 1) := by decide +kernel
theorem dL_law_770 : decode cL_law 770 = .ok (.iadd, 1) := by decide +kernel
theorem dL_law_771 : decode cL_law 771 = .ok (.iaload, 1) := by decide +kernel
theorem dL_law_772 : decode cL_law 772 = .ok (.invokevirtual 105, 3) := by decide +kernel
theorem dL_law_775 : decode cL_law 775 = .ok (.aload_n 2, 1) := by decide +kernel
theorem dL_law_776 : decode cL_law 776 = .ok (.aload_n 0, 1) := by decide +kernel
theorem dL_law_777 : decode cL_law 777 = .ok (.iload_n 3, 1) := by decide +kernel
theorem dL_law_778 : decode cL_law 778 = .ok (.iconst 1, 1) := by decide +kernel
theorem dL_law_779 : decode cL_law 779 = .ok (.iadd, 1) := by decide +kernel
theorem dL_law_780 : decode cL_law 780 = .ok (.iaload, 1) := by decide +kernel
theorem dL_law_781 : decode cL_law 781 = .ok (.aload_n 0, 1) := by decide +kernel
theorem dL_law_782 : decode cL_law 782 = .ok (.iload_n 3, 1) := by decide +kernel
theorem dL_law_783 : decode cL_law 783 = .ok (.iconst 2, 1) := by decide +kernel
theorem dL_law_784 : decode cL_law 784 = .ok (.iadd, 1) := by decide +kernel
theorem dL_law_785 : decode cL_law 785 = .ok (.iaload, 1) := by decide +kernel
theorem dL_law_786 : decode cL_law 786 = .ok (.invokevirtual 108, 3) := by decide +kernel
theorem dL_law_789 : decode cL_law 789 = .ok (.if_icmp .eq 124, 3) := by decide +kernel
theorem dL_law_792 : decode cL_law 792 = .ok (.iconst 0, 1) := by decide +kernel
theorem dL_law_793 : decode cL_law 793 = .ok (.ireturn, 1) := by decide +kernel
theorem dL_law_794 : decode cL_law 794 = .ok (.aload_n 1, 1) := by decide +kernel
theorem dL_law_795 : decode cL_law 795 = .ok (.aload_n 0, 1) := by decide +kernel
theorem dL_law_796 : decode cL_law 796 = .ok (.iload_n 3, 1) := by decide +kernel
theorem dL_law_797 : decode cL_law 797 = .ok (.iconst 1, 1) := by decide +kernel
theorem dL_law_798 : decode cL_law 798 = .ok (.iadd, 1) := by decide +kernel
theorem dL_law_799 : decode cL_law 799 = .ok (.iaload, 1) := by decide +kernel
theorem dL_law_800 : decode cL_law 800 = .ok (.aload_n 0, 1) := by decide +kernel
theorem dL_law_801 : decode cL_law 801 = .ok (.iload_n 3, 1) := by decide +kernel
theorem dL_law_802 : decode cL_law 802 = .ok (.iconst 2, 1) := by decide +kernel
theorem dL_law_803 : decode cL_law 803 = .ok (.iadd, 1) := by decide +kernel
theorem dL_law_804 : decode cL_law 804 = .ok (.iaload, 1) := by decide +kernel
theorem dL_law_805 : decode cL_law 805 = .ok (.invokevirtual 109, 3) := by decide +kernel
theorem dL_law_808 : decode cL_law 808 = .ok (.aload_n 2, 1) := by decide +kernel
theorem dL_law_809 : decode cL_law 809 = .ok (.aload_n 0, 1) := by decide +kernel
theorem dL_law_810 : decode cL_law 810 = .ok (.iload_n 3, 1) := by decide +kernel
theorem dL_law_811 : decode cL_law 811 = .ok (.iconst 1, 1) := by decide +kernel
theorem dL_law_812 : decode cL_law 812 = .ok (.iadd, 1) := by decide +kernel
theorem dL_law_813 : decode cL_law 813 = .ok (.iaload, 1) := by decide +kernel
theorem dL_law_814 : decode cL_law 814 = .ok (.aload_n 0, 1) := by decide +kernel
theorem dL_law_815 : decode cL_law 815 = .ok (.iload_n 3, 1) := by decide +kernel
theorem dL_law_816 : decode cL_law 816 = .ok (.iconst 2, 1) := by decide +kernel
theorem dL_law_817 : decode cL_law 817 = .ok (.iadd, 1) := by decide +kernel
theorem dL_law_818 : decode cL_law 818 = .ok (.iaload, 1) := by decide +kernel
theorem dL_law_819 : decode cL_law 819 = .ok (.invokevirtual 112, 3) := by decide +kernel
theorem dL_law_822 : decode cL_law 822 = .ok (.if_icmp .eq 91, 3) := by decide +kernel
theorem dL_law_825 : decode cL_law 825 = .ok (.iconst 0, 1) := by decide +kernel
theorem dL_law_826 : decode cL_law 826 = .ok (.ireturn, 1) := by decide +kernel
theorem dL_law_827 : decode cL_law 827 = .ok (.aload_n 1, 1) := by decide +kernel
theorem dL_law_828 : decode cL_law 828 = .ok (.aload_n 0, 1) := by decide +kernel
theorem dL_law_829 : decode cL_law 829 = .ok (.iload_n 3, 1) := by decide +kernel
theorem dL_law_830 : decode cL_law 830 = .ok (.iconst 1, 1) := by decide +kernel
theorem dL_law_831 : decode cL_law 831 = .ok (.iadd, 1) := by decide +kernel
theorem dL_law_832 : decode cL_law 832 = .ok (.iaload, 1) := by decide +kernel
theorem dL_law_833 : decode cL_law 833 = .ok (.aload_n 0, 1) := by decide +kernel
theorem dL_law_834 : decode cL_law 834 = .ok (.iload_n 3, 1) := by decide +kernel
theorem dL_law_835 : decode cL_law 835 = .ok (.iconst 2, 1) := by decide +kernel
theorem dL_law_836 : decode cL_law 836 = .ok (.iadd, 1) := by decide +kernel
theorem dL_law_837 : decode cL_law 837 = .ok (.iaload, 1) := by decide +kernel
theorem dL_law_838 : decode cL_law 838 = .ok (.aload_n 0, 1) := by decide +kernel
theorem dL_law_839 : decode cL_law 839 = .ok (.iload_n 3, 1) := by decide +kernel
theorem dL_law_840 : decode cL_law 840 = .ok (.iconst 3, 1) := by decide +kernel
theorem dL_law_841 : decode cL_law 841 = .ok (.iadd, 1) := by decide +kernel
theorem dL_law_842 : decode cL_law 842 = .ok (.iaload, 1) := by decide +kernel
theorem dL_law_843 : decode cL_law 843 = .ok (.invokevirtual 113, 3) := by decide +kernel
theorem dL_law_846 : decode cL_law 846 = .ok (.aload_n 2, 1) := by decide +kernel
theorem dL_law_847 : decode cL_law 847 = .ok (.aload_n 0, 1) := by decide +kernel
theorem dL_law_848 : decode cL_law 848 = .ok (.iload_n 3, 1) := by decide +kernel
theorem dL_law_849 : decode cL_law 849 = .ok (.iconst 1, 1) := by decide +kernel
theorem dL_law_850 : decode cL_law 850 = .ok (.iadd, 1) := by decide +kernel
theorem dL_law_851 : decode cL_law 851 = .ok (.iaload, 1) := by decide +kernel
theorem dL_law_852 : decode cL_law 852 = .ok (.aload_n 0, 1) := by decide +kernel
theorem dL_law_853 : decode cL_law 853 = .ok (.iload_n 3, 1) := by decide +kernel
theorem dL_law_854 : decode cL_law 854 = .ok (.iconst 2, 1) := by decide +kernel
theorem dL_law_855 : decode cL_law 855 = .ok (.iadd, 1) := by decide +kernel
theorem dL_law_856 : decode cL_law 856 = .ok (.iaload, 1) := by decide +kernel
theorem dL_law_857 : decode cL_law 857 = .ok (.aload_n 0, 1) := by decide +kernel
theorem dL_law_858 : decode cL_law 858 = .ok (.iload_n 3, 1) := by decide +kernel
theorem dL_law_859 : decode cL_law 859 = .ok (.iconst 3, 1) := by decide +kernel
theorem dL_law_860 : decode cL_law 860 = .ok (.iadd, 1) := by decide +kernel
theorem dL_law_861 : decode cL_law 861 = .ok (.iaload, 1) := by decide +kernel
theorem dL_law_862 : decode cL_law 862 = .ok (.invokevirtual 116, 3) := by decide +kernel
theorem dL_law_865 : decode cL_law 865 = .ok (.if_icmp .eq 48, 3) := by decide +kernel
theorem dL_law_868 : decode cL_law 868 = .ok (.iconst 0, 1) := by decide +kernel
theorem dL_law_869 : decode cL_law 869 = .ok (.ireturn, 1) := by decide +kernel
theorem dL_law_870 : decode cL_law 870 = .ok (.aload_n 1, 1) := by decide +kernel
theorem dL_law_871 : decode cL_law 871 = .ok (.aload_n 0, 1) := by decide +kernel
theorem dL_law_872 : decode cL_law 872 = .ok (.iload_n 3, 1) := by decide +kernel
theorem dL_law_873 : decode cL_law 873 = .ok (.iconst 1, 1) := by decide +kernel
theorem dL_law_874 : decode cL_law 874 = .ok (.iadd, 1) := by decide +kernel
theorem dL_law_875 : decode cL_law 875 = .ok (.iaload, 1) := by decide +kernel
theorem dL_law_876 : decode cL_law 876 = .ok (.aload_n 0, 1) := by decide +kernel
theorem dL_law_877 : decode cL_law 877 = .ok (.iload_n 3, 1) := by decide +kernel
theorem dL_law_878 : decode cL_law 878 = .ok (.iconst 2, 1) := by decide +kernel
theorem dL_law_879 : decode cL_law 879 = .ok (.iadd, 1) := by decide +kernel
theorem dL_law_880 : decode cL_law 880 = .ok (.iaload, 1) := by decide +kernel
theorem dL_law_881 : decode cL_law 881 = .ok (.aload_n 0, 1) := by decide +kernel
theorem dL_law_882 : decode cL_law 882 = .ok (.iload_n 3, 1) := by decide +kernel
theorem dL_law_883 : decode cL_law 883 = .ok (.iconst 3, 1) := by decide +kernel
theorem dL_law_884 : decode cL_law 884 = .ok (.iadd, 1) := by decide +kernel
theorem dL_law_885 : decode cL_law 885 = .ok (.iaload, 1) := by decide +kernel
theorem dL_law_886 : decode cL_law 886 = .ok (.invokevirtual 117, 3) := by decide +kernel
theorem dL_law_889 : decode cL_law 889 = .ok (.aload_n 2, 1) := by decide +kernel
theorem dL_law_890 : decode cL_law 890 = .ok (.aload_n 0, 1) := by decide +kernel
theorem dL_law_891 : decode cL_law 891 = .ok (.iload_n 3, 1) := by decide +kernel
theorem dL_law_892 : decode cL_law 892 = .ok (.iconst 1, 1) := by decide +kernel
theorem dL_law_893 : decode cL_law 893 = .ok (.iadd, 1) := by decide +kernel
theorem dL_law_894 : decode cL_law 894 = .ok (.iaload, 1) := by decide +kernel
theorem dL_law_895 : decode cL_law 895 = .ok (.aload_n 0, 1) := by decide +kernel
theorem dL_law_896 : decode cL_law 896 = .ok (.iload_n 3, 1) := by decide +kernel
theorem dL_law_897 : decode cL_law 897 = .ok (.iconst 2, 1) := by decide +kernel
theorem dL_law_898 : decode cL_law 898 = .ok (.iadd, 1) := by decide +kernel
theorem dL_law_899 : decode cL_law 899 = .ok (.iaload, 1) := by decide +kernel
theorem dL_law_900 : decode cL_law 900 = .ok (.aload_n 0, 1) := by decide +kernel
theorem dL_law_901 : decode cL_law 901 = .ok (.iload_n 3, 1) := by decide +kernel
theorem dL_law_902 : decode cL_law 902 = .ok (.iconst 3, 1) := by decide +kernel
theorem dL_law_903 : decode cL_law 903 = .ok (.iadd, 1) := by decide +kernel
theorem dL_law_904 : decode cL_law 904 = .ok (.iaload, 1) := by decide +kernel
theorem dL_law_905 : decode cL_law 905 = .ok (.invokevirtual 120, 3) := by decide +kernel
theorem dL_law_908 : decode cL_law 908 = .ok (.if_icmp .eq 5, 3) := by decide +kernel
theorem dL_law_911 : decode cL_law 911 = .ok (.iconst 0, 1) := by decide +kernel
theorem dL_law_912 : decode cL_law 912 = .ok (.ireturn, 1) := by decide +kernel
theorem dL_law_913 : decode cL_law 913 = .ok (.iinc 3 6, 3) := by decide +kernel
theorem dL_law_916 : decode cL_law 916 = .ok (.goto (-898), 3) := by decide +kernel
theorem dL_law_919 : decode cL_law 919 = .ok (.iconst 1, 1) := by decide +kernel
theorem dL_law_920 : decode cL_law 920 = .ok (.ireturn, 1) := by decide +kernel
theorem dJ6_bitCount_0f7a4_0 : decode cJ6_bitCount_0f7a4 0 = .ok (.iload_n 0, 1) := by decide +kernel
theorem dJ6_bitCount_0f7a4_1 : decode cJ6_bitCount_0f7a4 1 = .ok (.iload_n 0, 1) := by decide +kernel
theorem dJ6_bitCount_0f7a4_2 : decode cJ6_bitCount_0f7a4 2 = .ok (.iconst 1, 1) := by decide +kernel
theorem dJ6_bitCount_0f7a4_3 : decode cJ6_bitCount_0f7a4 3 = .ok (.iushr, 1) := by decide +kernel
theorem dJ6_bitCount_0f7a4_4 : decode cJ6_bitCount_0f7a4 4 = .ok (.ldc_w 265, 3) := by decide +kernel
theorem dJ6_bitCount_0f7a4_7 : decode cJ6_bitCount_0f7a4 7 = .ok (.iand, 1) := by decide +kernel
theorem dJ6_bitCount_0f7a4_8 : decode cJ6_bitCount_0f7a4 8 = .ok (.isub, 1) := by decide +kernel
theorem dJ6_bitCount_0f7a4_9 : decode cJ6_bitCount_0f7a4 9 = .ok (.istore_n 0, 1) := by decide +kernel
theorem dJ6_bitCount_0f7a4_10 : decode cJ6_bitCount_0f7a4 10 = .ok (.iload_n 0, 1) := by decide +kernel
theorem dJ6_bitCount_0f7a4_11 : decode cJ6_bitCount_0f7a4 11 = .ok (.ldc_w 266, 3) := by decide +kernel
theorem dJ6_bitCount_0f7a4_14 : decode cJ6_bitCount_0f7a4 14 = .ok (.iand, 1) := by decide +kernel
theorem dJ6_bitCount_0f7a4_15 : decode cJ6_bitCount_0f7a4 15 = .ok (.iload_n 0, 1) := by decide +kernel
theorem dJ6_bitCount_0f7a4_16 : decode cJ6_bitCount_0f7a4 16 = .ok (.iconst 2, 1) := by decide +kernel
theorem dJ6_bitCount_0f7a4_17 : decode cJ6_bitCount_0f7a4 17 = .ok (.iushr, 1) := by decide +kernel
theorem dJ6_bitCount_0f7a4_18 : decode cJ6_bitCount_0f7a4 18 = .ok (.ldc_w 266, 3) := by decide +kernel
theorem dJ6_bitCount_0f7a4_21 : decode cJ6_bitCount_0f7a4 21 = .ok (.iand, 1) := by decide +kernel
theorem dJ6_bitCount_0f7a4_22 : decode cJ6_bitCount_0f7a4 22 = .ok (.iadd, 1) := by decide +kernel
theorem dJ6_bitCount_0f7a4_23 : decode cJ6_bitCount_0f7a4 23 = .ok (.istore_n 0, 1) := by decide +kernel
theorem dJ6_bitCount_0f7a4_24 : decode cJ6_bitCount_0f7a4 24 = .ok (.iload_n 0, 1) := by decide +kernel
theorem dJ6_bitCount_0f7a4_25 : decode cJ6_bitCount_0f7a4 25 = .ok (.iload_n 0, 1) := by decide +kernel
theorem dJ6_bitCount_0f7a4_26 : decode cJ6_bitCount_0f7a4 26 = .ok (.iconst 4, 1) := by decide +kernel
theorem dJ6_bitCount_0f7a4_27 : decode cJ6_bitCount_0f7a4 27 = .ok (.iushr, 1) := by decide +kernel
theorem dJ6_bitCount_0f7a4_28 : decode cJ6_bitCount_0f7a4 28 = .ok (.iadd, 1) := by decide +kernel
theorem dJ6_bitCount_0f7a4_29 : decode cJ6_bitCount_0f7a4 29 = .ok (.ldc_w 267, 3) := by decide +kernel
theorem dJ6_bitCount_0f7a4_32 : decode cJ6_bitCount_0f7a4 32 = .ok (.iand, 1) := by decide +kernel
theorem dJ6_bitCount_0f7a4_33 : decode cJ6_bitCount_0f7a4 33 = .ok (.istore_n 0, 1) := by decide +kernel
theorem dJ6_bitCount_0f7a4_34 : decode cJ6_bitCount_0f7a4 34 = .ok (.iload_n 0, 1) := by decide +kernel
theorem dJ6_bitCount_0f7a4_35 : decode cJ6_bitCount_0f7a4 35 = .ok (.iload_n 0, 1) := by decide +kernel
theorem dJ6_bitCount_0f7a4_36 : decode cJ6_bitCount_0f7a4 36 = .ok (.bipush 8, 2) := by decide +kernel
theorem dJ6_bitCount_0f7a4_38 : decode cJ6_bitCount_0f7a4 38 = .ok (.iushr, 1) := by decide +kernel
theorem dJ6_bitCount_0f7a4_39 : decode cJ6_bitCount_0f7a4 39 = .ok (.iadd, 1) := by decide +kernel
theorem dJ6_bitCount_0f7a4_40 : decode cJ6_bitCount_0f7a4 40 = .ok (.istore_n 0, 1) := by decide +kernel
theorem dJ6_bitCount_0f7a4_41 : decode cJ6_bitCount_0f7a4 41 = .ok (.iload_n 0, 1) := by decide +kernel
theorem dJ6_bitCount_0f7a4_42 : decode cJ6_bitCount_0f7a4 42 = .ok (.iload_n 0, 1) := by decide +kernel
theorem dJ6_bitCount_0f7a4_43 : decode cJ6_bitCount_0f7a4 43 = .ok (.bipush 16, 2) := by decide +kernel
theorem dJ6_bitCount_0f7a4_45 : decode cJ6_bitCount_0f7a4 45 = .ok (.iushr, 1) := by decide +kernel
theorem dJ6_bitCount_0f7a4_46 : decode cJ6_bitCount_0f7a4 46 = .ok (.iadd, 1) := by decide +kernel
theorem dJ6_bitCount_0f7a4_47 : decode cJ6_bitCount_0f7a4 47 = .ok (.istore_n 0, 1) := by decide +kernel
theorem dJ6_bitCount_0f7a4_48 : decode cJ6_bitCount_0f7a4 48 = .ok (.iload_n 0, 1) := by decide +kernel
theorem dJ6_bitCount_0f7a4_49 : decode cJ6_bitCount_0f7a4 49 = .ok (.bipush 63, 2) := by decide +kernel
theorem dJ6_bitCount_0f7a4_51 : decode cJ6_bitCount_0f7a4 51 = .ok (.iand, 1) := by decide +kernel
theorem dJ6_bitCount_0f7a4_52 : decode cJ6_bitCount_0f7a4 52 = .ok (.ireturn, 1) := by decide +kernel
theorem dJ9_floorMod_7cf53_0 : decode cJ9_floorMod_7cf53 0 = .ok (.iload_n 0, 1) := by decide +kernel
theorem dJ9_floorMod_7cf53_1 : decode cJ9_floorMod_7cf53 1 = .ok (.iload_n 1, 1) := by decide +kernel
theorem dJ9_floorMod_7cf53_2 : decode cJ9_floorMod_7cf53 2 = .ok (.irem, 1) := by decide +kernel
theorem dJ9_floorMod_7cf53_3 : decode cJ9_floorMod_7cf53 3 = .ok (.istore_n 2, 1) := by decide +kernel
theorem dJ9_floorMod_7cf53_4 : decode cJ9_floorMod_7cf53 4 = .ok (.iload_n 0, 1) := by decide +kernel
theorem dJ9_floorMod_7cf53_5 : decode cJ9_floorMod_7cf53 5 = .ok (.iload_n 1, 1) := by decide +kernel
theorem dJ9_floorMod_7cf53_6 : decode cJ9_floorMod_7cf53 6 = .ok (.ixor, 1) := by decide +kernel
theorem dJ9_floorMod_7cf53_7 : decode cJ9_floorMod_7cf53 7 = .ok (.ifCond .ge 11, 3) := by decide +kernel
theorem dJ9_floorMod_7cf53_10 : decode cJ9_floorMod_7cf53 10 = .ok (.iload_n 2, 1) := by decide +kernel
theorem dJ9_floorMod_7cf53_11 : decode cJ9_floorMod_7cf53 11 = .ok (.ifCond .eq 7, 3) := by decide +kernel
theorem dJ9_floorMod_7cf53_14 : decode cJ9_floorMod_7cf53 14 = .ok (.iload_n 2, 1) := by decide +kernel
theorem dJ9_floorMod_7cf53_15 : decode cJ9_floorMod_7cf53 15 = .ok (.iload_n 1, 1) := by decide +kernel
theorem dJ9_floorMod_7cf53_16 : decode cJ9_floorMod_7cf53 16 = .ok (.iadd, 1) := by decide +kernel
theorem dJ9_floorMod_7cf53_17 : decode cJ9_floorMod_7cf53 17 = .ok (.ireturn, 1) := by decide +kernel
theorem dJ9_floorMod_7cf53_18 : decode cJ9_floorMod_7cf53 18 = .ok (.iload_n 2, 1) := by decide +kernel
theorem dJ9_floorMod_7cf53_19 : decode cJ9_floorMod_7cf53 19 = .ok (.ireturn, 1) := by decide +kernel
theorem dJ9_max_7cf53_0 : decode cJ9_max_7cf53 0 = .ok (.iload_n 0, 1) := by decide +kernel
theorem dJ9_max_7cf53_1 : decode cJ9_max_7cf53 1 = .ok (.iload_n 1, 1) := by decide +kernel
theorem dJ9_max_7cf53_2 : decode cJ9_max_7cf53 2 = .ok (.if_icmp .lt 7, 3) := by decide +kernel
theorem dJ9_max_7cf53_5 : decode cJ9_max_7cf53 5 = .ok (.iload_n 0, 1) := by decide +kernel
theorem dJ9_max_7cf53_6 : decode cJ9_max_7cf53 6 = .ok (.goto 4, 3) := by decide +kernel
theorem dJ9_max_7cf53_9 : decode cJ9_max_7cf53 9 = .ok (.iload_n 1, 1) := by decide +kernel
theorem dJ9_max_7cf53_10 : decode cJ9_max_7cf53 10 = .ok (.ireturn, 1) := by decide +kernel
theorem dJ7_fill_d0a16_0 : decode cJ7_fill_d0a16 0 = .ok (.iconst 0, 1) := by decide +kernel
theorem dJ7_fill_d0a16_1 : decode cJ7_fill_d0a16 1 = .ok (.istore_n 3, 1) := by decide +kernel
theorem dJ7_fill_d0a16_2 : decode cJ7_fill_d0a16 2 = .ok (.aload_n 0, 1) := by decide +kernel
theorem dJ7_fill_d0a16_3 : decode cJ7_fill_d0a16 3 = .ok (.arraylength, 1) := by decide +kernel
theorem dJ7_fill_d0a16_4 : decode cJ7_fill_d0a16 4 = .ok (.istore 4, 2) := by decide +kernel
theorem dJ7_fill_d0a16_6 : decode cJ7_fill_d0a16 6 = .ok (.iload_n 3, 1) := by decide +kernel
theorem dJ7_fill_d0a16_7 : decode cJ7_fill_d0a16 7 = .ok (.iload 4, 2) := by decide +kernel
theorem dJ7_fill_d0a16_9 : decode cJ7_fill_d0a16 9 = .ok (.if_icmp .ge 13, 3) := by decide +kernel
theorem dJ7_fill_d0a16_12 : decode cJ7_fill_d0a16 12 = .ok (.aload_n 0, 1) := by decide +kernel
theorem dJ7_fill_d0a16_13 : decode cJ7_fill_d0a16 13 = .ok (.iload_n 3, 1) := by decide +kernel
theorem dJ7_fill_d0a16_14 : decode cJ7_fill_d0a16 14 = .ok (.lload_n 1, 1) := by decide +kernel
theorem dJ7_fill_d0a16_15 : decode cJ7_fill_d0a16 15 = .ok (.lastore, 1) := by decide +kernel
theorem dJ7_fill_d0a16_16 : decode cJ7_fill_d0a16 16 = .ok (.iinc 3 1, 3) := by decide +kernel
theorem dJ7_fill_d0a16_19 : decode cJ7_fill_d0a16 19 = .ok (.goto (-13), 3) := by decide +kernel
theorem dJ7_fill_d0a16_22 : decode cJ7_fill_d0a16 22 = .ok (.return_, 1) := by decide +kernel
theorem dJ7_fill_53178_0 : decode cJ7_fill_53178 0 = .ok (.iconst 0, 1) := by decide +kernel
theorem dJ7_fill_53178_1 : decode cJ7_fill_53178 1 = .ok (.istore_n 2, 1) := by decide +kernel
theorem dJ7_fill_53178_2 : decode cJ7_fill_53178 2 = .ok (.aload_n 0, 1) := by decide +kernel
theorem dJ7_fill_53178_3 : decode cJ7_fill_53178 3 = .ok (.arraylength, 1) := by decide +kernel
theorem dJ7_fill_53178_4 : decode cJ7_fill_53178 4 = .ok (.istore_n 3, 1) := by decide +kernel
theorem dJ7_fill_53178_5 : decode cJ7_fill_53178 5 = .ok (.iload_n 2, 1) := by decide +kernel
theorem dJ7_fill_53178_6 : decode cJ7_fill_53178 6 = .ok (.iload_n 3, 1) := by decide +kernel
theorem dJ7_fill_53178_7 : decode cJ7_fill_53178 7 = .ok (.if_icmp .ge 13, 3) := by decide +kernel
theorem dJ7_fill_53178_10 : decode cJ7_fill_53178 10 = .ok (.aload_n 0, 1) := by decide +kernel
theorem dJ7_fill_53178_11 : decode cJ7_fill_53178 11 = .ok (.iload_n 2, 1) := by decide +kernel
theorem dJ7_fill_53178_12 : decode cJ7_fill_53178 12 = .ok (.iload_n 1, 1) := by decide +kernel
theorem dJ7_fill_53178_13 : decode cJ7_fill_53178 13 = .ok (.iastore, 1) := by decide +kernel
theorem dJ7_fill_53178_14 : decode cJ7_fill_53178 14 = .ok (.iinc 2 1, 3) := by decide +kernel
theorem dJ7_fill_53178_17 : decode cJ7_fill_53178 17 = .ok (.goto (-12), 3) := by decide +kernel
theorem dJ7_fill_53178_20 : decode cJ7_fill_53178 20 = .ok (.return_, 1) := by decide +kernel
end
section
/-! MY MEMORY: cells by number; J the references, I the ints, L the longs of a cell, by place. Kinds: 0 int[], 1 byte[], 2 long[], 3 int[][], 4 + c an object of class c of vwCl. -/
abbrev MI : Type := Nat → Nat → Int32
abbrev ML : Type := Nat → Nat → Int64
abbrev MJ : Type := Nat → Nat → Option Nat
abbrev XT : Type := (ClassId × ClassId × ClassId × ClassId) × (Nat → Nat) × (Nat → Nat × Nat) × (Nat → Nat)
def ms {α : Type} (f : Nat → Nat → α) (k j : Nat) (v : α) : Nat → Nat → α := va_up f k (va_up (f k) j v)
theorem ms_ne {α : Type} {f : Nat → Nat → α} {k j a : Nat} {v : α} (h : a ≠ k) : ms f k j v a = f a := va_up_ne _ _ h
theorem ms_eq {α : Type} {f : Nat → Nat → α} {k j : Nat} {v : α} : ms f k j v k = va_up (f k) j v := va_up_self _ _ _
/-- what a field of a class is: 0 an int, 1 a reference, 2 an enum's constant -/
def fkd (c j : Nat) : Nat := match c with
  | 0 => 1
  | 1 => if j = 0 then 1 else 0
  | 2 => 1
  | 3 => if j = 0 then 1 else 0
  | 4 => if j = 11 then 2 else if j = 12 then 0 else 1
  | _ => if j = 0 ∨ (9 ≤ j ∧ j ≤ 13) ∨ 16 ≤ j then 1 else 0
/-- the kind of cell that a reference field holds -/
def rty (c j : Nat) : Nat := match c with
  | 0 => if j = 0 then 7 else if j = 1 then 6 else if j < 6 then 5 else if j = 6 then 3 else 0
  | 1 => 0
  | 2 => 7
  | 3 => 2
  | 4 => if j < 6 then 5 else if j = 6 then 3 else if j = 7 then 7 else if j = 8 then 6 else if j = 9 then 4 else 0
  | _ => if j = 12 ∨ 16 ≤ j then 0 else 1
def nfc (c : Nat) : Nat := match c with
  | 0 => 9
  | 1 => 3
  | 2 => 1
  | 3 => 4
  | 4 => 13
  | _ => 19
def fvl (ae ad : Nat → Nat) (J : MJ) (I : MI) (c k j : Nat) : Value := match fkd c j with
  | 0 => .int (I k j)
  | 1 => va_rf ((J k j).map ad)
  | _ => va_rf ((J k j).map ae)
def cnt (X : XT) (ad : Nat → Nat) (J : MJ) (I : MI) (L : ML) (t : Nat × Nat) (k : Nat) : va_E := match t.1 with
  | 0 => .inl (X.1.1, t.2, .inl (I k))
  | 1 => .inl (X.1.2.1, t.2, .inl (I k))
  | 2 => .inl (X.1.2.2.1, t.2, .inr (.inl (L k)))
  | 3 => .inl (X.1.2.2.2, t.2, .inr (.inr (.inr (.inr (fun j => (J k j).map ad)))))
  | c + 4 => .inr (c, (List.range (nfc c)).map (fvl X.2.1 ad J I c k))
def wd (X : XT) (ad : Nat → Nat) (n : Nat) (J : MJ) (I : MI) (L : ML) : va_W := (List.range n).map (fun k => (ad k, cnt X ad J I L (X.2.2.1 k) k))
abbrev tyl (X : XT) : List (ClassId × FieldType) := [(X.1.1, .int), (X.1.2.1, .byte), (X.1.2.2.1, .long), (X.1.2.2.2, .array .int)]
def Ty (X : XT) (n k t : Nat) : Prop := k < n ∧ (X.2.2.1 k).1 = t
def sl (X : XT) (k : Nat) : Nat := (X.2.2.1 k).2
def Wd (D : va_G) (X : XT) (ad : Nat → Nat) (n : Nat) (A : Nat → Prop) (H0 : Heap) (J : MJ) (I : MI) (L : ML) (H : Heap) (locs : List Loc) : Prop :=
  va_P D vwCl (wd X ad n J I L) H ∧ va_D A (wd X ad n J I L) ∧ va_S A H0 H locs
theorem wd_get (X : XT) (ad : Nat → Nat) (n : Nat) (J : MJ) (I : MI) (L : ML) {k : Nat} (h : k < n) : (wd X ad n J I L)[k]? = some (ad k, cnt X ad J I L (X.2.2.1 k) k) := by
  simp [wd, h]
theorem cnt_congr {X : XT} {ad : Nat → Nat} {J J' : MJ} {I I' : MI} {L L' : ML} {k : Nat} (t : Nat × Nat) (hJ : J' k = J k) (hI : I' k = I k) (hL : L' k = L k) : cnt X ad J' I' L' t k = cnt X ad J I L t k := by
  unfold cnt
  split <;> first | rw [hI] | rw [hL] | rw [hJ] | skip
  congr 2
  refine List.map_congr_left fun j _ => ?_
  unfold fvl
  rw [hI, hJ]
theorem wd_set {X : XT} {ad : Nat → Nat} {n : Nat} {J J' : MJ} {I I' : MI} {L L' : ML} {k : Nat} {e : va_E} (hk : k < n) (he : e = cnt X ad J' I' L' (X.2.2.1 k) k) (hJ : ∀ i, i ≠ k → J' i = J i) (hI : ∀ i, i ≠ k → I' i = I i) (hL : ∀ i, i ≠ k → L' i = L i) :
    (wd X ad n J I L).set k (ad k, e) = wd X ad n J' I' L' := by
  apply List.ext_getElem?
  intro i
  by_cases hi : i = k
  · subst hi
    rw [List.getElem?_set_self (by simpa [wd] using hk), wd_get X ad n J' I' L' hk, he]
  · rw [List.getElem?_set_ne (fun q => hi q.symm)]
    by_cases hn : i < n
    · rw [wd_get _ _ _ _ _ _ hn, wd_get _ _ _ _ _ _ hn, cnt_congr _ (hJ i hi) (hI i hi) (hL i hi)]
    · simp [wd, hn]
theorem wd_D {A : Nat → Prop} {X : XT} {ad : Nat → Nat} {n : Nat} {J J' : MJ} {I I' : MI} {L L' : ML} (h : va_D A (wd X ad n J I L)) : va_D A (wd X ad n J' I' L') := by
  have lt : ∀ {J : MJ} {I : MI} {L : ML} {i : Nat} {q : Nat × va_E}, (wd X ad n J I L)[i]? = some q → i < n ∧ q.1 = ad i := by
    intro J I L i q hq
    have hi : i < n := by
      have := (List.getElem?_eq_some_iff.mp hq).1
      simpa [wd] using this
    rw [wd_get _ _ _ _ _ _ hi] at hq
    cases hq
    exact ⟨hi, rfl⟩
  refine ⟨fun i j p q hp hq hpq => ?_, fun i q hq => ?_⟩
  · obtain ⟨hi, ei⟩ := lt hp
    obtain ⟨hj, ej⟩ := lt hq
    exact h.1 i j _ _ (wd_get X ad n J I L hi) (wd_get X ad n J I L hj) (by show ad i = ad j; rw [← ei, ← ej]; exact hpq)
  · obtain ⟨hi, ei⟩ := lt hq
    rw [ei]
    exact h.2 i _ (wd_get X ad n J I L hi)
theorem wd_at {X : XT} {ad : Nat → Nat} {n : Nat} {J : MJ} {I : MI} {L : ML} {k t : Nat} (h : Ty X n k t) : (wd X ad n J I L)[k]? = some (ad k, cnt X ad J I L (t, sl X k) k) := by
  rw [wd_get X ad n J I L h.1]
  unfold sl
  rw [← h.2]
theorem wd_sh {X : XT} {n k t : Nat} (h : Ty X n k t) : X.2.2.1 k = (t, sl X k) := by
  unfold sl
  rw [← h.2]
theorem mp_set {f g : Nat → Value} {N j : Nat} {v : Value} (hj : j < N) (hv : g j = v) (ho : ∀ i, i ≠ j → g i = f i) : ((List.range N).map f).set j v = (List.range N).map g := by
  apply List.ext_getElem?
  intro i
  by_cases hi : i = j
  · subst hi
    rw [List.getElem?_set_self (by simpa using hj)]
    simp [hj, hv]
  · rw [List.getElem?_set_ne (fun q => hi q.symm)]
    by_cases hn : i < N
    · simp [hn, ho i hi]
    · simp [hn]
theorem fvl_i {ae ad : Nat → Nat} {J : MJ} {I : MI} {c k j : Nat} (h : fkd c j = 0) : fvl ae ad J I c k j = .int (I k j) := by unfold fvl; rw [h]; rfl
theorem fvl_r {ae ad : Nat → Nat} {J : MJ} {I : MI} {c k j : Nat} (h : fkd c j = 1) : fvl ae ad J I c k j = va_rf ((J k j).map ad) := by unfold fvl; rw [h]; rfl
theorem fvl_e {ae ad : Nat → Nat} {J : MJ} {I : MI} {c k j : Nat} (h : fkd c j = 2) : fvl ae ad J I c k j = va_rf ((J k j).map ae) := by unfold fvl; rw [h]; rfl
section MM
variable {p : Program} {l : Launch} {e : Env} {R : Room} {s : State} {m : MethodId} {args : Array Value} {below : List Frame} {meth : Method} {c : Code} {H : Heap} {locs : List Loc} {cells slots : Nat} {Q : State → Prop}
variable {cc : ByteArray} {pc : Nat} {ls : Array Slot} {rest : List Value} {D : va_G} {X : XT} {ad : Nat → Nat} {n : Nat} {A : Nat → Prop} {H0 : Heap} {J : MJ} {I : MI} {L : ML}
theorem m_iald (hx : p.tables.exec = Jvm.exec) (hb : c.code = cc) (hK : va_K D vwCl (tyl X) s) (hV : Wd D X ad n A H0 J I L H locs) {k : Nat} (ht : Ty X n k 0) {i : Int32} (hin : vp_in i (sl X k)) (hdg : decode cc pc = .ok (.iaload, 1))
    (kk : W p l e R s m args below meth c H locs cells slots Q (F0 m (pc + 1) ls (.int (I k i.toNatClampNeg) :: rest))) : W p l e R s m args below meth c H locs cells slots Q (F0 m pc ls (.int i :: .ref (ad k) :: rest)) :=
  va_iald hx hb hK hV.1 k 0 (wd_at ht) rfl hin hdg kk
theorem m_bald (hx : p.tables.exec = Jvm.exec) (hb : c.code = cc) (hK : va_K D vwCl (tyl X) s) (hV : Wd D X ad n A H0 J I L H locs) {k : Nat} (ht : Ty X n k 1) {i : Int32} (hin : vp_in i (sl X k)) (hdg : decode cc pc = .ok (.baload, 1))
    (kk : W p l e R s m args below meth c H locs cells slots Q (F0 m (pc + 1) ls (.int (I k i.toNatClampNeg) :: rest))) : W p l e R s m args below meth c H locs cells slots Q (F0 m pc ls (.int i :: .ref (ad k) :: rest)) :=
  va_bald hx hb hK hV.1 k 1 (wd_at ht) rfl hin hdg kk
theorem m_lald (hx : p.tables.exec = Jvm.exec) (hb : c.code = cc) (hK : va_K D vwCl (tyl X) s) (hV : Wd D X ad n A H0 J I L H locs) {k : Nat} (ht : Ty X n k 2) {i : Int32} (hin : vp_in i (sl X k)) (hdg : decode cc pc = .ok (.laload, 1))
    (kk : W p l e R s m args below meth c H locs cells slots Q (F0 m (pc + 1) ls (.long (L k i.toNatClampNeg) :: rest))) : W p l e R s m args below meth c H locs cells slots Q (F0 m pc ls (.int i :: .ref (ad k) :: rest)) :=
  va_lald hx hb hK hV.1 k 2 (wd_at ht) rfl hin hdg kk
theorem m_aald (hx : p.tables.exec = Jvm.exec) (hb : c.code = cc) (hK : va_K D vwCl (tyl X) s) (hV : Wd D X ad n A H0 J I L H locs) {k r : Nat} (ht : Ty X n k 3) {i : Int32} (hin : vp_in i (sl X k)) (hr : J k i.toNatClampNeg = some r) (hdg : decode cc pc = .ok (.aaload, 1))
    (kk : W p l e R s m args below meth c H locs cells slots Q (F0 m (pc + 1) ls (.ref (ad r) :: rest))) : W p l e R s m args below meth c H locs cells slots Q (F0 m pc ls (.int i :: .ref (ad k) :: rest)) := by
  have hlt : i.toNatClampNeg < sl X k := Nat.not_le.mp fun q => hin (Or.inr q)
  have ha : (wd X ad n J I L)[k]? = some (ad k, .inl (X.1.2.2.2, sl X k, .inr (.inr (.inr (.inr (fun j => (J k j).map ad)))))) := wd_at ht
  exact W.aald (v := .ref (ad r)) (ty := .array .int) hx hb (hV.1 k _ ha) ((hK.2 3 _ rfl).1 (sl X k) (fun j => va_rf ((J k j).map ad))) rfl (fun q => by cases q) (by show ¬ (i < 0 ∨ (arrV _ _ _).slots.size ≤ _); rw [arrV_size]; exact hin) (by show (arrV _ _ _).slots[_]? = _; rw [arrV_read _ _ hlt]; show some (va_rf ((J k i.toNatClampNeg).map ad)) = _; rw [hr]; rfl) rfl rfl hdg kk
theorem m_alen (hx : p.tables.exec = Jvm.exec) (hb : c.code = cc) (hK : va_K D vwCl (tyl X) s) (hV : Wd D X ad n A H0 J I L H locs) {k : Nat} (ht : Ty X n k 0) (hdg : decode cc pc = .ok (.arraylength, 1))
    (kk : W p l e R s m args below meth c H locs cells slots Q (F0 m (pc + 1) ls (.int (nI (sl X k)) :: rest))) : W p l e R s m args below meth c H locs cells slots Q (F0 m pc ls (.ref (ad k) :: rest)) :=
  va_alen hx hb hK hV.1 k 0 (wd_at ht) rfl rfl hdg kk
theorem m_alenL (hx : p.tables.exec = Jvm.exec) (hb : c.code = cc) (hK : va_K D vwCl (tyl X) s) (hV : Wd D X ad n A H0 J I L H locs) {k : Nat} (ht : Ty X n k 2) (hdg : decode cc pc = .ok (.arraylength, 1))
    (kk : W p l e R s m args below meth c H locs cells slots Q (F0 m (pc + 1) ls (.int (nI (sl X k)) :: rest))) : W p l e R s m args below meth c H locs cells slots Q (F0 m pc ls (.ref (ad k) :: rest)) :=
  va_alen hx hb hK hV.1 k 2 (wd_at ht) rfl rfl hdg kk
theorem m_iast (hx : p.tables.exec = Jvm.exec) (hb : c.code = cc) (hK : va_K D vwCl (tyl X) s) (hV : Wd D X ad n A H0 J I L H locs) {k : Nat} (ht : Ty X n k 0) {i : Int32} {x : Int32} (hin : vp_in i (sl X k)) (hdg : decode cc pc = .ok (.iastore, 1))
    (kk : ∀ (H : Heap) (locs : List Loc), Wd D X ad n A H0 J (ms I k i.toNatClampNeg x) L H locs → W p l e R s m args below meth c H locs cells slots Q (F0 m (pc + 1) ls rest)) : W p l e R s m args below meth c H locs cells slots Q (F0 m pc ls (.int x :: .int i :: .ref (ad k) :: rest)) := by
  refine va_iast hx hb hK hV.1 hV.2.1 hV.2.2 k 0 (wd_at ht) rfl hin hdg (fun H1 locs1 hP hD hS => kk H1 locs1 ⟨?_, wd_D hV.2.1, hS⟩)
  rw [wd_set (J' := J) (I' := (ms I k i.toNatClampNeg x)) (L' := L) ht.1 (by rw [wd_sh ht]; show _ = Sum.inl (X.1.1, sl X k, Sum.inl (ms I k i.toNatClampNeg x k)); rw [ms_eq]; rfl) (fun _ h => by first | exact ms_ne h | rfl) (fun _ h => by first | exact ms_ne h | rfl) (fun _ h => by first | exact ms_ne h | rfl)] at hP
  exact hP
theorem m_last (hx : p.tables.exec = Jvm.exec) (hb : c.code = cc) (hK : va_K D vwCl (tyl X) s) (hV : Wd D X ad n A H0 J I L H locs) {k : Nat} (ht : Ty X n k 2) {i : Int32} {x : Int64} (hin : vp_in i (sl X k)) (hdg : decode cc pc = .ok (.lastore, 1))
    (kk : ∀ (H : Heap) (locs : List Loc), Wd D X ad n A H0 J I (ms L k i.toNatClampNeg x) H locs → W p l e R s m args below meth c H locs cells slots Q (F0 m (pc + 1) ls rest)) : W p l e R s m args below meth c H locs cells slots Q (F0 m pc ls (.long x :: .int i :: .ref (ad k) :: rest)) := by
  refine va_last hx hb hK hV.1 hV.2.1 hV.2.2 k 2 (wd_at ht) rfl hin hdg (fun H1 locs1 hP hD hS => kk H1 locs1 ⟨?_, wd_D hV.2.1, hS⟩)
  rw [wd_set (J' := J) (I' := I) (L' := (ms L k i.toNatClampNeg x)) ht.1 (by rw [wd_sh ht]; show _ = Sum.inl (X.1.2.2.1, sl X k, Sum.inr (Sum.inl (ms L k i.toNatClampNeg x k))); rw [ms_eq]; rfl) (fun _ h => by first | exact ms_ne h | rfl) (fun _ h => by first | exact ms_ne h | rfl) (fun _ h => by first | exact ms_ne h | rfl)] at hP
  exact hP
theorem m_bast (hx : p.tables.exec = Jvm.exec) (hb : c.code = cc) (hK : va_K D vwCl (tyl X) s) (hV : Wd D X ad n A H0 J I L H locs) {k : Nat} (ht : Ty X n k 1) {i : Int32} {x : Int32} (hin : vp_in i (sl X k)) (hdg : decode cc pc = .ok (.bastore, 1))
    (kk : ∀ (H : Heap) (locs : List Loc), Wd D X ad n A H0 J (ms I k i.toNatClampNeg (x.toInt8.toInt32)) L H locs → W p l e R s m args below meth c H locs cells slots Q (F0 m (pc + 1) ls rest)) : W p l e R s m args below meth c H locs cells slots Q (F0 m pc ls (.int x :: .int i :: .ref (ad k) :: rest)) := by
  refine va_bast hx hb hK hV.1 hV.2.1 hV.2.2 k 1 (wd_at ht) rfl hin hdg (fun H1 locs1 hP hD hS => kk H1 locs1 ⟨?_, wd_D hV.2.1, hS⟩)
  rw [wd_set (J' := J) (I' := (ms I k i.toNatClampNeg (x.toInt8.toInt32))) (L' := L) ht.1 (by rw [wd_sh ht, vp_nar_byte]; show _ = Sum.inl (X.1.2.1, sl X k, Sum.inl (ms I k i.toNatClampNeg x.toInt8.toInt32 k)); rw [ms_eq]; rfl) (fun _ h => by first | exact ms_ne h | rfl) (fun _ h => by first | exact ms_ne h | rfl) (fun _ h => by first | exact ms_ne h | rfl)] at hP
  exact hP
theorem wd_ob {ci : Nat} {k : Nat} (ht : Ty X n k (ci + 4)) : (wd X ad n J I L)[k]? = some (ad k, .inr (ci, (List.range (nfc ci)).map (fvl X.2.1 ad J I ci k))) := wd_at ht
theorem m_geti (hx : p.tables.exec = Jvm.exec) (hb : c.code = cc) {own ref C : String} {T : u_T} {N ci index : Nat} {Ts : List Cond} (hts : ∀ w ∈ Ts, w.before args s = true) (hin : ∀ w ∈ u_ws C T N, w ∈ Ts) (hown : s.vm.findClass own = some m.cls) (hK : va_K D vwCl (tyl X) s) (hV : Wd D X ad n A H0 J I L H locs) {k : Nat} (ht : Ty X n k (ci + 4)) (hc : vwCl[ci]? = some (C, T, N)) (j : Nat) (hj : j < N) (hN : nfc ci = N) (hf : fkd ci j = 0) (hlink : (Cond.fieldLink own index ref (T j).2.1 (T j).2.2.1).before args s = true) (hsame : ∀ x, s.fieldFound? (T j).1 (T j).2.1 (T j).2.2.1 = some x → s.fieldFound? ref (T j).2.1 (T j).2.2.1 = some x) (hdg : decode cc pc = .ok (.getfield index, 3))
    (kk : W p l e R s m args below meth c H locs cells slots Q (F0 m (pc + 3) ls (.int (I k j) :: rest))) : W p l e R s m args below meth c H locs cells slots Q (F0 m pc ls (.ref (ad k) :: rest)) :=
  va_get hx hb hts hin hown hK hV.1 k (wd_ob ht) hc j hj hlink hsame (v := .int (I k j)) (by rw [hN]; simp [hj, fvl_i hf]) hdg kk
theorem m_getr (hx : p.tables.exec = Jvm.exec) (hb : c.code = cc) {own ref C : String} {T : u_T} {N ci index : Nat} {Ts : List Cond} (hts : ∀ w ∈ Ts, w.before args s = true) (hin : ∀ w ∈ u_ws C T N, w ∈ Ts) (hown : s.vm.findClass own = some m.cls) (hK : va_K D vwCl (tyl X) s) (hV : Wd D X ad n A H0 J I L H locs) {k : Nat} (ht : Ty X n k (ci + 4)) (hc : vwCl[ci]? = some (C, T, N)) (j : Nat) (hj : j < N) (hN : nfc ci = N) (hf : fkd ci j = 1) {r : Nat} (hr : J k j = some r) (hlink : (Cond.fieldLink own index ref (T j).2.1 (T j).2.2.1).before args s = true) (hsame : ∀ x, s.fieldFound? (T j).1 (T j).2.1 (T j).2.2.1 = some x → s.fieldFound? ref (T j).2.1 (T j).2.2.1 = some x) (hdg : decode cc pc = .ok (.getfield index, 3))
    (kk : W p l e R s m args below meth c H locs cells slots Q (F0 m (pc + 3) ls (.ref (ad r) :: rest))) : W p l e R s m args below meth c H locs cells slots Q (F0 m pc ls (.ref (ad k) :: rest)) :=
  va_get hx hb hts hin hown hK hV.1 k (wd_ob ht) hc j hj hlink hsame (v := .ref (ad r)) (by rw [hN]; simp [hj, fvl_r hf, hr, va_rf]) hdg kk
theorem m_gete (hx : p.tables.exec = Jvm.exec) (hb : c.code = cc) {own ref C : String} {T : u_T} {N ci index : Nat} {Ts : List Cond} (hts : ∀ w ∈ Ts, w.before args s = true) (hin : ∀ w ∈ u_ws C T N, w ∈ Ts) (hown : s.vm.findClass own = some m.cls) (hK : va_K D vwCl (tyl X) s) (hV : Wd D X ad n A H0 J I L H locs) {k : Nat} (ht : Ty X n k (ci + 4)) (hc : vwCl[ci]? = some (C, T, N)) (j : Nat) (hj : j < N) (hN : nfc ci = N) (hf : fkd ci j = 2) {r : Nat} (hr : J k j = some r) (hlink : (Cond.fieldLink own index ref (T j).2.1 (T j).2.2.1).before args s = true) (hsame : ∀ x, s.fieldFound? (T j).1 (T j).2.1 (T j).2.2.1 = some x → s.fieldFound? ref (T j).2.1 (T j).2.2.1 = some x) (hdg : decode cc pc = .ok (.getfield index, 3))
    (kk : W p l e R s m args below meth c H locs cells slots Q (F0 m (pc + 3) ls (.ref (X.2.1 r) :: rest))) : W p l e R s m args below meth c H locs cells slots Q (F0 m pc ls (.ref (ad k) :: rest)) :=
  va_get hx hb hts hin hown hK hV.1 k (wd_ob ht) hc j hj hlink hsame (v := .ref (X.2.1 r)) (by rw [hN]; simp [hj, fvl_e hf, hr, va_rf]) hdg kk
theorem m_puti (hx : p.tables.exec = Jvm.exec) (hb : c.code = cc) {own ref C : String} {T : u_T} {N ci index : Nat} {Ts : List Cond} (hts : ∀ w ∈ Ts, w.before args s = true) (hin : ∀ w ∈ u_ws C T N, w ∈ Ts) (hown : s.vm.findClass own = some m.cls) (hK : va_K D vwCl (tyl X) s) (hV : Wd D X ad n A H0 J I L H locs) (ty0 : Nat → FieldType) (hty : ∀ k, k < N → parseFieldDescriptor (T k).2.2.1 = some (ty0 k)) (hnm : ∀ a, a < N → ∀ b, b < N → a ≠ b → (T a).2.1 ≠ (T b).2.1) {k : Nat} (ht : Ty X n k (ci + 4)) (hc : vwCl[ci]? = some (C, T, N)) (j : Nat) (hj : j < N) (hN : nfc ci = N) (hf : fkd ci j = 0) {v : Int32} (hlink : (Cond.fieldLink own index ref (T j).2.1 (T j).2.2.1).before args s = true) (hsame : ∀ x, s.fieldFound? (T j).1 (T j).2.1 (T j).2.2.1 = some x → s.fieldFound? ref (T j).2.1 (T j).2.2.1 = some x) (hfin : (T j).2.2.2 = false) {ty : FieldType} (hd : parseFieldDescriptor (T j).2.2.1 = some ty) (hn : narrow ty (.int v) = (.int v)) (hfit : fits ty (.int v) = true) (hdg : decode cc pc = .ok (.putfield index, 3))
    (kk : ∀ (H : Heap) (locs : List Loc), Wd D X ad n A H0 J (ms I k j v) L H locs → W p l e R s m args below meth c H locs cells slots Q (F0 m (pc + 3) ls rest)) : W p l e R s m args below meth c H locs cells slots Q (F0 m pc ls ((.int v) :: .ref (ad k) :: rest)) := by
  refine va_put hx hb hts hin ty0 hty hnm hown hK hV.1 hV.2.1 hV.2.2 k (wd_ob ht) hc j hj hlink hsame hfin hd hn hfit (by rw [hN]; simp [hj]) hdg (fun H1 locs1 hP hD hS => kk H1 locs1 ⟨?_, wd_D hV.2.1, hS⟩)
  rw [wd_set (J' := J) (I' := (ms I k j v)) (L' := L) ht.1 (by
    rw [wd_sh ht]
    show _ = Sum.inr (ci, (List.range (nfc ci)).map (fvl X.2.1 ad J (ms I k j v) ci k))
    rw [mp_set (g := fvl X.2.1 ad J (ms I k j v) ci k) (by rw [hN]; exact hj) (by rw [fvl_i hf, ms_eq, va_up_self]) (fun i hi => by unfold fvl; rw [ms_eq, va_up_ne _ _ hi])]) (fun _ h => by first | exact ms_ne h | rfl) (fun _ h => by first | exact ms_ne h | rfl) (fun _ h => by first | exact ms_ne h | rfl)] at hP
  exact hP
theorem m_putiF (hx : p.tables.exec = Jvm.exec) (hb : c.code = cc) {own ref C : String} {T : u_T} {N ci index : Nat} {Ts : List Cond} (hts : ∀ w ∈ Ts, w.before args s = true) (hin : ∀ w ∈ u_ws C T N, w ∈ Ts) (hown : s.vm.findClass own = some m.cls) (hK : va_K D vwCl (tyl X) s) (hV : Wd D X ad n A H0 J I L H locs) (ty0 : Nat → FieldType) (hty : ∀ k, k < N → parseFieldDescriptor (T k).2.2.1 = some (ty0 k)) (hnm : ∀ a, a < N → ∀ b, b < N → a ≠ b → (T a).2.1 ≠ (T b).2.1) {k : Nat} (ht : Ty X n k (ci + 4)) (hc : vwCl[ci]? = some (C, T, N)) (j : Nat) (hj : j < N) (hN : nfc ci = N) (hf : fkd ci j = 0) {v : Int32} (hlink : (Cond.fieldLink own index ref (T j).2.1 (T j).2.2.1).before args s = true) (hsame : ∀ x, s.fieldFound? (T j).1 (T j).2.1 (T j).2.2.1 = some x → s.fieldFound? ref (T j).2.1 (T j).2.2.1 = some x) (hfin : (T j).2.2.2 = true) (hin2 : meth.name = "<init>") (hdecl : (T j).1 = own) {ty : FieldType} (hd : parseFieldDescriptor (T j).2.2.1 = some ty) (hn : narrow ty (.int v) = (.int v)) (hfit : fits ty (.int v) = true) (hdg : decode cc pc = .ok (.putfield index, 3))
    (kk : ∀ (H : Heap) (locs : List Loc), Wd D X ad n A H0 J (ms I k j v) L H locs → W p l e R s m args below meth c H locs cells slots Q (F0 m (pc + 3) ls rest)) : W p l e R s m args below meth c H locs cells slots Q (F0 m pc ls ((.int v) :: .ref (ad k) :: rest)) := by
  refine va_putF hx hb hts hin ty0 hty hnm hown hK hV.1 hV.2.1 hV.2.2 k (wd_ob ht) hc j hj hlink hsame hfin hin2 hdecl hd hn hfit (by rw [hN]; simp [hj]) hdg (fun H1 locs1 hP hD hS => kk H1 locs1 ⟨?_, wd_D hV.2.1, hS⟩)
  rw [wd_set (J' := J) (I' := (ms I k j v)) (L' := L) ht.1 (by
    rw [wd_sh ht]
    show _ = Sum.inr (ci, (List.range (nfc ci)).map (fvl X.2.1 ad J (ms I k j v) ci k))
    rw [mp_set (g := fvl X.2.1 ad J (ms I k j v) ci k) (by rw [hN]; exact hj) (by rw [fvl_i hf, ms_eq, va_up_self]) (fun i hi => by unfold fvl; rw [ms_eq, va_up_ne _ _ hi])]) (fun _ h => by first | exact ms_ne h | rfl) (fun _ h => by first | exact ms_ne h | rfl) (fun _ h => by first | exact ms_ne h | rfl)] at hP
  exact hP
theorem m_putrF (hx : p.tables.exec = Jvm.exec) (hb : c.code = cc) {own ref C : String} {T : u_T} {N ci index : Nat} {Ts : List Cond} (hts : ∀ w ∈ Ts, w.before args s = true) (hin : ∀ w ∈ u_ws C T N, w ∈ Ts) (hown : s.vm.findClass own = some m.cls) (hK : va_K D vwCl (tyl X) s) (hV : Wd D X ad n A H0 J I L H locs) (ty0 : Nat → FieldType) (hty : ∀ k, k < N → parseFieldDescriptor (T k).2.2.1 = some (ty0 k)) (hnm : ∀ a, a < N → ∀ b, b < N → a ≠ b → (T a).2.1 ≠ (T b).2.1) {k : Nat} (ht : Ty X n k (ci + 4)) (hc : vwCl[ci]? = some (C, T, N)) (j : Nat) (hj : j < N) (hN : nfc ci = N) (hf : fkd ci j = 1) {r : Nat} (hlink : (Cond.fieldLink own index ref (T j).2.1 (T j).2.2.1).before args s = true) (hsame : ∀ x, s.fieldFound? (T j).1 (T j).2.1 (T j).2.2.1 = some x → s.fieldFound? ref (T j).2.1 (T j).2.2.1 = some x) (hfin : (T j).2.2.2 = true) (hin2 : meth.name = "<init>") (hdecl : (T j).1 = own) {ty : FieldType} (hd : parseFieldDescriptor (T j).2.2.1 = some ty) (hn : narrow ty (.ref (ad r)) = (.ref (ad r))) (hfit : fits ty (.ref (ad r)) = true) (hdg : decode cc pc = .ok (.putfield index, 3))
    (kk : ∀ (H : Heap) (locs : List Loc), Wd D X ad n A H0 (ms J k j (some r)) I L H locs → W p l e R s m args below meth c H locs cells slots Q (F0 m (pc + 3) ls rest)) : W p l e R s m args below meth c H locs cells slots Q (F0 m pc ls ((.ref (ad r)) :: .ref (ad k) :: rest)) := by
  refine va_putF hx hb hts hin ty0 hty hnm hown hK hV.1 hV.2.1 hV.2.2 k (wd_ob ht) hc j hj hlink hsame hfin hin2 hdecl hd hn hfit (by rw [hN]; simp [hj]) hdg (fun H1 locs1 hP hD hS => kk H1 locs1 ⟨?_, wd_D hV.2.1, hS⟩)
  rw [wd_set (J' := (ms J k j (some r))) (I' := I) (L' := L) ht.1 (by
    rw [wd_sh ht]
    show _ = Sum.inr (ci, (List.range (nfc ci)).map (fvl X.2.1 ad (ms J k j (some r)) I ci k))
    rw [mp_set (g := fvl X.2.1 ad (ms J k j (some r)) I ci k) (by rw [hN]; exact hj) (by rw [fvl_r hf, ms_eq, va_up_self]; rfl) (fun i hi => by unfold fvl; rw [ms_eq, va_up_ne _ _ hi])]) (fun _ h => by first | exact ms_ne h | rfl) (fun _ h => by first | exact ms_ne h | rfl) (fun _ h => by first | exact ms_ne h | rfl)] at hP
  exact hP
theorem m_pute (hx : p.tables.exec = Jvm.exec) (hb : c.code = cc) {own ref C : String} {T : u_T} {N ci index : Nat} {Ts : List Cond} (hts : ∀ w ∈ Ts, w.before args s = true) (hin : ∀ w ∈ u_ws C T N, w ∈ Ts) (hown : s.vm.findClass own = some m.cls) (hK : va_K D vwCl (tyl X) s) (hV : Wd D X ad n A H0 J I L H locs) (ty0 : Nat → FieldType) (hty : ∀ k, k < N → parseFieldDescriptor (T k).2.2.1 = some (ty0 k)) (hnm : ∀ a, a < N → ∀ b, b < N → a ≠ b → (T a).2.1 ≠ (T b).2.1) {k : Nat} (ht : Ty X n k (ci + 4)) (hc : vwCl[ci]? = some (C, T, N)) (j : Nat) (hj : j < N) (hN : nfc ci = N) (hf : fkd ci j = 2) {r : Nat} (hlink : (Cond.fieldLink own index ref (T j).2.1 (T j).2.2.1).before args s = true) (hsame : ∀ x, s.fieldFound? (T j).1 (T j).2.1 (T j).2.2.1 = some x → s.fieldFound? ref (T j).2.1 (T j).2.2.1 = some x) (hfin : (T j).2.2.2 = false) {ty : FieldType} (hd : parseFieldDescriptor (T j).2.2.1 = some ty) (hn : narrow ty (.ref (X.2.1 r)) = (.ref (X.2.1 r))) (hfit : fits ty (.ref (X.2.1 r)) = true) (hdg : decode cc pc = .ok (.putfield index, 3))
    (kk : ∀ (H : Heap) (locs : List Loc), Wd D X ad n A H0 (ms J k j (some r)) I L H locs → W p l e R s m args below meth c H locs cells slots Q (F0 m (pc + 3) ls rest)) : W p l e R s m args below meth c H locs cells slots Q (F0 m pc ls ((.ref (X.2.1 r)) :: .ref (ad k) :: rest)) := by
  refine va_put hx hb hts hin ty0 hty hnm hown hK hV.1 hV.2.1 hV.2.2 k (wd_ob ht) hc j hj hlink hsame hfin hd hn hfit (by rw [hN]; simp [hj]) hdg (fun H1 locs1 hP hD hS => kk H1 locs1 ⟨?_, wd_D hV.2.1, hS⟩)
  rw [wd_set (J' := (ms J k j (some r))) (I' := I) (L' := L) ht.1 (by
    rw [wd_sh ht]
    show _ = Sum.inr (ci, (List.range (nfc ci)).map (fvl X.2.1 ad (ms J k j (some r)) I ci k))
    rw [mp_set (g := fvl X.2.1 ad (ms J k j (some r)) I ci k) (by rw [hN]; exact hj) (by rw [fvl_e hf, ms_eq, va_up_self]; rfl) (fun i hi => by unfold fvl; rw [ms_eq, va_up_ne _ _ hi])]) (fun _ h => by first | exact ms_ne h | rfl) (fun _ h => by first | exact ms_ne h | rfl) (fun _ h => by first | exact ms_ne h | rfl)] at hP
  exact hP
end MM
end
section
def gt : List Cond := lw_tbl.filter goodWord
theorem gt_in {w : Cond} (h : w ∈ lw_tbl) (hg : goodWord w = true) : w ∈ gt := List.mem_filter.mpr ⟨h, hg⟩
theorem gt_good {w : Cond} (h : w ∈ gt) : goodWord w = true := (List.mem_filter.mp h).2
theorem gt_tbl {w : Cond} (h : w ∈ gt) : w ∈ lw_tbl := (List.mem_filter.mp h).1
theorem g0 {w : Cond} (i : Nat) (h : (k2_sels lw_privs)[i]? = some w) (hg : goodWord w = true) : w ∈ gt := gt_in (List.mem_append_left _ (List.mem_of_getElem? h)) hg
theorem g1 {w : Cond} (i : Nat) (h : tables_1_1[i]? = some w) (hg : goodWord w = true) : w ∈ gt := gt_in (List.mem_append_right _ (List.mem_append_left _ (List.mem_of_getElem? h))) hg
theorem g2 {w : Cond} (i : Nat) (h : tables_1_2[i]? = some w) (hg : goodWord w = true) : w ∈ gt := gt_in (List.mem_append_right _ (List.mem_append_right _ (List.mem_append_left _ (List.mem_of_getElem? h)))) hg
theorem g3 {w : Cond} (i : Nat) (h : tables_1_3[i]? = some w) (hg : goodWord w = true) : w ∈ gt := gt_in (List.mem_append_right _ (List.mem_append_right _ (List.mem_append_right _ (List.mem_append_left _ (List.mem_of_getElem? h))))) hg
theorem g4 {w : Cond} (i : Nat) (h : tables_1_4[i]? = some w) (hg : goodWord w = true) : w ∈ gt := gt_in (List.mem_append_right _ (List.mem_append_right _ (List.mem_append_right _ (List.mem_append_right _ (List.mem_of_getElem? h))))) hg
def wz (y : MethodName) (cc : ByteArray) (ml : Nat) (r : Option FieldType) : List Cond := .code y cc ml r :: gt
theorem gw {y : MethodName} {cc : ByteArray} {ml : Nat} {r : Option FieldType} (h5 : Cond.code y cc ml r ∈ gt) : GoodIn gt (wz y cc ml r) := by
  intro w hw
  rcases List.mem_cons.mp hw with rfl | h
  · exact ⟨h5, good_of_word (gt_good h5)⟩
  · exact ⟨h, good_of_word (gt_good h)⟩
theorem gV {own C : String} {idx : Nat} {y : MethodName} {cc : ByteArray} {ml : Nat} {r : Option FieldType} (h1 : Cond.methodLink own idx y ∈ gt) (h2 : Cond.instanceMethod y ∈ gt) (h3 : Cond.selects C y y ∈ gt) (h4 : Cond.initialized C ∈ gt) (h5 : Cond.code y cc ml r ∈ gt) : GoodIn gt (wsV own idx C y (wz y cc ml r)) := by
  intro w hw
  rcases List.mem_append.mp hw with h | h
  · have hg : w ∈ gt := by
      rcases List.mem_cons.mp h with rfl | h
      · exact h1
      rcases List.mem_cons.mp h with rfl | h
      · exact h2
      rcases List.mem_cons.mp h with rfl | h
      · exact h3
      rcases List.mem_cons.mp h with rfl | h
      · exact h4
      · exact absurd h List.not_mem_nil
    exact ⟨hg, good_of_word (gt_good hg)⟩
  · exact gw h5 w h
theorem gS {own : String} {idx : Nat} {y : MethodName} {cc : ByteArray} {ml : Nat} {r : Option FieldType} (h1 : Cond.methodLink own idx y ∈ gt) (h2 : Cond.static y ∈ gt) (h4 : Cond.initialized y.cls ∈ gt) (h5 : Cond.code y cc ml r ∈ gt) : GoodIn gt (va_wsS own idx y (wz y cc ml r)) := by
  intro w hw
  rcases List.mem_append.mp hw with h | h
  · have hg : w ∈ gt := by
      rcases List.mem_cons.mp h with rfl | h
      · exact h1
      rcases List.mem_cons.mp h with rfl | h
      · exact h2
      rcases List.mem_cons.mp h with rfl | h
      · exact h4
      · exact absurd h List.not_mem_nil
    exact ⟨hg, good_of_word (gt_good hg)⟩
  · exact gw h5 w h
/-! what stands fixed outside: the enum's constants, the static arrays -/
def enF : List (String × String × String × List Int32) := [("LatticeVault$ParameterSet", "rank", "I", [2, 3, 4]), ("LatticeVault$ParameterSet", "eta1", "I", [3, 2, 2]), ("LatticeVault$ParameterSet", "eta2", "I", [2, 2, 2]), ("LatticeVault$ParameterSet", "du", "I", [10, 10, 11]), ("LatticeVault$ParameterSet", "dv", "I", [4, 4, 5])]
def enI (f i : Nat) : Int32 := ((enF.getD f ("", "", "", [])).2.2.2).getD i 0
def stN (z : Nat) : String × String := match z with
  | 0 => ("LatticeVault$Sponge", "RATES")
  | 1 => ("LatticeVault$Sponge", "WALK")
  | 2 => ("LatticeVault$Sponge", "TURNS")
  | _ => ("LatticeVault$Ring", "ROOTS")
def stI (z : Nat) : List Int32 := match z with
  | 0 => [136, 72, 168, 136]
  | 1 => [10, 7, 11, 17, 18, 3, 5, 16, 8, 21, 24, 4, 15, 23, 19, 13, 12, 2, 20, 14, 22, 9, 6, 1]
  | 2 => [1, 3, 6, 10, 15, 21, 28, 36, 45, 55, 2, 14, 27, 41, 56, 8, 25, 43, 62, 18, 39, 61, 20, 44]
  | _ => [1, 1729, 2580, 3289, 2642, 630, 1897, 848, 1062, 1919, 193, 797, 2786, 3260, 569, 1746,
            296, 2447, 1339, 1476, 3046, 56, 2240, 1333, 1426, 2094, 535, 2882, 2393, 2879, 1974, 821,
            289, 331, 3253, 1756, 1197, 2304, 2277, 2055, 650, 1977, 2513, 632, 2865, 33, 1320, 1915,
            2319, 1435, 807, 452, 1438, 2868, 1534, 2402, 2647, 2617, 1481, 648, 2474, 3110, 1227, 910,
            17, 2761, 583, 2649, 1637, 723, 2288, 1100, 1409, 2662, 3281, 233, 756, 2156, 3015, 3050,
            1703, 1651, 2789, 1789, 1847, 952, 1461, 2687, 939, 2308, 2437, 2388, 733, 2337, 268, 641,
            1584, 2298, 2037, 3220, 375, 2549, 2090, 1645, 1063, 319, 2773, 757, 2099, 561, 2466, 2594,
            2804, 1092, 403, 1026, 1143, 2150, 2775, 886, 1722, 1212, 1874, 1029, 2110, 2935, 885, 2154]
def stL (z : Nat) : Nat := match z with
  | 0 => 4
  | 1 => 24
  | 2 => 24
  | _ => 128
def sI (z j : Nat) : Int32 := (stI z).getD j 0
def rcN : List Nat := [0x0000000000000001, 0x0000000000008082, 0x800000000000808A, 0x8000000080008000,
            0x000000000000808B, 0x0000000080000001, 0x8000000080008081, 0x8000000000008009,
            0x000000000000008A, 0x0000000000000088, 0x0000000080008009, 0x000000008000000A,
            0x000000008000808B, 0x800000000000008B, 0x8000000000008089, 0x8000000000008003,
            0x8000000000008002, 0x8000000000000080, 0x000000000000800A, 0x800000008000000A,
            0x8000000080008081, 0x8000000000008080, 0x0000000080000001, 0x8000000080008008]
def sJ (j : Nat) : Int64 := Int64.ofNat (rcN.getD j 0)
def ZZ (X : XT) (A : Nat → Prop) (U : State) (H : Heap) : Prop :=
  va_En "LatticeVault$ParameterSet" "LLatticeVault$ParameterSet;" ["SMALL", "MIDDLE", "LARGE"] enF X.2.1 A U H ∧
  (∀ z, z < 4 → va_Z (stN z).1 (stN z).2 "[I" (.ref (X.2.2.2 z)) A U H ∧ va_T .int (X.2.2.2 z) (stL z) (fun j => .int (sI z j)) A U H) ∧
  va_Z "LatticeVault$Sponge" "ROUND_CONSTANTS" "[J" (.ref (X.2.2.2 4)) A U H ∧ va_T .long (X.2.2.2 4) 24 (fun j => .long (sJ j)) A U H
theorem ZZ.moved {X : XT} {A : Nat → Prop} {u U : State} {H : Heap} (hvm : u.vm.Alike U.vm) (h : ZZ X A u H) : ZZ X A U H :=
  ⟨h.1.moved hvm, fun z hz => ⟨(h.2.1 z hz).1.moved hvm, (h.2.1 z hz).2.moved hvm⟩, h.2.2.1.moved hvm, h.2.2.2.moved hvm⟩
theorem ZZ.kept {X : XT} {A : Nat → Prop} {U : State} {H H1 : Heap} (h : ZZ X A U H) (hq : ∀ a : Nat, a < H.size → ¬ A a → H1[a]? = H[a]?) : ZZ X A U H1 :=
  ⟨h.1.kept hq, fun z hz => ⟨(h.2.1 z hz).1.kept hq, (h.2.1 z hz).2.kept hq⟩, h.2.2.1.kept hq, h.2.2.2.kept hq⟩
def Pr (D : va_G) (X : XT) (ad : Nat → Nat) (n : Nat) (A : Nat → Prop) (J : MJ) (I : MI) (L : ML) (U : State) : Prop :=
  va_P D vwCl (wd X ad n J I L) U.heap ∧ va_K D vwCl (tyl X) U ∧ va_D A (wd X ad n J I L) ∧ (∀ q, U.heap.size ≤ q → A q) ∧ ZZ X A U U.heap
theorem Pr.calling {D : va_G} {X : XT} {ad : Nat → Nat} {n : Nat} {A : Nat → Prop} {J : MJ} {I : MI} {L : ML} {U : State} (g : JFrame) (mk : MethodId) (a : Array Value) (h : Pr D X ad n A J I L U) : Pr D X ad n A J I L (U.calling g mk a) :=
  ⟨h.1, va_K.moved (u := U) (U := U.calling g mk a) (Vm.Alike.refl U.vm) h.2.1, h.2.2.1, h.2.2.2.1, ZZ.moved (u := U) (U := U.calling g mk a) (Vm.Alike.refl U.vm) h.2.2.2.2⟩
theorem Pr.blind {D : va_G} {X : XT} {ad : Nat → Nat} {n : Nat} {A : Nat → Prop} {J : MJ} {I : MI} {L : ML} (av : List Value) : FrameBlind (va_Pc av (Pr D X ad n A J I L)) := fun a _ g mk h => ⟨h.1, h.2.calling g mk a⟩
section MC
variable {p : Program} {l : Launch} {e : Env} {R : Room} {s : State} {m : MethodId} {args : Array Value} {below : List Frame} {meth : Method} {c : Code} {H : Heap} {locs : List Loc} {cells slots : Nat} {Q : State → Prop}
variable {cc : ByteArray} {pc : Nat} {ls : Array Slot} {rest st0 : List Value} {D : va_G} {X : XT} {ad : Nat → Nat} {n : Nat} {A : Nat → Prop} {J : MJ} {I : MI} {L : ML} {a : Array Value}
theorem Pr.here (hK : va_K D vwCl (tyl X) s) (hV : Wd D X ad n A s.heap J I L H locs) (hA : ∀ q, s.heap.size ≤ q → A q) (hZ : ZZ X A s s.heap) {U : State} (hU : U.heap = H) (hW : s.vm.Alike U.vm) : Pr D X ad n A J I L U :=
  ⟨by rw [hU]; exact hV.1, va_K.moved hW hK, hV.2.1, fun q h => hA q (Nat.le_trans hV.2.2.1 (by rw [hU] at h; exact h)), by rw [hU]; exact (hZ.kept (fun q h1 h2 => hV.2.2.2.1 q h1 h2)).moved hW⟩
theorem Met_go {y : MethodName} {ml : Nat} {ret : Option FieldType} {rm : Room} {Qc : Array Value → State → Outcome → State → Prop} {mc ms : Nat} {av : List Value} (hy : plainName y.cls = true) (hlen : (lg_sl av).length ≤ ml)
    (body : ∀ (p : Program) (e : Env) (s : State) (m : MethodId) (below : List Frame) (meth : Method) (c : Code), p.tables.exec = Jvm.exec → c.code = cc → meth.sig.returnType = ret → c.maxLocals = ml → s.vm.findClass y.cls = some m.cls → meth.locks = false → meth.name = y.name →
      (∀ w ∈ gt, w.before av.toArray s = true) → va_K D vwCl (tyl X) s → ZZ X A s s.heap → (∀ q, s.heap.size ≤ q → A q) → Wd D X ad n A s.heap J I L s.heap [] → ∀ ls : Array Slot, lv_has ls ml (lv_args 0 av) → W p l e rm s m av.toArray below meth c s.heap [] 0 0 (MQ below Qc av.toArray s mc ms A) (F0 m 0 ls [])) :
    Met l y (wz y cc ml ret) rm (va_Pc av (Pr D X ad n A J I L)) Qc mc ms A := by
  refine Met.ofW (cc := cc) (maxL := ml) (ret := ret) hy rfl ?_
  intro p e s m args below meth c s₁ B hml hv
  obtain ⟨rfl, hP, hK, hD, hA, hZ⟩ := hv
  have hts := atoms_spec (ws := wz y cc ml ret) B.pre
  rw [lg_entry_eq]
  exact body p e s m below meth c B.exec B.bytes B.returns hml (findClass_of_methodNamed B.named) B.notSynchronized (name_of_methodNamed B.named B.method).1 (fun w h => hts w (List.mem_cons_of_mem _ h)) hK hZ hA ⟨hP, hD, va_S.rf⟩ _ (lv_entry av hlen)
abbrev QI (D : va_G) (X : XT) (ad : Nat → Nat) (n : Nat) (A : Nat → Prop) (J : MJ) (q : Int32 → MI → ML → Prop) : Array Value → State → Outcome → State → Prop := va_Qi (fun (r : Int32) (u : MI × ML) => q r u.1 u.2) (fun u t => Pr D X ad n A J u.1 u.2 t) A
abbrev QV (D : va_G) (X : XT) (ad : Nat → Nat) (n : Nat) (A : Nat → Prop) (J : MJ) (q : MI → ML → Prop) : Array Value → State → Outcome → State → Prop := va_Qv (fun (u : MI × ML) => q u.1 u.2) (fun u t => Pr D X ad n A J u.1 u.2 t) A
abbrev QE (f : Nat → Nat) (τ : Nat → Prop) (D : va_G) (X : XT) (ad : Nat → Nat) (n : Nat) (A : Nat → Prop) (J : MJ) (q : Option Nat → MI → ML → Prop) : Array Value → State → Outcome → State → Prop := va_Qe f (fun (r : Option Nat) (u : MI × ML) => q r u.1 u.2 ∧ ∀ k, r = some k → τ k) (fun u t => Pr D X ad n A J u.1 u.2 t) A
theorem m_iret (hx : p.tables.exec = Jvm.exec) (hb : c.code = cc) (hr : meth.sig.returnType = some .int) (hlk : meth.locks = false) (hK : va_K D vwCl (tyl X) s) (hZ : ZZ X A s s.heap) (hA : ∀ q, s.heap.size ≤ q → A q) (hV : Wd D X ad n A s.heap J I L H locs) {q : Int32 → MI → ML → Prop} {v : Int32} (h : q v I L) (hdg : decode cc pc = .ok (.ireturn, 1)) :
    W p l e R s m args below meth c H locs cells slots (MQ below (QI D X ad n A J q) args s cells slots A) (F0 m pc ls [.int v]) :=
  W.iret hx hb hr (fun t ht hW => ⟨⟨v, (I, L), rfl, h, Pr.here hK hV hA hZ ht hW.alike⟩, hV.2.2.F ht⟩) hV.2.2.2.2 hdg hlk
theorem m_zret (hx : p.tables.exec = Jvm.exec) (hb : c.code = cc) (hr : meth.sig.returnType = some .boolean) (hlk : meth.locks = false) (hK : va_K D vwCl (tyl X) s) (hZ : ZZ X A s s.heap) (hA : ∀ q, s.heap.size ≤ q → A q) (hV : Wd D X ad n A s.heap J I L H locs) {q : Int32 → MI → ML → Prop} {v : Int32} (hz : v = 0 ∨ v = 1) (h : q v I L) (hdg : decode cc pc = .ok (.ireturn, 1)) :
    W p l e R s m args below meth c H locs cells slots (MQ below (QI D X ad n A J q) args s cells slots A) (F0 m pc ls [.int v]) :=
  W.zret hx hb hr (by rcases hz with rfl | rfl <;> rfl) (fun t ht hW => ⟨⟨v, (I, L), rfl, h, Pr.here hK hV hA hZ ht hW.alike⟩, hV.2.2.F ht⟩) hV.2.2.2.2 hdg hlk
theorem m_vret (hx : p.tables.exec = Jvm.exec) (hb : c.code = cc) (hr : meth.sig.returnType = none) (hlk : meth.locks = false) (hK : va_K D vwCl (tyl X) s) (hZ : ZZ X A s s.heap) (hA : ∀ q, s.heap.size ≤ q → A q) (hV : Wd D X ad n A s.heap J I L H locs) {q : MI → ML → Prop} (h : q I L) (hdg : decode cc pc = .ok (.return_, 1)) :
    W p l e R s m args below meth c H locs cells slots (MQ below (QV D X ad n A J q) args s cells slots A) (F0 m pc ls []) :=
  W.vret hx hb hr (fun t ht hW => ⟨⟨(I, L), rfl, h, Pr.here hK hV hA hZ ht hW.alike⟩, hV.2.2.F ht⟩) hV.2.2.2.2 hdg hlk
theorem m_eret {f : Nat → Nat} {τ : Nat → Prop} {rt : FieldType} (hx : p.tables.exec = Jvm.exec) (hb : c.code = cc) (hr : meth.sig.returnType = some rt) (hrt : (∃ n, rt = .object n) ∨ ∃ t, rt = .array t) (hlk : meth.locks = false) (hK : va_K D vwCl (tyl X) s) (hZ : ZZ X A s s.heap) (hA : ∀ q, s.heap.size ≤ q → A q) (hV : Wd D X ad n A s.heap J I L H locs) {q : Option Nat → MI → ML → Prop} (o : Option Nat) {v : Value} (hv : v = va_rf (o.map f)) (h : q o I L) (ht : ∀ k, o = some k → τ k) (hdg : decode cc pc = .ok (.areturn, 1)) :
    W p l e R s m args below meth c H locs cells slots (MQ below (QE f τ D X ad n A J q) args s cells slots A) (F0 m pc ls [v]) :=
  W.aret hx hb hr hrt (by rw [hv]; cases o with | none => exact Or.inl rfl | some k => exact Or.inr ⟨f k, rfl⟩) (fun t ht' hW => ⟨⟨o, (I, L), by rw [hv]; rfl, ⟨h, ht⟩, Pr.here hK hV hA hZ ht' hW.alike⟩, hV.2.2.F ht'⟩) hV.2.2.2.2 hdg hlk
theorem k_preS (hK : va_K D vwCl (tyl X) s) (hV : Wd D X ad n A s.heap J I L H locs) (hA : ∀ q, s.heap.size ≤ q → A q) (hZ : ZZ X A s s.heap) (av : List Value) : PreS s H (va_Pc av (Pr D X ad n A J I L)) av :=
  ⟨Pr.blind av, fun _ hU hW => ⟨rfl, Pr.here hK hV hA hZ hU hW.alike⟩⟩
theorem k_preV {C : String} {T : u_T} {N ci k : Nat} (hK : va_K D vwCl (tyl X) s) (hV : Wd D X ad n A s.heap J I L H locs) (hA : ∀ q, s.heap.size ≤ q → A q) (hZ : ZZ X A s s.heap) (ht : Ty X n k (ci + 4)) (hc : vwCl[ci]? = some (C, T, N)) (As : List Value) : PreV s H C (ad k) (va_Pc (.ref (ad k) :: As) (Pr D X ad n A J I L)) As :=
  ⟨Pr.blind _, va_recv (q := (C, T, N)) hK hV.1 hc (wd_ob ht), fun _ hU hW => ⟨rfl, Pr.here hK hV hA hZ hU hW.alike⟩⟩
theorem k_preE {i : Nat} (hK : va_K D vwCl (tyl X) s) (hV : Wd D X ad n A s.heap J I L H locs) (hA : ∀ q, s.heap.size ≤ q → A q) (hZ : ZZ X A s s.heap) (hi : i < 3) (As : List Value) : PreV s H "LatticeVault$ParameterSet" (X.2.1 i) (va_Pc (.ref (X.2.1 i) :: As) (Pr D X ad n A J I L)) As :=
  ⟨Pr.blind _, va_recvE hZ.1 hi hV.2.2, fun _ hU hW => ⟨rfl, Pr.here hK hV hA hZ hU hW.alike⟩⟩
theorem k_calli {q : Int32 → MI → ML → Prop} (hr : va_Run p l e R s m args below meth c H locs cells slots 0 0 (F0 m pc ls st0) rest (QI D X ad n A J q a) A) (hV : Wd D X ad n A s.heap J I L H locs)
    (kk : ∀ (r : Int32) (I : MI) (L : ML) (H : Heap) (locs : List Loc), q r I L → Wd D X ad n A s.heap J I L H locs → W p l e R s m args below meth c H locs cells slots Q (F0 m (pc + 3) ls (.int r :: rest))) : W p l e R s m args below meth c H locs cells slots Q (F0 m pc ls st0) :=
  va_calli hr hV.2.2 (fun _ _ h => h) (fun _ h => h) (fun r u _ H1 locs1 ht _ hq hB _ _ hS => kk r u.1 u.2 H1 locs1 hq ⟨by rw [← ht]; exact hB.1, hB.2.2.1, hS⟩)
theorem k_callv {q : MI → ML → Prop} (hr : va_Run p l e R s m args below meth c H locs cells slots 0 0 (F0 m pc ls st0) rest (QV D X ad n A J q a) A) (hV : Wd D X ad n A s.heap J I L H locs)
    (kk : ∀ (I : MI) (L : ML) (H : Heap) (locs : List Loc), q I L → Wd D X ad n A s.heap J I L H locs → W p l e R s m args below meth c H locs cells slots Q (F0 m (pc + 3) ls rest)) : W p l e R s m args below meth c H locs cells slots Q (F0 m pc ls st0) :=
  va_callv hr hV.2.2 (fun _ _ h => h) (fun _ h => h) (fun u _ H1 locs1 ht _ hq hB _ _ hS => kk u.1 u.2 H1 locs1 hq ⟨by rw [← ht]; exact hB.1, hB.2.2.1, hS⟩)
theorem k_calle {f : Nat → Nat} {τ : Nat → Prop} {q : Option Nat → MI → ML → Prop} (hr : va_Run p l e R s m args below meth c H locs cells slots 0 0 (F0 m pc ls st0) rest (QE f τ D X ad n A J q a) A) (hV : Wd D X ad n A s.heap J I L H locs)
    (kk : ∀ (r : Option Nat) (I : MI) (L : ML) (H : Heap) (locs : List Loc), q r I L → (∀ k, r = some k → τ k) → Wd D X ad n A s.heap J I L H locs → W p l e R s m args below meth c H locs cells slots Q (F0 m (pc + 3) ls (va_rf (r.map f) :: rest))) : W p l e R s m args below meth c H locs cells slots Q (F0 m pc ls st0) :=
  va_calle hr hV.2.2 (fun _ _ h => h) (fun _ h => h) (fun r u _ H1 locs1 ht _ hq hB _ _ hS => kk r u.1 u.2 H1 locs1 hq.1 hq.2 ⟨by rw [← ht]; exact hB.1, hB.2.2.1, hS⟩)
end MC
end
